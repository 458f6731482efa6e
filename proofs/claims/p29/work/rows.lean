section
-- ===== PART A: goes FIRST, ahead of the names: the tables' words, and 'selects' of the private methods out of them =====
/-- a private method of a class that the tables say can be made, by its rows of tables_1 -/
def lw_okq (q : MethodName × Nat) : Prop := (q.1.cls ≠ "java/lang/invoke/MethodHandle" ∧ q.1.cls ≠ "java/lang/invoke/VarHandle") ∧ Cond.instantiable q.1.cls q.2 ∈ tables_1 ∧ Cond.privateMethod q.1 ∈ tables_1 ∧ Cond.instanceMethod q.1 ∈ tables_1
theorem lw_p0 : lw_okq (⟨"HeroTable$Table", "heroAt", "(II)I"⟩, 13) := ⟨⟨by decide +kernel, by decide +kernel⟩, List.mem_of_getElem? (i := 52) (by decide +kernel), List.mem_of_getElem? (i := 321) (by decide +kernel), List.mem_of_getElem? (i := 322) (by decide +kernel)⟩
theorem lw_p1 : lw_okq (⟨"HeroTable$Table", "placeInOrder", "(I)V"⟩, 13) := ⟨⟨by decide +kernel, by decide +kernel⟩, List.mem_of_getElem? (i := 52) (by decide +kernel), List.mem_of_getElem? (i := 593) (by decide +kernel), List.mem_of_getElem? (i := 594) (by decide +kernel)⟩
theorem lw_p2 : lw_okq (⟨"HeroTable$Table", "beginTurn", "(I)I"⟩, 13) := ⟨⟨by decide +kernel, by decide +kernel⟩, List.mem_of_getElem? (i := 52) (by decide +kernel), List.mem_of_getElem? (i := 597) (by decide +kernel), List.mem_of_getElem? (i := 598) (by decide +kernel)⟩
theorem lw_p3 : lw_okq (⟨"HeroTable$Table", "check", "(I)I"⟩, 13) := ⟨⟨by decide +kernel, by decide +kernel⟩, List.mem_of_getElem? (i := 52) (by decide +kernel), List.mem_of_getElem? (i := 623) (by decide +kernel), List.mem_of_getElem? (i := 624) (by decide +kernel)⟩
theorem lw_p4 : lw_okq (⟨"HeroTable$Table", "suffers", "(II)Z"⟩, 13) := ⟨⟨by decide +kernel, by decide +kernel⟩, List.mem_of_getElem? (i := 52) (by decide +kernel), List.mem_of_getElem? (i := 643) (by decide +kernel), List.mem_of_getElem? (i := 644) (by decide +kernel)⟩
theorem lw_p5 : lw_okq (⟨"HeroTable$Table", "distance", "(II)I"⟩, 13) := ⟨⟨by decide +kernel, by decide +kernel⟩, List.mem_of_getElem? (i := 52) (by decide +kernel), List.mem_of_getElem? (i := 651) (by decide +kernel), List.mem_of_getElem? (i := 652) (by decide +kernel)⟩
theorem lw_p6 : lw_okq (⟨"HeroTable$Table", "strike", "(III)I"⟩, 13) := ⟨⟨by decide +kernel, by decide +kernel⟩, List.mem_of_getElem? (i := 52) (by decide +kernel), List.mem_of_getElem? (i := 662) (by decide +kernel), List.mem_of_getElem? (i := 663) (by decide +kernel)⟩
theorem lw_p7 : lw_okq (⟨"HeroTable$Table", "reactToAttack", "(III)I"⟩, 13) := ⟨⟨by decide +kernel, by decide +kernel⟩, List.mem_of_getElem? (i := 52) (by decide +kernel), List.mem_of_getElem? (i := 666) (by decide +kernel), List.mem_of_getElem? (i := 667) (by decide +kernel)⟩
theorem lw_p8 : lw_okq (⟨"HeroTable$Table", "rollAttack", "(II)I"⟩, 13) := ⟨⟨by decide +kernel, by decide +kernel⟩, List.mem_of_getElem? (i := 52) (by decide +kernel), List.mem_of_getElem? (i := 679) (by decide +kernel), List.mem_of_getElem? (i := 680) (by decide +kernel)⟩
theorem lw_p9 : lw_okq (⟨"HeroTable$Table", "harm", "(II)V"⟩, 13) := ⟨⟨by decide +kernel, by decide +kernel⟩, List.mem_of_getElem? (i := 52) (by decide +kernel), List.mem_of_getElem? (i := 683) (by decide +kernel), List.mem_of_getElem? (i := 684) (by decide +kernel)⟩
theorem lw_p10 : lw_okq (⟨"HeroTable$Table", "reactToStep", "(III)V"⟩, 13) := ⟨⟨by decide +kernel, by decide +kernel⟩, List.mem_of_getElem? (i := 52) (by decide +kernel), List.mem_of_getElem? (i := 703) (by decide +kernel), List.mem_of_getElem? (i := 704) (by decide +kernel)⟩
theorem lw_p11 : lw_okq (⟨"HeroTable$Table", "reactToSpell", "(I)Z"⟩, 13) := ⟨⟨by decide +kernel, by decide +kernel⟩, List.mem_of_getElem? (i := 52) (by decide +kernel), List.mem_of_getElem? (i := 746) (by decide +kernel), List.mem_of_getElem? (i := 747) (by decide +kernel)⟩
theorem lw_p12 : lw_okq (⟨"HeroTable$Table", "burn", "(II)V"⟩, 13) := ⟨⟨by decide +kernel, by decide +kernel⟩, List.mem_of_getElem? (i := 52) (by decide +kernel), List.mem_of_getElem? (i := 750) (by decide +kernel), List.mem_of_getElem? (i := 751) (by decide +kernel)⟩
theorem lw_p13 : lw_okq (⟨"HeroTable$Table", "bless", "(III)V"⟩, 13) := ⟨⟨by decide +kernel, by decide +kernel⟩, List.mem_of_getElem? (i := 52) (by decide +kernel), List.mem_of_getElem? (i := 754) (by decide +kernel), List.mem_of_getElem? (i := 755) (by decide +kernel)⟩
theorem lw_p14 : lw_okq (⟨"HeroTable$Table", "hold", "(III)Z"⟩, 13) := ⟨⟨by decide +kernel, by decide +kernel⟩, List.mem_of_getElem? (i := 52) (by decide +kernel), List.mem_of_getElem? (i := 758) (by decide +kernel), List.mem_of_getElem? (i := 759) (by decide +kernel)⟩
theorem lw_p15 : lw_okq (⟨"java/lang/Throwable", "fillInStackTrace", "(I)Ljava/lang/Throwable;"⟩, 6) := ⟨⟨by decide +kernel, by decide +kernel⟩, List.mem_of_getElem? (i := 823) (by decide +kernel), List.mem_of_getElem? (i := 821) (by decide +kernel), List.mem_of_getElem? (i := 822) (by decide +kernel)⟩
def lw_privs_1 : List (MethodName × Nat) := [(⟨"HeroTable$Table", "heroAt", "(II)I"⟩, 13), (⟨"HeroTable$Table", "placeInOrder", "(I)V"⟩, 13), (⟨"HeroTable$Table", "beginTurn", "(I)I"⟩, 13), (⟨"HeroTable$Table", "check", "(I)I"⟩, 13), (⟨"HeroTable$Table", "suffers", "(II)Z"⟩, 13), (⟨"HeroTable$Table", "distance", "(II)I"⟩, 13), (⟨"HeroTable$Table", "strike", "(III)I"⟩, 13), (⟨"HeroTable$Table", "reactToAttack", "(III)I"⟩, 13), (⟨"HeroTable$Table", "rollAttack", "(II)I"⟩, 13), (⟨"HeroTable$Table", "harm", "(II)V"⟩, 13), (⟨"HeroTable$Table", "reactToStep", "(III)V"⟩, 13), (⟨"HeroTable$Table", "reactToSpell", "(I)Z"⟩, 13), (⟨"HeroTable$Table", "burn", "(II)V"⟩, 13), (⟨"HeroTable$Table", "bless", "(III)V"⟩, 13), (⟨"HeroTable$Table", "hold", "(III)Z"⟩, 13), (⟨"java/lang/Throwable", "fillInStackTrace", "(I)Ljava/lang/Throwable;"⟩, 6)]
theorem lw_r1 : ∀ q ∈ lw_privs_1, lw_okq q := List.forall_mem_cons.mpr ⟨lw_p0, List.forall_mem_cons.mpr ⟨lw_p1, List.forall_mem_cons.mpr ⟨lw_p2, List.forall_mem_cons.mpr ⟨lw_p3, List.forall_mem_cons.mpr ⟨lw_p4, List.forall_mem_cons.mpr ⟨lw_p5, List.forall_mem_cons.mpr ⟨lw_p6, List.forall_mem_cons.mpr ⟨lw_p7, List.forall_mem_cons.mpr ⟨lw_p8, List.forall_mem_cons.mpr ⟨lw_p9, List.forall_mem_cons.mpr ⟨lw_p10, List.forall_mem_cons.mpr ⟨lw_p11, List.forall_mem_cons.mpr ⟨lw_p12, List.forall_mem_cons.mpr ⟨lw_p13, List.forall_mem_cons.mpr ⟨lw_p14, List.forall_mem_cons.mpr ⟨lw_p15, fun _ h => absurd h List.not_mem_nil⟩⟩⟩⟩⟩⟩⟩⟩⟩⟩⟩⟩⟩⟩⟩⟩
theorem lw_p16 : lw_okq (⟨"HeroTable", "knownHero", "(I)LHeroTable$Hero;"⟩, 3) := ⟨⟨by decide +kernel, by decide +kernel⟩, List.mem_of_getElem? (i := 44) (by decide +kernel), List.mem_of_getElem? (i := 985) (by decide +kernel), List.mem_of_getElem? (i := 986) (by decide +kernel)⟩
theorem lw_p17 : lw_okq (⟨"HeroTableModel", "isOn", "()Z"⟩, 14) := ⟨⟨by decide +kernel, by decide +kernel⟩, List.mem_of_getElem? (i := 1239) (by decide +kernel), List.mem_of_getElem? (i := 1362) (by decide +kernel), List.mem_of_getElem? (i := 1363) (by decide +kernel)⟩
theorem lw_p18 : lw_okq (⟨"HeroTableModel", "heroIn", "(II)LHeroTableModel$Hero;"⟩, 14) := ⟨⟨by decide +kernel, by decide +kernel⟩, List.mem_of_getElem? (i := 1239) (by decide +kernel), List.mem_of_getElem? (i := 1366) (by decide +kernel), List.mem_of_getElem? (i := 1367) (by decide +kernel)⟩
theorem lw_p19 : lw_okq (⟨"HeroTableModel", "keep", "(C[I)V"⟩, 14) := ⟨⟨by decide +kernel, by decide +kernel⟩, List.mem_of_getElem? (i := 1239) (by decide +kernel), List.mem_of_getElem? (i := 1433) (by decide +kernel), List.mem_of_getElem? (i := 1434) (by decide +kernel)⟩
theorem lw_p20 : lw_okq (⟨"java/util/ArrayList", "add", "(Ljava/lang/Object;[Ljava/lang/Object;I)V"⟩, 3) := ⟨⟨by decide +kernel, by decide +kernel⟩, List.mem_of_getElem? (i := 1245) (by decide +kernel), List.mem_of_getElem? (i := 1461) (by decide +kernel), List.mem_of_getElem? (i := 1462) (by decide +kernel)⟩
theorem lw_p21 : lw_okq (⟨"java/util/ArrayList", "grow", "()[Ljava/lang/Object;"⟩, 3) := ⟨⟨by decide +kernel, by decide +kernel⟩, List.mem_of_getElem? (i := 1245) (by decide +kernel), List.mem_of_getElem? (i := 1465) (by decide +kernel), List.mem_of_getElem? (i := 1466) (by decide +kernel)⟩
theorem lw_p22 : lw_okq (⟨"java/util/ArrayList", "grow", "(I)[Ljava/lang/Object;"⟩, 3) := ⟨⟨by decide +kernel, by decide +kernel⟩, List.mem_of_getElem? (i := 1245) (by decide +kernel), List.mem_of_getElem? (i := 1469) (by decide +kernel), List.mem_of_getElem? (i := 1470) (by decide +kernel)⟩
theorem lw_p23 : lw_okq (⟨"HeroTableModel", "isHero", "(I)Z"⟩, 14) := ⟨⟨by decide +kernel, by decide +kernel⟩, List.mem_of_getElem? (i := 1239) (by decide +kernel), List.mem_of_getElem? (i := 1589) (by decide +kernel), List.mem_of_getElem? (i := 1590) (by decide +kernel)⟩
theorem lw_p24 : lw_okq (⟨"HeroTableModel", "seesCell", "(LHeroTableModel$Hero;II)Z"⟩, 14) := ⟨⟨by decide +kernel, by decide +kernel⟩, List.mem_of_getElem? (i := 1239) (by decide +kernel), List.mem_of_getElem? (i := 1642) (by decide +kernel), List.mem_of_getElem? (i := 1643) (by decide +kernel)⟩
theorem lw_p25 : lw_okq (⟨"HeroTableModel", "has", "(LHeroTableModel$Hero;C)Z"⟩, 14) := ⟨⟨by decide +kernel, by decide +kernel⟩, List.mem_of_getElem? (i := 1239) (by decide +kernel), List.mem_of_getElem? (i := 1646) (by decide +kernel), List.mem_of_getElem? (i := 1647) (by decide +kernel)⟩
theorem lw_p26 : lw_okq (⟨"HeroTableModel", "isLine", "(IIII)Z"⟩, 14) := ⟨⟨by decide +kernel, by decide +kernel⟩, List.mem_of_getElem? (i := 1239) (by decide +kernel), List.mem_of_getElem? (i := 1655) (by decide +kernel), List.mem_of_getElem? (i := 1656) (by decide +kernel)⟩
theorem lw_p27 : lw_okq (⟨"HeroTableModel", "add", "(ICCIII)LHeroTableModel$Source;"⟩, 14) := ⟨⟨by decide +kernel, by decide +kernel⟩, List.mem_of_getElem? (i := 1239) (by decide +kernel), List.mem_of_getElem? (i := 1671) (by decide +kernel), List.mem_of_getElem? (i := 1672) (by decide +kernel)⟩
theorem lw_p28 : lw_okq (⟨"HeroTableModel", "number", "(LHeroTableModel$Hero;C)I"⟩, 14) := ⟨⟨by decide +kernel, by decide +kernel⟩, List.mem_of_getElem? (i := 1239) (by decide +kernel), List.mem_of_getElem? (i := 1740) (by decide +kernel), List.mem_of_getElem? (i := 1741) (by decide +kernel)⟩
theorem lw_p29 : lw_okq (⟨"java/util/ArrayDeque", "grow", "(I)V"⟩, 3) := ⟨⟨by decide +kernel, by decide +kernel⟩, List.mem_of_getElem? (i := 1274) (by decide +kernel), List.mem_of_getElem? (i := 1790) (by decide +kernel), List.mem_of_getElem? (i := 1791) (by decide +kernel)⟩
theorem lw_p30 : lw_okq (⟨"java/util/ArrayDeque", "newCapacity", "(II)I"⟩, 3) := ⟨⟨by decide +kernel, by decide +kernel⟩, List.mem_of_getElem? (i := 1274) (by decide +kernel), List.mem_of_getElem? (i := 1795) (by decide +kernel), List.mem_of_getElem? (i := 1796) (by decide +kernel)⟩
theorem lw_p31 : lw_okq (⟨"java/util/ArrayList", "rangeCheckForAdd", "(I)V"⟩, 3) := ⟨⟨by decide +kernel, by decide +kernel⟩, List.mem_of_getElem? (i := 1245) (by decide +kernel), List.mem_of_getElem? (i := 1847) (by decide +kernel), List.mem_of_getElem? (i := 1848) (by decide +kernel)⟩
def lw_privs_2 : List (MethodName × Nat) := [(⟨"HeroTable", "knownHero", "(I)LHeroTable$Hero;"⟩, 3), (⟨"HeroTableModel", "isOn", "()Z"⟩, 14), (⟨"HeroTableModel", "heroIn", "(II)LHeroTableModel$Hero;"⟩, 14), (⟨"HeroTableModel", "keep", "(C[I)V"⟩, 14), (⟨"java/util/ArrayList", "add", "(Ljava/lang/Object;[Ljava/lang/Object;I)V"⟩, 3), (⟨"java/util/ArrayList", "grow", "()[Ljava/lang/Object;"⟩, 3), (⟨"java/util/ArrayList", "grow", "(I)[Ljava/lang/Object;"⟩, 3), (⟨"HeroTableModel", "isHero", "(I)Z"⟩, 14), (⟨"HeroTableModel", "seesCell", "(LHeroTableModel$Hero;II)Z"⟩, 14), (⟨"HeroTableModel", "has", "(LHeroTableModel$Hero;C)Z"⟩, 14), (⟨"HeroTableModel", "isLine", "(IIII)Z"⟩, 14), (⟨"HeroTableModel", "add", "(ICCIII)LHeroTableModel$Source;"⟩, 14), (⟨"HeroTableModel", "number", "(LHeroTableModel$Hero;C)I"⟩, 14), (⟨"java/util/ArrayDeque", "grow", "(I)V"⟩, 3), (⟨"java/util/ArrayDeque", "newCapacity", "(II)I"⟩, 3), (⟨"java/util/ArrayList", "rangeCheckForAdd", "(I)V"⟩, 3)]
theorem lw_r2 : ∀ q ∈ lw_privs_2, lw_okq q := List.forall_mem_cons.mpr ⟨lw_p16, List.forall_mem_cons.mpr ⟨lw_p17, List.forall_mem_cons.mpr ⟨lw_p18, List.forall_mem_cons.mpr ⟨lw_p19, List.forall_mem_cons.mpr ⟨lw_p20, List.forall_mem_cons.mpr ⟨lw_p21, List.forall_mem_cons.mpr ⟨lw_p22, List.forall_mem_cons.mpr ⟨lw_p23, List.forall_mem_cons.mpr ⟨lw_p24, List.forall_mem_cons.mpr ⟨lw_p25, List.forall_mem_cons.mpr ⟨lw_p26, List.forall_mem_cons.mpr ⟨lw_p27, List.forall_mem_cons.mpr ⟨lw_p28, List.forall_mem_cons.mpr ⟨lw_p29, List.forall_mem_cons.mpr ⟨lw_p30, List.forall_mem_cons.mpr ⟨lw_p31, fun _ h => absurd h List.not_mem_nil⟩⟩⟩⟩⟩⟩⟩⟩⟩⟩⟩⟩⟩⟩⟩⟩
theorem lw_p32 : lw_okq (⟨"java/util/ArrayList", "outOfBoundsMsg", "(I)Ljava/lang/String;"⟩, 3) := ⟨⟨by decide +kernel, by decide +kernel⟩, List.mem_of_getElem? (i := 1245) (by decide +kernel), List.mem_of_getElem? (i := 1852) (by decide +kernel), List.mem_of_getElem? (i := 1853) (by decide +kernel)⟩
theorem lw_p33 : lw_okq (⟨"HeroTableModel", "beginTurn", "()I"⟩, 14) := ⟨⟨by decide +kernel, by decide +kernel⟩, List.mem_of_getElem? (i := 1239) (by decide +kernel), List.mem_of_getElem? (i := 2050) (by decide +kernel), List.mem_of_getElem? (i := 2051) (by decide +kernel)⟩
theorem lw_p34 : lw_okq (⟨"HeroTableModel", "now", "()LHeroTableModel$Hero;"⟩, 14) := ⟨⟨by decide +kernel, by decide +kernel⟩, List.mem_of_getElem? (i := 1239) (by decide +kernel), List.mem_of_getElem? (i := 2054) (by decide +kernel), List.mem_of_getElem? (i := 2055) (by decide +kernel)⟩
theorem lw_p35 : lw_okq (⟨"HeroTableModel", "check", "(LHeroTableModel$Hero;)I"⟩, 14) := ⟨⟨by decide +kernel, by decide +kernel⟩, List.mem_of_getElem? (i := 1239) (by decide +kernel), List.mem_of_getElem? (i := 2062) (by decide +kernel), List.mem_of_getElem? (i := 2063) (by decide +kernel)⟩
theorem lw_p36 : lw_okq (⟨"HeroTableModel", "die", "()I"⟩, 14) := ⟨⟨by decide +kernel, by decide +kernel⟩, List.mem_of_getElem? (i := 1239) (by decide +kernel), List.mem_of_getElem? (i := 2066) (by decide +kernel), List.mem_of_getElem? (i := 2067) (by decide +kernel)⟩
theorem lw_p37 : lw_okq (⟨"HeroTableModel", "strike", "(LHeroTableModel$Hero;LHeroTableModel$Hero;)I"⟩, 14) := ⟨⟨by decide +kernel, by decide +kernel⟩, List.mem_of_getElem? (i := 1239) (by decide +kernel), List.mem_of_getElem? (i := 2122) (by decide +kernel), List.mem_of_getElem? (i := 2123) (by decide +kernel)⟩
theorem lw_p38 : lw_okq (⟨"HeroTableModel", "reacts", "(LHeroTableModel$Hero;C)C"⟩, 14) := ⟨⟨by decide +kernel, by decide +kernel⟩, List.mem_of_getElem? (i := 1239) (by decide +kernel), List.mem_of_getElem? (i := 2126) (by decide +kernel), List.mem_of_getElem? (i := 2127) (by decide +kernel)⟩
theorem lw_p39 : lw_okq (⟨"HeroTableModel", "harm", "(LHeroTableModel$Hero;I)V"⟩, 14) := ⟨⟨by decide +kernel, by decide +kernel⟩, List.mem_of_getElem? (i := 1239) (by decide +kernel), List.mem_of_getElem? (i := 2130) (by decide +kernel), List.mem_of_getElem? (i := 2131) (by decide +kernel)⟩
theorem lw_p40 : lw_okq (⟨"HeroTableModel", "isDownByHarm", "(LHeroTableModel$Hero;)Z"⟩, 14) := ⟨⟨by decide +kernel, by decide +kernel⟩, List.mem_of_getElem? (i := 1239) (by decide +kernel), List.mem_of_getElem? (i := 2134) (by decide +kernel), List.mem_of_getElem? (i := 2135) (by decide +kernel)⟩
theorem lw_p41 : lw_okq (⟨"HeroTableModel", "minds", "(LHeroTableModel$Hero;)Z"⟩, 14) := ⟨⟨by decide +kernel, by decide +kernel⟩, List.mem_of_getElem? (i := 1239) (by decide +kernel), List.mem_of_getElem? (i := 2138) (by decide +kernel), List.mem_of_getElem? (i := 2139) (by decide +kernel)⟩
theorem lw_p42 : lw_okq (⟨"HeroTableModel", "unmind", "(LHeroTableModel$Hero;)V"⟩, 14) := ⟨⟨by decide +kernel, by decide +kernel⟩, List.mem_of_getElem? (i := 1239) (by decide +kernel), List.mem_of_getElem? (i := 2142) (by decide +kernel), List.mem_of_getElem? (i := 2143) (by decide +kernel)⟩
theorem lw_p43 : lw_okq (⟨"HeroTableModel", "canStep", "(II)Z"⟩, 14) := ⟨⟨by decide +kernel, by decide +kernel⟩, List.mem_of_getElem? (i := 1239) (by decide +kernel), List.mem_of_getElem? (i := 2151) (by decide +kernel), List.mem_of_getElem? (i := 2152) (by decide +kernel)⟩
theorem lw_p44 : lw_okq (⟨"HeroTableModel", "cost", "(II)I"⟩, 14) := ⟨⟨by decide +kernel, by decide +kernel⟩, List.mem_of_getElem? (i := 1239) (by decide +kernel), List.mem_of_getElem? (i := 2155) (by decide +kernel), List.mem_of_getElem? (i := 2156) (by decide +kernel)⟩
theorem lw_p45 : lw_okq (⟨"HeroTableModel", "does", "(LHeroTableModel$Hero;CII)V"⟩, 14) := ⟨⟨by decide +kernel, by decide +kernel⟩, List.mem_of_getElem? (i := 1239) (by decide +kernel), List.mem_of_getElem? (i := 2172) (by decide +kernel), List.mem_of_getElem? (i := 2173) (by decide +kernel)⟩
theorem lw_p46 : lw_okq (⟨"HeroTableModel", "burn", "(II)V"⟩, 14) := ⟨⟨by decide +kernel, by decide +kernel⟩, List.mem_of_getElem? (i := 1239) (by decide +kernel), List.mem_of_getElem? (i := 2176) (by decide +kernel), List.mem_of_getElem? (i := 2177) (by decide +kernel)⟩
theorem lw_p47 : lw_okq (⟨"HeroTableModel", "does", "(LHeroTableModel$Call;[I)V"⟩, 14) := ⟨⟨by decide +kernel, by decide +kernel⟩, List.mem_of_getElem? (i := 1239) (by decide +kernel), List.mem_of_getElem? (i := 2198) (by decide +kernel), List.mem_of_getElem? (i := 2199) (by decide +kernel)⟩
def lw_privs_3 : List (MethodName × Nat) := [(⟨"java/util/ArrayList", "outOfBoundsMsg", "(I)Ljava/lang/String;"⟩, 3), (⟨"HeroTableModel", "beginTurn", "()I"⟩, 14), (⟨"HeroTableModel", "now", "()LHeroTableModel$Hero;"⟩, 14), (⟨"HeroTableModel", "check", "(LHeroTableModel$Hero;)I"⟩, 14), (⟨"HeroTableModel", "die", "()I"⟩, 14), (⟨"HeroTableModel", "strike", "(LHeroTableModel$Hero;LHeroTableModel$Hero;)I"⟩, 14), (⟨"HeroTableModel", "reacts", "(LHeroTableModel$Hero;C)C"⟩, 14), (⟨"HeroTableModel", "harm", "(LHeroTableModel$Hero;I)V"⟩, 14), (⟨"HeroTableModel", "isDownByHarm", "(LHeroTableModel$Hero;)Z"⟩, 14), (⟨"HeroTableModel", "minds", "(LHeroTableModel$Hero;)Z"⟩, 14), (⟨"HeroTableModel", "unmind", "(LHeroTableModel$Hero;)V"⟩, 14), (⟨"HeroTableModel", "canStep", "(II)Z"⟩, 14), (⟨"HeroTableModel", "cost", "(II)I"⟩, 14), (⟨"HeroTableModel", "does", "(LHeroTableModel$Hero;CII)V"⟩, 14), (⟨"HeroTableModel", "burn", "(II)V"⟩, 14), (⟨"HeroTableModel", "does", "(LHeroTableModel$Call;[I)V"⟩, 14)]
theorem lw_r3 : ∀ q ∈ lw_privs_3, lw_okq q := List.forall_mem_cons.mpr ⟨lw_p32, List.forall_mem_cons.mpr ⟨lw_p33, List.forall_mem_cons.mpr ⟨lw_p34, List.forall_mem_cons.mpr ⟨lw_p35, List.forall_mem_cons.mpr ⟨lw_p36, List.forall_mem_cons.mpr ⟨lw_p37, List.forall_mem_cons.mpr ⟨lw_p38, List.forall_mem_cons.mpr ⟨lw_p39, List.forall_mem_cons.mpr ⟨lw_p40, List.forall_mem_cons.mpr ⟨lw_p41, List.forall_mem_cons.mpr ⟨lw_p42, List.forall_mem_cons.mpr ⟨lw_p43, List.forall_mem_cons.mpr ⟨lw_p44, List.forall_mem_cons.mpr ⟨lw_p45, List.forall_mem_cons.mpr ⟨lw_p46, List.forall_mem_cons.mpr ⟨lw_p47, fun _ h => absurd h List.not_mem_nil⟩⟩⟩⟩⟩⟩⟩⟩⟩⟩⟩⟩⟩⟩⟩⟩
theorem lw_p48 : lw_okq (⟨"HeroTableModel", "acts", "(C[I)V"⟩, 14) := ⟨⟨by decide +kernel, by decide +kernel⟩, List.mem_of_getElem? (i := 1239) (by decide +kernel), List.mem_of_getElem? (i := 2212) (by decide +kernel), List.mem_of_getElem? (i := 2213) (by decide +kernel)⟩
def lw_privs_4 : List (MethodName × Nat) := [(⟨"HeroTableModel", "acts", "(C[I)V"⟩, 14)]
theorem lw_r4 : ∀ q ∈ lw_privs_4, lw_okq q := List.forall_mem_cons.mpr ⟨lw_p48, fun _ h => absurd h List.not_mem_nil⟩
def lw_privs : List (MethodName × Nat) := lw_privs_1 ++ (lw_privs_2 ++ (lw_privs_3 ++ (lw_privs_4)))
def lw_tbl : List Cond := k2_sels lw_privs ++ tables_1
theorem lw_privs_ok : ∀ q ∈ lw_privs, lw_okq q := by
  show ∀ q ∈ lw_privs_1 ++ (lw_privs_2 ++ (lw_privs_3 ++ (lw_privs_4))), lw_okq q
  exact List.forall_mem_append.mpr ⟨lw_r1, List.forall_mem_append.mpr ⟨lw_r2, List.forall_mem_append.mpr ⟨lw_r3, lw_r4⟩⟩⟩
/-- the streams that the claim lets the run draw from -/
abbrev lw_cs : List Choice := [Jvm.Choice.named "NaN.bits"]
theorem lw_bits : nanBits ∈ lw_cs := by first | decide | exact List.mem_cons_self | simp [lw_cs, nanBits]
end
section
def RX0 : String := "HeroTable$Dice"
def RX1 : String := "HeroTable$Ground"
def RX2 : String := "HeroTable$Hero"
def RX3 : String := "HeroTable$Source"
def RX4 : String := "HeroTable$Sources"
def RX5 : String := "HeroTable$Table"
def RX6 : String := "HeroTable$Transcript"
def RX7 : String := "HeroTable"
def RX8 : String := "HeroTableModel$Call"
def TX8 : u_T := fun k => match k with
  | 0 => ("HeroTableModel$Call", "what", "C", true)
  | _ => ("HeroTableModel$Call", "numbers", "[I", true)
def tyX8 : Nat → FieldType := fun k => match k with
  | 0 => .char
  | _ => .array .int
abbrev wsX80 : List Cond := u_ws RX8 TX8 2
theorem nmX8 : ∀ a, a < 2 → ∀ b, b < 2 → a ≠ b → (TX8 a).2.1 ≠ (TX8 b).2.1 := by decide +kernel
theorem tyX8_ok : ∀ k, k < 2 → parseFieldDescriptor (TX8 k).2.2.1 = some (tyX8 k) := by decide +kernel
abbrev cX8_init : ByteArray := prog_11_method_1_code
def yX8_init : MethodName := ⟨RX8, "<init>", "(C[I)V"⟩
def RX9 : String := "HeroTableModel$Hero"
def TX9 : u_T := fun k => match k with
  | 0 => ("HeroTableModel$Hero", "number", "I", true)
  | 1 => ("HeroTableModel$Hero", "side", "I", true)
  | 2 => ("HeroTableModel$Hero", "most", "I", true)
  | 3 => ("HeroTableModel$Hero", "initiative", "I", true)
  | 4 => ("HeroTableModel$Hero", "bases", "[I", true)
  | 5 => ("HeroTableModel$Hero", "life", "I", false)
  | 6 => ("HeroTableModel$Hero", "spare", "I", false)
  | 7 => ("HeroTableModel$Hero", "x", "I", false)
  | 8 => ("HeroTableModel$Hero", "y", "I", false)
  | 9 => ("HeroTableModel$Hero", "immune", "I", false)
  | 10 => ("HeroTableModel$Hero", "slots", "I", false)
  | 11 => ("HeroTableModel$Hero", "hasReaction", "Z", false)
  | 12 => ("HeroTableModel$Hero", "trigger", "C", false)
  | _ => ("HeroTableModel$Hero", "reaction", "C", false)
def tyX9 : Nat → FieldType := fun k => match k with
  | 0 => .int
  | 1 => .int
  | 2 => .int
  | 3 => .int
  | 4 => .array .int
  | 5 => .int
  | 6 => .int
  | 7 => .int
  | 8 => .int
  | 9 => .int
  | 10 => .int
  | 11 => .boolean
  | 12 => .char
  | _ => .char
abbrev wsX90 : List Cond := u_ws RX9 TX9 14
theorem nmX9 : ∀ a, a < 14 → ∀ b, b < 14 → a ≠ b → (TX9 a).2.1 ≠ (TX9 b).2.1 := by decide +kernel
theorem tyX9_ok : ∀ k, k < 14 → parseFieldDescriptor (TX9 k).2.2.1 = some (tyX9 k) := by decide +kernel
def RX10 : String := "HeroTableModel$Source"
def TX10 : u_T := fun k => match k with
  | 0 => ("HeroTableModel$Source", "hero", "I", true)
  | 1 => ("HeroTableModel$Source", "letter", "C", true)
  | 2 => ("HeroTableModel$Source", "type", "C", true)
  | 3 => ("HeroTableModel$Source", "amount", "I", true)
  | 4 => ("HeroTableModel$Source", "whose", "I", true)
  | 5 => ("HeroTableModel$Source", "hasRounds", "Z", true)
  | 6 => ("HeroTableModel$Source", "rounds", "I", false)
  | 7 => ("HeroTableModel$Source", "isLive", "Z", false)
  | 8 => ("HeroTableModel$Source", "minder", "I", false)
  | _ => ("HeroTableModel$Source", "isOfHarm", "Z", false)
def tyX10 : Nat → FieldType := fun k => match k with
  | 0 => .int
  | 1 => .char
  | 2 => .char
  | 3 => .int
  | 4 => .int
  | 5 => .boolean
  | 6 => .int
  | 7 => .boolean
  | 8 => .int
  | _ => .boolean
abbrev wsX100 : List Cond := u_ws RX10 TX10 10
theorem nmX10 : ∀ a, a < 10 → ∀ b, b < 10 → a ≠ b → (TX10 a).2.1 ≠ (TX10 b).2.1 := by decide +kernel
theorem tyX10_ok : ∀ k, k < 10 → parseFieldDescriptor (TX10 k).2.2.1 = some (tyX10 k) := by decide +kernel
def RX11 : String := "HeroTableModel"
def TX11 : u_T := fun k => match k with
  | 0 => ("HeroTableModel", "heroes", "Ljava/util/List;", true)
  | 1 => ("HeroTableModel", "ground", "[C", true)
  | 2 => ("HeroTableModel", "sources", "Ljava/util/List;", true)
  | 3 => ("HeroTableModel", "dice", "Ljava/util/ArrayDeque;", true)
  | 4 => ("HeroTableModel", "calls", "Ljava/util/List;", true)
  | 5 => ("HeroTableModel", "order", "Ljava/util/List;", true)
  | 6 => ("HeroTableModel", "at", "I", false)
  | 7 => ("HeroTableModel", "round", "I", false)
  | 8 => ("HeroTableModel", "steps", "I", false)
  | 9 => ("HeroTableModel", "hasAction", "Z", false)
  | 10 => ("HeroTableModel", "harmDone", "J", false)
  | 11 => ("HeroTableModel", "attacks", "I", false)
  | 12 => ("HeroTableModel", "hits", "I", false)
  | _ => ("HeroTableModel", "thrown", "I", false)
def tyX11 : Nat → FieldType := fun k => match k with
  | 0 => .object "java/util/List"
  | 1 => .array .char
  | 2 => .object "java/util/List"
  | 3 => .object "java/util/ArrayDeque"
  | 4 => .object "java/util/List"
  | 5 => .object "java/util/List"
  | 6 => .int
  | 7 => .int
  | 8 => .int
  | 9 => .boolean
  | 10 => .long
  | 11 => .int
  | 12 => .int
  | _ => .int
abbrev wsX110 : List Cond := u_ws RX11 TX11 14
theorem nmX11 : ∀ a, a < 14 → ∀ b, b < 14 → a ≠ b → (TX11 a).2.1 ≠ (TX11 b).2.1 := by decide +kernel
theorem tyX11_ok : ∀ k, k < 14 → parseFieldDescriptor (TX11 k).2.2.1 = some (tyX11 k) := by decide +kernel
abbrev cX11_isOn : ByteArray := prog_10_method_6_code
def yX11_isOn : MethodName := ⟨RX11, "isOn", "()Z"⟩
abbrev cX11_now : ByteArray := prog_10_method_7_code
def yX11_now : MethodName := ⟨RX11, "now", "()LHeroTableModel$Hero;"⟩
abbrev cX11_keep : ByteArray := prog_10_method_8_code
def yX11_keep : MethodName := ⟨RX11, "keep", "(C[I)V"⟩
abbrev cX11_number : ByteArray := prog_10_method_29_code
def yX11_number : MethodName := ⟨RX11, "number", "(LHeroTableModel$Hero;C)I"⟩
abbrev cX11_die : ByteArray := prog_10_method_35_code
def yX11_die : MethodName := ⟨RX11, "die", "()I"⟩
abbrev cX11_check : ByteArray := prog_10_method_36_code
def yX11_check : MethodName := ⟨RX11, "check", "(LHeroTableModel$Hero;)I"⟩
abbrev cX11_beginTurn : ByteArray := prog_10_method_39_code
def yX11_beginTurn : MethodName := ⟨RX11, "beginTurn", "()I"⟩
abbrev cX11_endTurn : ByteArray := prog_10_method_41_code
def yX11_endTurn : MethodName := ⟨RX11, "endTurn", "()I"⟩
def RJx145de : String := "java/io/Serializable"
def RJ5 : String := "java/lang/AbstractStringBuilder"
def RJx2cfe8 : String := "java/lang/Appendable"
def RJx00060 : String := "java/lang/ArrayIndexOutOfBoundsException"
def RJx9f9b0 : String := "java/lang/CharSequence"
def RJ11 : String := "java/lang/Character"
def RJx8e188 : String := "java/lang/Cloneable"
def RJxb160c : String := "java/lang/Comparable"
def RJxabbfe : String := "java/lang/Integer$IntegerCache"
def RJ6 : String := "java/lang/Integer"
def RJxab1ab : String := "java/lang/Iterable"
def RJ9 : String := "java/lang/Math"
def RJxd2413 : String := "java/lang/Number"
def RJ0 : String := "java/lang/String"
abbrev cJ0_length_8abf5 : ByteArray := prog_33_method_54_code
def yJ0_length_8abf5 : MethodName := ⟨RJ0, "length", "()I"⟩
abbrev cJ0_indexOf_0f7a4 : ByteArray := prog_33_method_79_code
def yJ0_indexOf_0f7a4 : MethodName := ⟨RJ0, "indexOf", "(I)I"⟩
abbrev cJ0_indexOf_7cf53 : ByteArray := prog_33_method_80_code
def yJ0_indexOf_7cf53 : MethodName := ⟨RJ0, "indexOf", "(II)I"⟩
abbrev cJ0_coder_7d493 : ByteArray := prog_33_method_152_code
def yJ0_coder_7d493 : MethodName := ⟨RJ0, "coder", "()B"⟩
abbrev cJ0_isLatin1_aae02 : ByteArray := prog_33_method_154_code
def yJ0_isLatin1_aae02 : MethodName := ⟨RJ0, "isLatin1", "()Z"⟩
def RJ4 : String := "java/lang/StringBuilder"
def RJ1 : String := "java/lang/StringLatin1"
abbrev cJ1_canEncode_9a6ad : ByteArray := prog_35_method_4_code
def yJ1_canEncode_9a6ad : MethodName := ⟨RJ1, "canEncode", "(I)Z"⟩
abbrev cJ1_indexOf_4cfef : ByteArray := prog_35_method_22_code
def yJ1_indexOf_4cfef : MethodName := ⟨RJ1, "indexOf", "([BIII)I"⟩
abbrev cJ1_indexOfChar_4cfef : ByteArray := prog_35_method_23_code
def yJ1_indexOfChar_4cfef : MethodName := ⟨RJ1, "indexOfChar", "([BIII)I"⟩
def RJ2 : String := "java/lang/StringUTF16"
def RJ10 : String := "java/lang/System"
def RJxfd54e : String := "java/lang/constant/Constable"
def RJx3cf43 : String := "java/lang/constant/ConstantDesc"
def RJxa1e45 : String := "java/util/AbstractCollection"
def RJxc12de : String := "java/util/AbstractList"
def RX12 : String := "java/util/ArrayDeque"
abbrev cX12_isEmpty : ByteArray := prog_44_method_38_code
def yX12_isEmpty : MethodName := ⟨RX12, "isEmpty", "()Z"⟩
def RJx35411 : String := "java/util/ArrayList$Itr"
def TJx35411 : u_T := fun k => match k with
  | 0 => ("java/util/ArrayList$Itr", "cursor", "I", false)
  | 1 => ("java/util/ArrayList$Itr", "lastRet", "I", false)
  | 2 => ("java/util/ArrayList$Itr", "expectedModCount", "I", false)
  | _ => ("java/util/ArrayList$Itr", "this$0", "Ljava/util/ArrayList;", true)
def tyJx35411 : Nat → FieldType := fun k => match k with
  | 0 => .int
  | 1 => .int
  | 2 => .int
  | _ => .object "java/util/ArrayList"
abbrev wsJx354110 : List Cond := u_ws RJx35411 TJx35411 4
theorem nmJx35411 : ∀ a, a < 4 → ∀ b, b < 4 → a ≠ b → (TJx35411 a).2.1 ≠ (TJx35411 b).2.1 := by decide +kernel
theorem tyJx35411_ok : ∀ k, k < 4 → parseFieldDescriptor (TJx35411 k).2.2.1 = some (tyJx35411 k) := by decide +kernel
abbrev cJx35411_init_45d68 : ByteArray := prog_46_method_1_code
def yJx35411_init_45d68 : MethodName := ⟨RJx35411, "<init>", "(Ljava/util/ArrayList;)V"⟩
abbrev cJx35411_hasNext_aae02 : ByteArray := prog_46_method_2_code
def yJx35411_hasNext_aae02 : MethodName := ⟨RJx35411, "hasNext", "()Z"⟩
abbrev cJx35411_next_0502b : ByteArray := prog_46_method_3_code
def yJx35411_next_0502b : MethodName := ⟨RJx35411, "next", "()Ljava/lang/Object;"⟩
abbrev cJx35411_checkForComodification_da8c8 : ByteArray := prog_46_method_6_code
def yJx35411_checkForComodification_da8c8 : MethodName := ⟨RJx35411, "checkForComodification", "()V"⟩
def RJx4a65c : String := "java/util/ArrayList"
def TJx4a65c : u_T := fun k => match k with
  | 0 => ("java/util/AbstractList", "modCount", "I", false)
  | 1 => ("java/util/ArrayList", "elementData", "[Ljava/lang/Object;", false)
  | _ => ("java/util/ArrayList", "size", "I", false)
def tyJx4a65c : Nat → FieldType := fun k => match k with
  | 0 => .int
  | 1 => .array (.object "java/lang/Object")
  | _ => .int
abbrev wsJx4a65c0 : List Cond := u_ws RJx4a65c TJx4a65c 3
theorem nmJx4a65c : ∀ a, a < 3 → ∀ b, b < 3 → a ≠ b → (TJx4a65c a).2.1 ≠ (TJx4a65c b).2.1 := by decide +kernel
theorem tyJx4a65c_ok : ∀ k, k < 3 → parseFieldDescriptor (TJx4a65c k).2.2.1 = some (tyJx4a65c k) := by decide +kernel
abbrev cJx4a65c_size_8abf5 : ByteArray := prog_45_method_8_code
def yJx4a65c_size_8abf5 : MethodName := ⟨RJx4a65c, "size", "()I"⟩
abbrev cJx4a65c_elementData_915e3 : ByteArray := prog_45_method_18_code
def yJx4a65c_elementData_915e3 : MethodName := ⟨RJx4a65c, "elementData", "(I)Ljava/lang/Object;"⟩
abbrev cJx4a65c_get_915e3 : ByteArray := prog_45_method_20_code
def yJx4a65c_get_915e3 : MethodName := ⟨RJx4a65c, "get", "(I)Ljava/lang/Object;"⟩
abbrev cJx4a65c_add_72be8 : ByteArray := prog_45_method_24_code
def yJx4a65c_add_72be8 : MethodName := ⟨RJx4a65c, "add", "(Ljava/lang/Object;[Ljava/lang/Object;I)V"⟩
abbrev cJx4a65c_add_9ea2d : ByteArray := prog_45_method_25_code
def yJx4a65c_add_9ea2d : MethodName := ⟨RJx4a65c, "add", "(Ljava/lang/Object;)Z"⟩
abbrev cJx4a65c_iterator_32c93 : ByteArray := prog_45_method_55_code
def yJx4a65c_iterator_32c93 : MethodName := ⟨RJx4a65c, "iterator", "()Ljava/util/Iterator;"⟩
def RJ7 : String := "java/util/Arrays"
def RJx5ef63 : String := "java/util/Collection"
def RJxb8c77 : String := "java/util/Deque"
def RJx4d0d8 : String := "java/util/Iterator"
def RJxbd725 : String := "java/util/List"
def RJ15 : String := "java/util/Objects"
abbrev cJ15_checkIndex_7cf53 : ByteArray := prog_53_method_17_code
def yJ15_checkIndex_7cf53 : MethodName := ⟨RJ15, "checkIndex", "(II)I"⟩
def RJx8141a : String := "java/util/Queue"
def RJxf0a74 : String := "java/util/RandomAccess"
def RJxa66e6 : String := "java/util/SequencedCollection"
def RJ8 : String := "jdk/internal/util/ArraysSupport"
def RJ3 : String := "jdk/internal/util/Preconditions"
abbrev cJ3_checkIndex_8e157 : ByteArray := prog_58_method_11_code
def yJ3_checkIndex_8e157 : MethodName := ⟨RJ3, "checkIndex", "(IILjava/util/function/BiFunction;)I"⟩
def RL : String := "HeroTableLaw"
end
section
/-! own words: one list of good words for every method; contracts over a list of cells -/
def G9 : List Cond := lw_tbl.filter goodWord
theorem g9 {w : Cond} (i : Nat) (h : lw_tbl[i]? = some w) (g : goodWord w = true) : w ∈ G9 := List.mem_filter.mpr ⟨List.mem_of_getElem? h, g⟩
theorem g9_good {w : Cond} (h : w ∈ G9) : goodWord w = true := (List.mem_filter.mp h).2
theorem g9_in {w : Cond} (h : w ∈ G9) : w ∈ lw_tbl := (List.mem_filter.mp h).1
abbrev wG (y : MethodName) (b : ByteArray) (n : Nat) (r : Option FieldType) : List Cond := .code y b n r :: G9
abbrev wH (y : MethodName) (b : ByteArray) (n : Nat) (r : Option FieldType) (hh : List (Nat × Nat × Nat × Nat)) : List Cond := .codeWith y b n r hh :: G9
abbrev LV (d mc ms : Nat) : Room := { frames := 8 * d, cells := mc, slots := ms, locals := 400 * d }
abbrev okN (y : MethodName) (n : Nat) : Prop := y.cls ≠ "java/lang/invoke/MethodHandle" ∧ y.cls ≠ "java/lang/invoke/VarHandle" ∧ (parseMethodDescriptor y.desc).map (fun d => d.parameters.length) = some n
theorem qsig {y : MethodName} {n : Nat} (h : okN y n) : ∀ sig, parseMethodDescriptor y.desc = some sig → n = sig.parameters.length := by
  intro sig hs
  have h3 := h.2.2
  rw [hs] at h3
  exact (Option.some.inj h3).symm
theorem qB {R : Room} {s : State} {args : Array Value} {own : String} {index : Nat} {y : MethodName} {b : ByteArray} {n mc ms k : Nat} {r : Option FieldType} {rm : Room} (ht : ∀ w ∈ G9, w.before args s = true)
    (hc : Cond.code y b n r ∈ G9) (hi : Cond.initialized y.cls ∈ G9) (hl : Cond.methodLink own index y ∈ G9) (ho : okN y k) (hrc : rm.cells = mc) (hrs : rm.slots = ms) (hR : rm.frames + 1 ≤ R.frames ∧ 8 + (n + 11) + rm.locals ≤ R.locals) :
    CallB R s args own index y b n r (wG y b n r) rm mc ms k :=
  ⟨hrc, hrs, hR.1, hR.2, fun w hw a' U hW => (List.mem_cons.mp hw).elim (fun e => by rw [e]; exact word_at hW (good_of_word (g9_good hc)) (ht _ hc)) (fun h => word_at hW (good_of_word (g9_good h)) (ht w h)), List.mem_cons_self, ht _ hc, ht _ hi, ⟨ho.1, ho.2.1⟩, qsig ho, ht _ hl⟩
theorem qN {R : Room} {s : State} {args : Array Value} {own host : String} {index : Nat} {y : MethodName} {b : ByteArray} {n mc ms k : Nat} {r : Option FieldType} {rm : Room} (ht : ∀ w ∈ G9, w.before args s = true)
    (hc : Cond.code y b n r ∈ G9) (hi : Cond.initialized y.cls ∈ G9) (hl : va_Nw (.methodLinkNest own index y host) s) (ho : okN y k) (hrc : rm.cells = mc) (hrs : rm.slots = ms) (hR : rm.frames + 1 ≤ R.frames ∧ 8 + (n + 11) + rm.locals ≤ R.locals) :
    va_CN R s args own index y host b n r (wG y b n r) rm mc ms k :=
  va_cnB k ht (fun w hw => (List.mem_cons.mp hw).elim (fun e => by rw [e]; exact ⟨hc, good_of_word (g9_good hc)⟩) (fun h => ⟨h, good_of_word (g9_good h)⟩)) rfl hrc hrs hl (ht _ hi) ho hR
theorem qI5 {R : Room} {s : State} {args : Array Value} {own C : String} {index : Nat} {x y : MethodName} {b : ByteArray} {n mc ms k : Nat} {r : Option FieldType} {rm : Room} (ht : ∀ w ∈ G9, w.before args s = true)
    (hc : Cond.code y b n r ∈ G9) (hi : Cond.initialized y.cls ∈ G9) (hl : Cond.methodLink own index x ∈ G9) (hse : Cond.selects C x y ∈ G9) (hin : Cond.instanceMethod y ∈ G9) (hF : va_Fw C x y s) (ho : okN x k) (hrc : rm.cells = mc) (hrs : rm.slots = ms) (hR : rm.frames + 1 ≤ R.frames ∧ 8 + (n + 11) + rm.locals ≤ R.locals) :
    va_CI R s args own C index x y b n r (wG y b n r) rm mc ms k := by
  refine va_cwF k ht ?_ rfl hrc hrs hF ho hR
  intro w hw
  rcases List.mem_append.mp hw with h | h
  · have : w ∈ G9 := by
      simp only [List.mem_cons, List.not_mem_nil, or_false] at h
      rcases h with rfl | rfl | rfl | rfl
      · exact hl
      · exact hse
      · exact hin
      · exact hi
    exact ⟨this, good_of_word (g9_good this)⟩
  · exact (List.mem_cons.mp h).elim (fun e => by rw [e]; exact ⟨hc, good_of_word (g9_good hc)⟩) (fun h => ⟨h, good_of_word (g9_good h)⟩)
/-- the classes whose objects are spoken of -/
abbrev CLS : List vw_C := [(RJx35411, TJx35411, 4), (RJx4a65c, TJx4a65c, 3), (RX8, TX8, 2), (RX9, TX9, 14), (RX10, TX10, 10), (RX11, TX11, 14)]
abbrev TYS (dA : Nat → ClassId) : List (ClassId × FieldType) := [(dA 0, .char), (dA 1, .int), (dA 2, .boolean), (dA 3, .object "HeroTable$Hero"), (dA 4, .object "HeroTable$Source"), (dA 5, .object "java/lang/Object"), (dA 6, .long), (dA 7, .double)]
/-- what is fixed for a run: class numbers, slots, array classes, addresses; 2010 and on: numbers -/
abbrev GP : Type := va_G × (Nat → ClassId) × (Nat → Nat)
abbrev yI_iterator : MethodName := ⟨"java/util/List", "iterator", "()Ljava/util/Iterator;"⟩
abbrev yI_hasNext : MethodName := ⟨"java/util/Iterator", "hasNext", "()Z"⟩
abbrev yI_next : MethodName := ⟨"java/util/Iterator", "next", "()Ljava/lang/Object;"⟩
abbrev yI_add : MethodName := ⟨"java/util/List", "add", "(Ljava/lang/Object;)Z"⟩
abbrev yI_get : MethodName := ⟨"java/util/List", "get", "(I)Ljava/lang/Object;"⟩
abbrev yI_size : MethodName := ⟨"java/util/List", "size", "()I"⟩
abbrev NESTS : List (String × Nat × String × String × String × String) := [("java/util/ArrayList$Itr", 28, "java/util/ArrayList", "size", "I", "java/util/ArrayList"), ("HeroTableModel", 366, "HeroTableModel$Call", "what", "C", "HeroTableModel"), ("HeroTableModel", 435, "HeroTableModel$Call", "numbers", "[I", "HeroTableModel"), ("HeroTableModel", 202, "HeroTableModel$Hero", "number", "I", "HeroTableModel"), ("HeroTableModel", 308, "HeroTableModel$Hero", "side", "I", "HeroTableModel"), ("HeroTableModel", 138, "HeroTableModel$Hero", "most", "I", "HeroTableModel"), ("HeroTableModel", 282, "HeroTableModel$Hero", "initiative", "I", "HeroTableModel"), ("HeroTableModel", 129, "HeroTableModel$Hero", "bases", "[I", "HeroTableModel"), ("HeroTableModel", 141, "HeroTableModel$Hero", "life", "I", "HeroTableModel"), ("HeroTableModel", 135, "HeroTableModel$Hero", "spare", "I", "HeroTableModel"), ("HeroTableModel", 84, "HeroTableModel$Hero", "x", "I", "HeroTableModel"), ("HeroTableModel", 87, "HeroTableModel$Hero", "y", "I", "HeroTableModel"), ("HeroTableModel", 199, "HeroTableModel$Hero", "immune", "I", "HeroTableModel"), ("HeroTableModel", 298, "HeroTableModel$Hero", "slots", "I", "HeroTableModel"), ("HeroTableModel", 269, "HeroTableModel$Hero", "hasReaction", "Z", "HeroTableModel"), ("HeroTableModel", 266, "HeroTableModel$Hero", "trigger", "C", "HeroTableModel"), ("HeroTableModel", 305, "HeroTableModel$Hero", "reaction", "C", "HeroTableModel"), ("HeroTableModel", 159, "HeroTableModel$Source", "hero", "I", "HeroTableModel"), ("HeroTableModel", 205, "HeroTableModel$Source", "letter", "C", "HeroTableModel"), ("HeroTableModel", 209, "HeroTableModel$Source", "type", "C", "HeroTableModel"), ("HeroTableModel", 212, "HeroTableModel$Source", "amount", "I", "HeroTableModel"), ("HeroTableModel", 260, "HeroTableModel$Source", "whose", "I", "HeroTableModel"), ("HeroTableModel", 257, "HeroTableModel$Source", "hasRounds", "Z", "HeroTableModel"), ("HeroTableModel", 263, "HeroTableModel$Source", "rounds", "I", "HeroTableModel"), ("HeroTableModel", 152, "HeroTableModel$Source", "isLive", "Z", "HeroTableModel"), ("HeroTableModel", 345, "HeroTableModel$Source", "minder", "I", "HeroTableModel"), ("HeroTableModel", 156, "HeroTableModel$Source", "isOfHarm", "Z", "HeroTableModel")]
/-- what holds of the tables alone -/
def TF (U : State) : Prop :=
  (∀ q ∈ NESTS, va_Nw (.fieldLinkNest q.1 q.2.1 q.2.2.1 q.2.2.2.1 q.2.2.2.2.1 q.2.2.2.2.2) U) ∧ va_Nw (.castable "HeroTableModel$Call" "java/lang/Object") U ∧
  va_Fw RJx4a65c yI_iterator yJx4a65c_iterator_32c93 U ∧ va_Fw RJx35411 yI_hasNext yJx35411_hasNext_aae02 U ∧ va_Fw RJx35411 yI_next yJx35411_next_0502b U ∧ va_Fw RJx4a65c yI_add yJx4a65c_add_9ea2d U ∧ va_Fw RJx4a65c yI_get yJx4a65c_get_915e3 U ∧ va_Fw RJx4a65c yI_size yJx4a65c_size_8abf5 U
theorem TF.moved {s U : State} (hW : s.WarmedH U.vm) (h : TF s) : TF U := by
  obtain ⟨b2, b3, c0, c1, c2, c3, c4, c5⟩ := h
  exact ⟨fun q hq => va_Nw.warmF hW (b2 q hq), va_Nw.warmC hW b3, va_Fw.moved (by decide +kernel) hW.alike c0, va_Fw.moved (by decide +kernel) hW.alike c1, va_Fw.moved (by decide +kernel) hW.alike c2, va_Fw.moved (by decide +kernel) hW.alike c3, va_Fw.moved (by decide +kernel) hW.alike c4, va_Fw.moved (by decide +kernel) hW.alike c5⟩
/-- the texts' references: own class, place, text, number of the address -/
abbrev SRS : List (String × Nat × String × Nat) := [("HeroTableModel", 123, "atdsw", 13)]
def RF (ad : Nat → Nat) (U : State) : Prop := ∀ q ∈ SRS, vk_R q.1 q.2.1 q.2.2.1 (ad q.2.2.2) U
theorem RF.moved {ad : Nat → Nat} {s U : State} (hW : s.WarmedH U.vm) (h : RF ad s) : RF ad U := fun q hq => vk_R.warm hW (h q hq)
/-- the text of the numbers' letters -/
def TXT (g : GP) (A : Nat → Prop) (U : State) (H : Heap) : Prop :=
  va_Z "java/lang/String" "COMPACT_STRINGS" "Z" (.int 1) A U H ∧
  va_O "java/lang/String" (g.2.2 13) A U H ∧
  va_OF "java/lang/String" "coder" "B" (.int 0) (g.2.2 13) A U H ∧
  va_OF "java/lang/String" "value" "[B" (.ref (g.2.2 23)) (g.2.2 13) A U H ∧
  va_T .byte (g.2.2 23) 5 (fun j => .int (([97, 116, 100, 115, 119] : List Int32).getD j 0)) A U H
theorem TXT.moved {g : GP} {A : Nat → Prop} {u U : State} {H : Heap} (hvm : u.vm.Alike U.vm) (h : TXT g A u H) : TXT g A U H := by
  obtain ⟨a0, a1, a2, a3, a4⟩ := h
  exact ⟨a0.moved hvm, a1.moved hvm, a2.moved hvm, a3.moved hvm, a4.moved hvm⟩
theorem TXT.kept {g : GP} {A : Nat → Prop} {U : State} {H H1 : Heap} (h : TXT g A U H) (hq : ∀ a : Nat, a < H.size → ¬ A a → H1[a]? = H[a]?) : TXT g A U H1 := by
  obtain ⟨a0, a1, a2, a3, a4⟩ := h
  exact ⟨a0.kept hq, a1.kept hq, a2.kept hq, a3.kept hq, a4.kept hq⟩
theorem TXT.narrow {g : GP} {A B : Nat → Prop} {U : State} {H : Heap} (h : TXT g A U H) (hq : ∀ q, B q → A q) : TXT g B U H := by
  obtain ⟨a0, a1, a2, a3, a4⟩ := h
  exact ⟨a0.narrow hq, a1.narrow hq, a2.narrow hq, a3.narrow hq, a4.narrow hq⟩
/-- the dice: none left; the bases of the hero: 12, 4, 5, 4, 2 -/
def DEQ (g : GP) (A : Nat → Prop) (U : State) (H : Heap) : Prop :=
  va_O "java/util/ArrayDeque" (g.2.2 2005) A U H ∧
  va_OF "java/util/ArrayDeque" "head" "I" (.int (nI (g.2.2 2013))) (g.2.2 2005) A U H ∧
  va_OF "java/util/ArrayDeque" "tail" "I" (.int (nI (g.2.2 2013))) (g.2.2 2005) A U H ∧
  va_T .int (g.2.2 2004) 5 (fun j => .int (([12, 4, 5, 4, 2] : List Int32).getD j 0)) A U H
theorem DEQ.moved {g : GP} {A : Nat → Prop} {u U : State} {H : Heap} (hvm : u.vm.Alike U.vm) (h : DEQ g A u H) : DEQ g A U H := by
  obtain ⟨a0, a1, a2, a3⟩ := h
  exact ⟨a0.moved hvm, a1.moved hvm, a2.moved hvm, a3.moved hvm⟩
theorem DEQ.kept {g : GP} {A : Nat → Prop} {U : State} {H H1 : Heap} (h : DEQ g A U H) (hq : ∀ a : Nat, a < H.size → ¬ A a → H1[a]? = H[a]?) : DEQ g A U H1 := by
  obtain ⟨a0, a1, a2, a3⟩ := h
  exact ⟨a0.kept hq, a1.kept hq, a2.kept hq, a3.kept hq⟩
theorem DEQ.narrow {g : GP} {A B : Nat → Prop} {U : State} {H : Heap} (h : DEQ g A U H) (hq : ∀ q, B q → A q) : DEQ g B U H := by
  obtain ⟨a0, a1, a2, a3⟩ := h
  exact ⟨a0.narrow hq, a1.narrow hq, a2.narrow hq, a3.narrow hq⟩
/-- the list of the sources: its row may be longer than it is -/
def LST (g : GP) (A : Nat → Prop) (U : State) (H : Heap) : Prop :=
  va_O "java/util/ArrayList" (g.2.2 2002) A U H ∧
  va_OF "java/util/ArrayList" "size" "I" (.int (nI (g.2.2 2010))) (g.2.2 2002) A U H ∧
  va_OF "java/util/ArrayList" "elementData" "[Ljava/lang/Object;" (.ref (g.2.2 2003)) (g.2.2 2002) A U H ∧
  va_OF "java/util/ArrayList" "modCount" "I" (.int (nI (g.2.2 2012))) (g.2.2 2002) A U H ∧
  va_T (.object "java/lang/Object") (g.2.2 2003) (g.2.2 2011) (fun j => if j < g.2.2 2010 then .ref (g.2.2 (3000 + j)) else .null) A U H
theorem LST.moved {g : GP} {A : Nat → Prop} {u U : State} {H : Heap} (hvm : u.vm.Alike U.vm) (h : LST g A u H) : LST g A U H := by
  obtain ⟨a0, a1, a2, a3, a4⟩ := h
  exact ⟨a0.moved hvm, a1.moved hvm, a2.moved hvm, a3.moved hvm, a4.moved hvm⟩
theorem LST.kept {g : GP} {A : Nat → Prop} {U : State} {H H1 : Heap} (h : LST g A U H) (hq : ∀ a : Nat, a < H.size → ¬ A a → H1[a]? = H[a]?) : LST g A U H1 := by
  obtain ⟨a0, a1, a2, a3, a4⟩ := h
  exact ⟨a0.kept hq, a1.kept hq, a2.kept hq, a3.kept hq, a4.kept hq⟩
theorem LST.narrow {g : GP} {A B : Nat → Prop} {U : State} {H : Heap} (h : LST g A U H) (hq : ∀ q, B q → A q) : LST g B U H := by
  obtain ⟨a0, a1, a2, a3, a4⟩ := h
  exact ⟨a0.narrow hq, a1.narrow hq, a2.narrow hq, a3.narrow hq, a4.narrow hq⟩
/-- the order of turns: one hero -/
def ORD (g : GP) (A : Nat → Prop) (U : State) (H : Heap) : Prop :=
  va_O "java/util/ArrayList" (g.2.2 2006) A U H ∧
  va_OF "java/util/ArrayList" "size" "I" (.int 1) (g.2.2 2006) A U H ∧
  va_OF "java/util/ArrayList" "elementData" "[Ljava/lang/Object;" (.ref (g.2.2 2007)) (g.2.2 2006) A U H ∧
  va_T (.object "java/lang/Object") (g.2.2 2007) (g.2.2 2014) (fun j => if j < 1 then .ref (g.2.2 2001) else .null) A U H
theorem ORD.moved {g : GP} {A : Nat → Prop} {u U : State} {H : Heap} (hvm : u.vm.Alike U.vm) (h : ORD g A u H) : ORD g A U H := by
  obtain ⟨a0, a1, a2, a3⟩ := h
  exact ⟨a0.moved hvm, a1.moved hvm, a2.moved hvm, a3.moved hvm⟩
theorem ORD.kept {g : GP} {A : Nat → Prop} {U : State} {H H1 : Heap} (h : ORD g A U H) (hq : ∀ a : Nat, a < H.size → ¬ A a → H1[a]? = H[a]?) : ORD g A U H1 := by
  obtain ⟨a0, a1, a2, a3⟩ := h
  exact ⟨a0.kept hq, a1.kept hq, a2.kept hq, a3.kept hq⟩
theorem ORD.narrow {g : GP} {A B : Nat → Prop} {U : State} {H : Heap} (h : ORD g A U H) (hq : ∀ q, B q → A q) : ORD g B U H := by
  obtain ⟨a0, a1, a2, a3⟩ := h
  exact ⟨a0.narrow hq, a1.narrow hq, a2.narrow hq, a3.narrow hq⟩
/-- the model and its hero, where they are only read -/
def EXT (g : GP) (A : Nat → Prop) (U : State) (H : Heap) : Prop :=
  va_O "HeroTableModel" (g.2.2 2000) A U H ∧
  va_OF "HeroTableModel" "sources" "Ljava/util/List;" (.ref (g.2.2 2002)) (g.2.2 2000) A U H ∧
  va_OF "HeroTableModel" "dice" "Ljava/util/ArrayDeque;" (.ref (g.2.2 2005)) (g.2.2 2000) A U H ∧
  va_OF "HeroTableModel$Hero" "number" "I" (.int 0) (g.2.2 2001) A U H ∧
  va_OF "HeroTableModel$Hero" "bases" "[I" (.ref (g.2.2 2004)) (g.2.2 2001) A U H
theorem EXT.moved {g : GP} {A : Nat → Prop} {u U : State} {H : Heap} (hvm : u.vm.Alike U.vm) (h : EXT g A u H) : EXT g A U H := by
  obtain ⟨a0, a1, a2, a3, a4⟩ := h
  exact ⟨a0.moved hvm, a1.moved hvm, a2.moved hvm, a3.moved hvm, a4.moved hvm⟩
theorem EXT.kept {g : GP} {A : Nat → Prop} {U : State} {H H1 : Heap} (h : EXT g A U H) (hq : ∀ a : Nat, a < H.size → ¬ A a → H1[a]? = H[a]?) : EXT g A U H1 := by
  obtain ⟨a0, a1, a2, a3, a4⟩ := h
  exact ⟨a0.kept hq, a1.kept hq, a2.kept hq, a3.kept hq, a4.kept hq⟩
theorem EXT.narrow {g : GP} {A B : Nat → Prop} {U : State} {H : Heap} (h : EXT g A U H) (hq : ∀ q, B q → A q) : EXT g B U H := by
  obtain ⟨a0, a1, a2, a3, a4⟩ := h
  exact ⟨a0.narrow hq, a1.narrow hq, a2.narrow hq, a3.narrow hq, a4.narrow hq⟩
/-- the sources, in any number g.2.2 2010: each live, of the hero 0, of a condition (letter 112, type 99) with the difficulty 30, lasting -/
def SRC (g : GP) (A : Nat → Prop) (U : State) (H : Heap) : Prop := ∀ j : Nat, j < g.2.2 2010 →
  (va_P g.1 CLS [(g.2.2 (3000 + j), .inr (4, [.int 0, .int 112, .int 99, .int 30, .int 0, .int 0, .int 0, .int 1, .int (-1), .int 0]))] H ∧ ¬ A (g.2.2 (3000 + j))) ∧ va_O "HeroTableModel$Source" (g.2.2 (3000 + j)) A U H ∧ va_OF "HeroTableModel$Source" "isLive" "Z" (.int 1) (g.2.2 (3000 + j)) A U H ∧ va_OF "HeroTableModel$Source" "hero" "I" (.int 0) (g.2.2 (3000 + j)) A U H ∧ va_OF "HeroTableModel$Source" "letter" "C" (.int 112) (g.2.2 (3000 + j)) A U H ∧ va_OF "HeroTableModel$Source" "type" "C" (.int 99) (g.2.2 (3000 + j)) A U H ∧ va_OF "HeroTableModel$Source" "amount" "I" (.int 30) (g.2.2 (3000 + j)) A U H ∧ va_OF "HeroTableModel$Source" "hasRounds" "Z" (.int 0) (g.2.2 (3000 + j)) A U H
theorem SRC.moved {g : GP} {A : Nat → Prop} {u U : State} {H : Heap} (hvm : u.vm.Alike U.vm) (h : SRC g A u H) : SRC g A U H := fun j hj => by
  obtain ⟨⟨b1, b2⟩, a0, a1, a2, a3, a4, a5, a6⟩ := h j hj
  exact ⟨⟨b1, b2⟩, a0.moved hvm, a1.moved hvm, a2.moved hvm, a3.moved hvm, a4.moved hvm, a5.moved hvm, a6.moved hvm⟩
theorem SRC.kept {g : GP} {A : Nat → Prop} {U : State} {H H1 : Heap} (h : SRC g A U H) (hq : ∀ a : Nat, a < H.size → ¬ A a → H1[a]? = H[a]?) : SRC g A U H1 := fun j hj => by
  obtain ⟨⟨b1, b2⟩, a0, a1, a2, a3, a4, a5, a6⟩ := h j hj
  exact ⟨⟨b1.kept (fun k x hx => by
    have hx0 : k < 1 := (List.getElem?_eq_some_iff.mp hx).1
    have hk0 : k = 0 := by omega
    subst hk0
    cases hx
    exact hq _ (b1 0 _ rfl).lt b2), b2⟩, a0.kept hq, a1.kept hq, a2.kept hq, a3.kept hq, a4.kept hq, a5.kept hq, a6.kept hq⟩
theorem SRC.narrow {g : GP} {A B : Nat → Prop} {U : State} {H : Heap} (h : SRC g A U H) (hq : ∀ q, B q → A q) : SRC g B U H := fun j hj => by
  obtain ⟨⟨b1, b2⟩, a0, a1, a2, a3, a4, a5, a6⟩ := h j hj
  exact ⟨⟨b1, fun q => b2 (hq _ q)⟩, a0.narrow hq, a1.narrow hq, a2.narrow hq, a3.narrow hq, a4.narrow hq, a5.narrow hq, a6.narrow hq⟩
/-- numbers: how many sources, how long the rows -/
def NUM (g : GP) : Prop := g.2.2 2010 ≤ g.2.2 2011 ∧ g.2.2 2010 < 2 ^ 30 ∧ g.2.2 2011 < 2 ^ 31 ∧ 1 ≤ g.2.2 2014 ∧ g.2.2 2014 < 2 ^ 31
def HF (g : GP) (A : Nat → Prop) (U : State) (H : Heap) : Prop := TXT g A U H ∧ DEQ g A U H ∧ LST g A U H ∧ ORD g A U H ∧ SRC g A U H ∧ NUM g
theorem HF.moved {g : GP} {A : Nat → Prop} {u U : State} {H : Heap} (hvm : u.vm.Alike U.vm) (h : HF g A u H) : HF g A U H := ⟨h.1.moved hvm, h.2.1.moved hvm, h.2.2.1.moved hvm, h.2.2.2.1.moved hvm, h.2.2.2.2.1.moved hvm, h.2.2.2.2.2⟩
theorem HF.kept {g : GP} {A : Nat → Prop} {U : State} {H H1 : Heap} (h : HF g A U H) (hq : ∀ a : Nat, a < H.size → ¬ A a → H1[a]? = H[a]?) : HF g A U H1 := ⟨h.1.kept hq, h.2.1.kept hq, h.2.2.1.kept hq, h.2.2.2.1.kept hq, h.2.2.2.2.1.kept hq, h.2.2.2.2.2⟩
theorem HF.narrow {g : GP} {A B : Nat → Prop} {U : State} {H : Heap} (h : HF g A U H) (hq : ∀ q, B q → A q) : HF g B U H := ⟨h.1.narrow hq, h.2.1.narrow hq, h.2.2.1.narrow hq, h.2.2.2.1.narrow hq, h.2.2.2.2.1.narrow hq, h.2.2.2.2.2⟩
def SF (g : GP) (A : Nat → Prop) (U : State) (H : Heap) : Prop := TF U ∧ RF g.2.2 U ∧ HF g A U H
def PRE (g : GP) (ws : va_W) (sz : Nat) (U : State) : Prop := U.heap.size = sz ∧ va_P g.1 CLS ws U.heap ∧ va_K g.1 CLS (TYS g.2.1) U ∧ va_D (fun _ => True) ws ∧ SF g (va_A ws sz) U U.heap
/-- .. where the model and its hero are only read -/
def PREa (g : GP) (ws : va_W) (sz : Nat) (U : State) : Prop := PRE g ws sz U ∧ EXT g (va_A ws sz) U U.heap
def POST (g : GP) (A : Nat → Prop) (u : va_W) (t : State) : Prop := va_P g.1 CLS u t.heap ∧ va_K g.1 CLS (TYS g.2.1) t ∧ va_D A u
def CI (l : Launch) (y : MethodName) (w : List Cond) (rm : Room) (g : GP) (av : List Value) (ws : va_W) (post : Int32 → va_W → Prop) : Prop :=
  ∀ sz : Nat, Met l y w rm (va_Pc av (PRE g ws sz)) (va_Qi post (POST g (va_A ws sz)) (va_A ws sz)) rm.cells rm.slots (va_A ws sz)
/-- .. and at least k cells are new -/
def ZI (l : Launch) (y : MethodName) (w : List Cond) (rm : Room) (g : GP) (av : List Value) (ws : va_W) (k : Nat) (post : Int32 → va_W → Prop) : Prop :=
  ∀ sz : Nat, Met l y w rm (va_Pc av (PRE g ws sz)) (va_Qi post (fun u t => POST g (va_A ws sz) u t ∧ sz + k ≤ t.heap.size) (va_A ws sz)) rm.cells rm.slots (va_A ws sz)
def CIa (l : Launch) (y : MethodName) (w : List Cond) (rm : Room) (g : GP) (av : List Value) (ws : va_W) (post : Int32 → va_W → Prop) : Prop :=
  ∀ sz : Nat, Met l y w rm (va_Pc av (PREa g ws sz)) (va_Qi post (POST g (va_A ws sz)) (va_A ws sz)) rm.cells rm.slots (va_A ws sz)
/-- .. and at least k cells are new -/
def ZIa (l : Launch) (y : MethodName) (w : List Cond) (rm : Room) (g : GP) (av : List Value) (ws : va_W) (k : Nat) (post : Int32 → va_W → Prop) : Prop :=
  ∀ sz : Nat, Met l y w rm (va_Pc av (PREa g ws sz)) (va_Qi post (fun u t => POST g (va_A ws sz) u t ∧ sz + k ≤ t.heap.size) (va_A ws sz)) rm.cells rm.slots (va_A ws sz)
def CV (l : Launch) (y : MethodName) (w : List Cond) (rm : Room) (g : GP) (av : List Value) (ws : va_W) (post : va_W → Prop) : Prop :=
  ∀ sz : Nat, Met l y w rm (va_Pc av (PRE g ws sz)) (va_Qv post (POST g (va_A ws sz)) (va_A ws sz)) rm.cells rm.slots (va_A ws sz)
def CQ (l : Launch) (y : MethodName) (w : List Cond) (rm : Room) (g : GP) (av : List Value) (ws : va_W) (post : Option Nat → va_W → Prop) : Prop :=
  ∀ sz : Nat, Met l y w rm (va_Pc av (PRE g ws sz)) (va_Qq post (POST g (va_A ws sz)) (va_A ws sz)) rm.cells rm.slots (va_A ws sz)
theorem q_blind {g : GP} {av : List Value} {ws : va_W} {sz : Nat} : FrameBlind (va_Pc av (PRE g ws sz)) := fun a U g' mk q => by
  obtain ⟨q0, q1, qP, qK, qD, qT, qR, qH⟩ := q
  exact ⟨q0, q1, qP, va_K.moved (u := U) (U := U.calling g' mk a) (Vm.Alike.refl U.vm) qK, qD, TF.moved (s := U) (U := U.calling g' mk a) (State.WarmedH.refl U) qT, RF.moved (s := U) (U := U.calling g' mk a) (State.WarmedH.refl U) qR, HF.moved (u := U) (U := U.calling g' mk a) (Vm.Alike.refl U.vm) qH⟩
theorem q_blinda {g : GP} {av : List Value} {ws : va_W} {sz : Nat} : FrameBlind (va_Pc av (PREa g ws sz)) := fun a U g' mk q => by
  obtain ⟨q0, ⟨q1, qP, qK, qD, qT, qR, qH⟩, qE⟩ := q
  exact ⟨q0, ⟨q1, qP, va_K.moved (u := U) (U := U.calling g' mk a) (Vm.Alike.refl U.vm) qK, qD, TF.moved (s := U) (U := U.calling g' mk a) (State.WarmedH.refl U) qT, RF.moved (s := U) (U := U.calling g' mk a) (State.WarmedH.refl U) qR, HF.moved (u := U) (U := U.calling g' mk a) (Vm.Alike.refl U.vm) qH⟩, EXT.moved (u := U) (U := U.calling g' mk a) (Vm.Alike.refl U.vm) qE⟩
/-- the callee's start, from the caller's world -/
theorem q_pre {g : GP} {s : State} {A : Nat → Prop} {wc : va_W} {H : Heap} {locs : List Loc} (av : List Value) (hP : va_P g.1 CLS wc H) (hD : va_D A wc) (hK : va_K g.1 CLS (TYS g.2.1) s) (hS : va_S A s.heap H locs) (hT : SF g A s s.heap) (hF : ∀ q, va_A wc H.size q → A q) :
    FrameBlind (va_Pc av (PRE g wc H.size)) ∧ ∀ U : State, U.heap = H → s.WarmedH U.vm → va_Pc av (PRE g wc H.size) av.toArray U :=
  ⟨q_blind, fun U hU hW => ⟨rfl, by rw [hU], by rw [hU]; exact hP, va_K.moved hW.alike hK, hD.weaken (fun _ _ _ _ => trivial), TF.moved hW hT.1, RF.moved hW hT.2.1, by
    rw [hU]
    exact HF.moved hW.alike ((HF.kept hT.2.2 hS.2.1).narrow hF)⟩⟩
theorem q_prea {g : GP} {s : State} {A : Nat → Prop} {wc : va_W} {H : Heap} {locs : List Loc} (av : List Value) (hP : va_P g.1 CLS wc H) (hD : va_D A wc) (hK : va_K g.1 CLS (TYS g.2.1) s) (hS : va_S A s.heap H locs) (hT : SF g A s s.heap) (hE : EXT g A s s.heap) (hF : ∀ q, va_A wc H.size q → A q) :
    FrameBlind (va_Pc av (PREa g wc H.size)) ∧ ∀ U : State, U.heap = H → s.WarmedH U.vm → va_Pc av (PREa g wc H.size) av.toArray U :=
  ⟨q_blinda, fun U hU hW => ⟨rfl, (((q_pre av hP hD hK hS hT hF).2 U hU hW).2), by
    rw [hU]
    exact EXT.moved hW.alike ((EXT.kept hE hS.2.1).narrow hF)⟩⟩
/-- a field of an object of the world, said of it as of what is only read -/
theorem q_of {D : va_G} {s : State} {args : Array Value} {H : Heap} {ws : va_W} {tys : List (ClassId × FieldType)} {A : Nat → Prop} {C : String} {T : u_T} {N ci a : Nat} {Ts : List Cond} (hts : ∀ w ∈ Ts, w.before args s = true) (hin : ∀ w ∈ u_ws C T N, w ∈ Ts) (hK : va_K D CLS tys s) (hP : va_P D CLS ws H) (q0 : Nat) {fs : List Value} (he : ws[q0]? = some (a, .inr (ci, fs))) (hc : CLS[ci]? = some (C, T, N)) (k : Nat) (hk : k < N) {v : Value} (hv : fs[k]? = some v) (hA : ¬ A a) : va_OF (T k).1 (T k).2.1 (T k).2.2.1 v a A s H := by
  obtain ⟨r, h1, cell, q1, q2, q3, q4⟩ := hP q0 _ he
  have hr : r = (C, T, N) := Option.some.inj (h1.symm.trans hc)
  subst hr
  obtain ⟨hS, hfc, kC, hkC, hkind⟩ := hK.1 ci _ hc
  obtain ⟨cf, kf, fi, f, hi, hsl⟩ := hS k hk
  refine ⟨cf, kf, fi, f, cell, hi, (u_facts hfc hkC (u_lays hts hin hk) hi).1, q1, (by rw [q3]; exact fun h => by cases h), ?_, hA⟩
  rw [hsl, q4 k hk]
  simp [vp_V, hv]
theorem q_o {D : va_G} {s : State} {H : Heap} {ws : va_W} {tys : List (ClassId × FieldType)} {A : Nat → Prop} {q : vw_C} {ci a : Nat} (hK : va_K D CLS tys s) (hP : va_P D CLS ws H) (q0 : Nat) {fs : List Value} (he : ws[q0]? = some (a, .inr (ci, fs))) (hc : CLS[ci]? = some q) (hA : ¬ A a) : va_O q.1 a A s H := by
  obtain ⟨cell, h1, h2, h3⟩ := va_recv hK hP hc he
  exact ⟨cell, h1, h2, h3, hA⟩
end
section
theorem li0 : (0 : Int32).toInt = 0 := rfl
theorem li1 : (1 : Int32).toInt = 1 := rfl
theorem li5 : (5 : Int32).toInt = 5 := rfl
theorem li7 : (7 : Int32).toInt = 7 := rfl
theorem li8 : (8 : Int32).toInt = 8 := rfl
theorem li9 : (9 : Int32).toInt = 9 := rfl
theorem li10 : (10 : Int32).toInt = 10 := rfl
theorem li20 : (20 : Int32).toInt = 20 := rfl
theorem li30 : (30 : Int32).toInt = 30 := rfl
theorem li40 : (40 : Int32).toInt = 40 := rfl
theorem li50 : (50 : Int32).toInt = 50 := rfl
theorem li99 : (99 : Int32).toInt = 99 := rfl
theorem li255 : (255 : Int32).toInt = 255 := rfl
theorem li97 : (97 : Int32).toInt = 97 := rfl
theorem li103 : (103 : Int32).toInt = 103 := rfl
theorem li109 : (109 : Int32).toInt = 109 := rfl
theorem li115 : (115 : Int32).toInt = 115 := rfl
theorem li120 : (120 : Int32).toInt = 120 := rfl
theorem lin1 : (-1 : Int32).toInt = -1 := rfl
theorem lin20 : (-20 : Int32).toInt = -20 := rfl
theorem fa_lt (a b : Int32) : a < b ↔ a.toInt < b.toInt := Int32.lt_iff_toInt_lt
theorem fa_le (a b : Int32) : a ≤ b ↔ a.toInt ≤ b.toInt := Int32.le_iff_toInt_le
theorem fa_eq (a b : Int32) : a = b ↔ a.toInt = b.toInt := Int32.toInt_inj.symm
/-! own rows: calls over the contracts of the prelude, the rest of the world unchanged -/
theorem q_fm {α : Type} {ws wr : List α} {is : List Nat} (h : is.map (fun i => ws[i]?) = wr.map some) : is.filterMap (fun i => ws[i]?) = wr := by
  have h2 : (is.map (fun i => ws[i]?)).filterMap id = (wr.map some).filterMap id := by rw [h]
  rw [List.filterMap_map, List.filterMap_map] at h2
  rw [show (wr.filterMap (id ∘ (some : α → Option α))) = wr from List.filterMap_some] at h2
  exact h2
/-- a thing of the rest isn't one of the callee's -/
theorem q_apart {D : va_G} {A : Nat → Prop} {ws wc wr : va_W} {H : Heap} {isC isR : List Nat} (hD : va_D A ws) (hC : isC.map (fun i => ws[i]?) = wc.map some) (hR : isR.map (fun i => ws[i]?) = wr.map some) (hdis : ∀ i ∈ isR, i ∉ isC) (hP : va_P D CLS ws H) (k : Nat) (x : Nat × va_E) (hx : wr[k]? = some x) : ¬ va_A wc H.size x.1 := by
  have hlt : k < isR.length := by
    have := congrArg List.length hR
    simp only [List.length_map] at this
    rw [this]
    exact (List.getElem?_eq_some_iff.mp hx).1
  have e1 : ws[isR[k]]? = some x := by
    have h2 := congrArg (fun l => l[k]?) hR
    simp only [List.getElem?_map, List.getElem?_eq_getElem hlt, Option.map_some, hx] at h2
    exact Option.some.inj h2
  rintro (⟨j, e, hj⟩ | hsz)
  · have hlj : j < isC.length := by
      have := congrArg List.length hC
      simp only [List.length_map] at this
      rw [this]
      exact (List.getElem?_eq_some_iff.mp hj).1
    have e2 : ws[isC[j]]? = some (x.1, e) := by
      have h2 := congrArg (fun l => l[j]?) hC
      simp only [List.getElem?_map, List.getElem?_eq_getElem hlj, Option.map_some, hj] at h2
      exact Option.some.inj h2
    have h3 := hD.1 _ _ _ _ e1 e2 rfl
    exact hdis _ (List.getElem_mem hlt) (by rw [h3]; exact List.getElem_mem hlj)
  · have h4 := (hP _ _ e1).lt
    omega

theorem q_getfN {p : Program} {l : Launch} {e : Env} {R : Room} {s : State} {m : MethodId} {args : Array Value} {below : List Frame} {meth : Method} {c : Code} {H : Heap} {locs : List Loc} {cells slots : Nat} {Q : State → Prop} {cc : ByteArray} {pc : Nat} {ls : Array Slot} {rest : List Value} {A : Nat → Prop} (hexec : p.tables.exec = Jvm.exec) (hb : c.code = cc) {o n d own ref host : String} {index q : Nat} {v : Value} (hE : va_OF o n d v q A s s.heap) (hS : va_S A s.heap H locs) (hown : s.vm.findClass own = some m.cls) (hlink : (Cond.fieldLinkNest own index ref n d host).before args s = true) (hsame : ∀ x, s.fieldFound? o n d = some x → s.fieldFound? ref n d = some x) (hdg : decode cc pc = .ok (.getfield index, 3))
    (kk : W p l e R s m args below meth c H locs cells slots Q (F0 m (pc + 3) ls (v :: rest))) : W p l e R s m args below meth c H locs cells slots Q (F0 m pc ls (.ref q :: rest)) := by
  obtain ⟨cf, k, fi, f, cell, h1, h2, h3, h4, h5, h6⟩ := hE.kept hS.2.1
  exact va_Wgetf hexec hb hown hlink (hsame _ h1) h2 h3 h4 (v := v) h5 rfl rfl hdg kk
theorem q_putSame {p : Program} {l : Launch} {e : Env} {R : Room} {s : State} {m : MethodId} {args : Array Value} {below : List Frame} {meth : Method} {c : Code} {H : Heap} {locs : List Loc} {cells slots : Nat} {Q : State → Prop} {cc : ByteArray} {pc : Nat} {ls : Array Slot} {rest : List Value} {A : Nat → Prop} {D : va_G} {tys : List (ClassId × FieldType)} {a : Nat} (hexec : p.tables.exec = Jvm.exec) (hb : c.code = cc) {own ref C host : String} {T : u_T} {N ci index : Nat} {Ts : List Cond} (hts : ∀ w ∈ Ts, w.before args s = true) (hin : ∀ w ∈ u_ws C T N, w ∈ Ts) (hown : s.vm.findClass own = some m.cls) (hK : va_K D CLS tys s) (hS : va_S A s.heap H locs) {fs : List Value} (hR : va_P D CLS [(a, .inr (ci, fs))] s.heap) (hO : ¬ A a) (hc : CLS[ci]? = some (C, T, N)) (k : Nat) (hk : k < N) (hlink : (Cond.fieldLinkNest own index ref (T k).2.1 (T k).2.2.1 host).before args s = true) (hsame : ∀ x, s.fieldFound? (T k).1 (T k).2.1 (T k).2.2.1 = some x → s.fieldFound? ref (T k).2.1 (T k).2.2.1 = some x) (hfin : (T k).2.2.2 = false) {ty : FieldType} {v : Value} (hd : parseFieldDescriptor (T k).2.2.1 = some ty) (hn : narrow ty v = v) (hfit : fits ty v = true) (hv : fs[k]? = some v)
    (hdg : decode cc pc = .ok (.putfield index, 3)) (kk : W p l e R s m args below meth c H locs cells slots Q (F0 m (pc + 3) ls rest)) : W p l e R s m args below meth c H locs cells slots Q (F0 m pc ls (v :: .ref a :: rest)) := by
  have hlt0 : a < s.heap.size := (hR 0 _ rfl).lt
  have hPH : va_P D CLS [(a, .inr (ci, fs))] H := hR.kept (fun k x hx => by
    have hx0 : k < 1 := (List.getElem?_eq_some_iff.mp hx).1
    have hk0 : k = 0 := by omega
    subst hk0
    cases hx
    exact hS.2.1 _ hlt0 hO)
  obtain ⟨r, h1, cell, q1, q2, q3, q4⟩ := hPH 0 _ rfl
  have hr : r = (C, T, N) := Option.some.inj (h1.symm.trans hc)
  subst hr
  obtain ⟨hSn, hfc, kC, hkC, hkind⟩ := hK.1 ci _ hc
  obtain ⟨cf, kf, fi, f, hi, hsl⟩ := hSn k hk
  have hlay := hts _ (hin _ (u_in_lay hk))
  unfold u_lay at hlay
  rw [if_neg (by rw [hfin]; decide)] at hlay
  have hst := (u_facts hfc hkC (u_lays hts hin hk) hi).1
  have h6 := u_store hfc hkC hkind hlay hi hd hn hfit
  have hold : cell.slots[f.slot]? = some v := by
    rw [hsl, q4 k hk]
    simp [vp_V, hv]
  have hcell : cell.setSlot f.slot v = cell := by
    obtain ⟨hl0, he0⟩ := Array.getElem?_eq_some_iff.mp hold
    show { cell with slots := cell.slots.setIfInBounds f.slot v } = cell
    congr 1
    apply Array.ext_getElem?
    intro i
    rw [Array.getElem?_setIfInBounds]
    by_cases e : f.slot = i
    · subst e
      rw [if_pos rfl, if_pos hl0, hold]
    · rw [if_neg e]
  refine va_WputK hexec hb (f := f) hown hlink (hsame _ hi) hst (by rw [q2]; exact h6) q1 q3 (by rw [hsl]; exact k2_hasslot (q4 k hk)) rfl rfl hdg fun H' e1 e2 e3 => ?_
  have hH : H' = H := by
    apply Array.ext_getElem?
    intro i
    by_cases e : i = a
    · subst e
      rw [e1, hcell]
      exact q1.symm
    · exact e3 i e
  subst hH
  intro T0 hT0 X
  refine kk T0 hT0 { X with same := ?_ }
  obtain ⟨w1, w2, w3, w4, w5, w6⟩ := X.same
  refine ⟨w1, w2, w3, w4, w5, fun a1 c1 hc1 => ?_⟩
  obtain ⟨c2, g1, g2, g3, g4⟩ := w6 a1 c1 hc1
  refine ⟨c2, g1, g2, g3, fun i hi => ?_⟩
  by_cases e : (⟨a1, i⟩ : Loc) = ⟨a, f.slot⟩
  · have ea : a1 = a := congrArg Loc.base e
    have h9 : H'[a]? = s.heap[a]? := hS.2.1 _ hlt0 hO
    have h8 : (T0.setVm s.vm).heap[a1]? = s.heap[a1]? := by
      rw [ea, ← h9, ← hT0]
      rfl
    have h7 : some c2 = some c1 := by rw [← g1, h8, hc1]
    rw [Option.some.inj h7]
  · exact g4 i (fun q => by
      rcases List.mem_append.mp q with q | q
      · exact hi q
      · exact e (List.mem_singleton.mp q))
theorem q_Str {A : Nat → Prop} {H0 H H1 : Heap} {l l1 : List Loc} (h1 : va_S A H0 H l) (h2 : va_S A H H1 l1) : va_S A H0 H1 l1 := ⟨Nat.le_trans h1.1 h2.1, fun q hq hA => (h2.2.1 q (Nat.lt_of_lt_of_le hq h1.1) hA).trans (h1.2.1 q hq hA), h2.2.2⟩
theorem one_new {D : va_G} {sz a b q : Nat} {x0 y0 x y z : va_E} {A : Nat → Prop} {H : Heap} (hAe : va_A [(a, x0), (b, y0)] sz = A) (hP : va_P D CLS [(a, x), (b, y), (q, z)] H) (hD : va_D A [(a, x), (b, y), (q, z)]) : sz + 1 ≤ H.size := by
  have l2 : q < H.size := (hP 2 _ rfl).lt
  have a2 : A q := hD.2 2 _ rfl
  have n0 : a ≠ q := fun e => absurd (hD.1 0 2 _ _ rfl rfl e) (by decide)
  have n1 : b ≠ q := fun e => absurd (hD.1 1 2 _ _ rfl rfl e) (by decide)
  rw [← hAe] at a2
  rcases a2 with ⟨k, e, h⟩ | h
  · match k, h with
    | 0, h => exact absurd (congrArg Prod.fst (Option.some.inj h)) n0
    | 1, h => exact absurd (congrArg Prod.fst (Option.some.inj h)) n1
    | k + 2, h => simp at h
  · omega
theorem q_ne {k n : Nat} (h : k < n) (hn : n < 2 ^ 31) : ¬ nI k = nI n := fun e => by
  have := (nI_eq (Nat.lt_trans h hn) hn).mp e
  omega
theorem two_new {D : va_G} {sz q1 q2 : Nat} {e1 e2 : va_E} {A : Nat → Prop} {H : Heap} (hAe : va_A [] sz = A) (hP : va_P D CLS [(q1, e1), (q2, e2)] H) (hD : va_D A [(q1, e1), (q2, e2)]) : sz + 2 ≤ H.size := by
  have l1 := (hP 0 _ rfl).lt
  have l2 := (hP 1 _ rfl).lt
  have a1 : A q1 := hD.2 0 _ rfl
  have a2 : A q2 := hD.2 1 _ rfl
  have ne : q1 ≠ q2 := fun e => absurd (hD.1 0 1 _ _ rfl rfl e) (by decide)
  rw [← hAe] at a1 a2
  have b1 : sz ≤ q1 := a1.elim (fun ⟨k, e, h⟩ => by simp at h) id
  have b2 : sz ≤ q2 := a2.elim (fun ⟨k, e, h⟩ => by simp at h) id
  simp only at l1 l2
  omega
theorem q_arr {g : GP} {s : State} {cA : ClassId} {ty : FieldType} {t0 : Nat} {cB : ClassId} (hK : va_K g.1 CLS (TYS g.2.1 ++ [(cA, ty)]) s) (h0 : (TYS g.2.1)[t0]? = some (cB, ty)) (hl : t0 < 8) : cA = cB := by
  have h1 := (hK.2 t0 (cB, ty) (by rw [List.getElem?_append_left (by simpa using hl)]; exact h0)).2
  have h2 := (hK.2 8 (cA, ty) rfl).2
  cases ty with
  | object C =>
    obtain ⟨k1, c1, a1, a2, a3, a4⟩ := h1
    obtain ⟨k2, c2, b1, b2, b3, b4⟩ := h2
    exact Option.some.inj (b4.symm.trans a4)
  | _ => exact Option.some.inj (Eq.trans (Eq.symm h2) h1)
section QR
variable {p : Program} {l : Launch} {e : Env} {R : Room} {s : State} {m : MethodId} {args : Array Value} {below : List Frame} {meth : Method} {c : Code} {H : Heap} {locs : List Loc} {cells slots mc ms : Nat} {Q : State → Prop} {g : GP} {A : Nat → Prop} {ws wc wr : va_W} {pc : Nat} {ls : Array Slot} {rest st0 : List Value} {a : Array Value}
theorem q_ci {post : Int32 → va_W → Prop} (hr : va_Run p l e R s m args below meth c H locs cells slots mc ms (F0 m pc ls st0) rest (va_Qi post (POST g (va_A wc H.size)) (va_A wc H.size) a) (va_A wc H.size)) (hP : va_P g.1 CLS ws H) (hD : va_D A ws) {H0 : Heap} (hS : va_S A H0 H locs) (hF : ∀ q, va_A wc H.size q → A q) (isC isR : List Nat) (hC : isC.map (fun i => ws[i]?) = wc.map some) (hR : isR.map (fun i => ws[i]?) = wr.map some) (hn : va_nd isR = true) (hdis : ∀ i ∈ isR, i ∉ isC)
    (kk : ∀ (r : Int32) (u : va_W) (H1 : Heap) (locs1 : List Loc), post r u → va_P g.1 CLS (wr ++ u) H1 → va_D A (wr ++ u) → va_S A H0 H1 locs1 → W p l e R s m args below meth c H1 locs1 (cells + mc) (slots + ms) Q (F0 m (pc + 3) ls (.int r :: rest))) : W p l e R s m args below meth c H locs cells slots Q (F0 m pc ls st0) := by
  refine va_calli hr hS (fun q _ h => hF q h) hF (fun r u t H1 locs1 ht hvm hw hB hz hk hS1 => ?_)
  obtain ⟨hP1, hK1, hD1⟩ := hB
  rw [ht] at hP1
  obtain ⟨hP2, hD2⟩ := va_join hP hD isC isR hC hR hn hdis hk hF hP1 hD1
  exact kk r u H1 locs1 hw hP2 hD2 hS1
theorem q_cl {post : Int64 → va_W → Prop} (hr : va_Run p l e R s m args below meth c H locs cells slots mc ms (F0 m pc ls st0) rest (va_Ql post (POST g (va_A wc H.size)) (va_A wc H.size) a) (va_A wc H.size)) (hP : va_P g.1 CLS ws H) (hD : va_D A ws) {H0 : Heap} (hS : va_S A H0 H locs) (hF : ∀ q, va_A wc H.size q → A q) (isC isR : List Nat) (hC : isC.map (fun i => ws[i]?) = wc.map some) (hR : isR.map (fun i => ws[i]?) = wr.map some) (hn : va_nd isR = true) (hdis : ∀ i ∈ isR, i ∉ isC)
    (kk : ∀ (r : Int64) (u : va_W) (H1 : Heap) (locs1 : List Loc), post r u → va_P g.1 CLS (wr ++ u) H1 → va_D A (wr ++ u) → va_S A H0 H1 locs1 → W p l e R s m args below meth c H1 locs1 (cells + mc) (slots + ms) Q (F0 m (pc + 3) ls (.long r :: rest))) : W p l e R s m args below meth c H locs cells slots Q (F0 m pc ls st0) := by
  refine va_calll hr hS (fun q _ h => hF q h) hF (fun r u t H1 locs1 ht hvm hw hB hz hk hS1 => ?_)
  obtain ⟨hP1, hK1, hD1⟩ := hB
  rw [ht] at hP1
  obtain ⟨hP2, hD2⟩ := va_join hP hD isC isR hC hR hn hdis hk hF hP1 hD1
  exact kk r u H1 locs1 hw hP2 hD2 hS1
theorem q_cf {post : UInt32 → va_W → Prop} (hr : va_Run p l e R s m args below meth c H locs cells slots mc ms (F0 m pc ls st0) rest (va_Qf post (POST g (va_A wc H.size)) (va_A wc H.size) a) (va_A wc H.size)) (hP : va_P g.1 CLS ws H) (hD : va_D A ws) {H0 : Heap} (hS : va_S A H0 H locs) (hF : ∀ q, va_A wc H.size q → A q) (isC isR : List Nat) (hC : isC.map (fun i => ws[i]?) = wc.map some) (hR : isR.map (fun i => ws[i]?) = wr.map some) (hn : va_nd isR = true) (hdis : ∀ i ∈ isR, i ∉ isC)
    (kk : ∀ (r : UInt32) (u : va_W) (H1 : Heap) (locs1 : List Loc), post r u → va_P g.1 CLS (wr ++ u) H1 → va_D A (wr ++ u) → va_S A H0 H1 locs1 → W p l e R s m args below meth c H1 locs1 (cells + mc) (slots + ms) Q (F0 m (pc + 3) ls (.float r :: rest))) : W p l e R s m args below meth c H locs cells slots Q (F0 m pc ls st0) := by
  refine va_callf hr hS (fun q _ h => hF q h) hF (fun r u t H1 locs1 ht hvm hw hB hz hk hS1 => ?_)
  obtain ⟨hP1, hK1, hD1⟩ := hB
  rw [ht] at hP1
  obtain ⟨hP2, hD2⟩ := va_join hP hD isC isR hC hR hn hdis hk hF hP1 hD1
  exact kk r u H1 locs1 hw hP2 hD2 hS1
theorem q_cd {post : UInt64 → va_W → Prop} (hr : va_Run p l e R s m args below meth c H locs cells slots mc ms (F0 m pc ls st0) rest (va_Qd post (POST g (va_A wc H.size)) (va_A wc H.size) a) (va_A wc H.size)) (hP : va_P g.1 CLS ws H) (hD : va_D A ws) {H0 : Heap} (hS : va_S A H0 H locs) (hF : ∀ q, va_A wc H.size q → A q) (isC isR : List Nat) (hC : isC.map (fun i => ws[i]?) = wc.map some) (hR : isR.map (fun i => ws[i]?) = wr.map some) (hn : va_nd isR = true) (hdis : ∀ i ∈ isR, i ∉ isC)
    (kk : ∀ (r : UInt64) (u : va_W) (H1 : Heap) (locs1 : List Loc), post r u → va_P g.1 CLS (wr ++ u) H1 → va_D A (wr ++ u) → va_S A H0 H1 locs1 → W p l e R s m args below meth c H1 locs1 (cells + mc) (slots + ms) Q (F0 m (pc + 3) ls (.double r :: rest))) : W p l e R s m args below meth c H locs cells slots Q (F0 m pc ls st0) := by
  refine va_calld hr hS (fun q _ h => hF q h) hF (fun r u t H1 locs1 ht hvm hw hB hz hk hS1 => ?_)
  obtain ⟨hP1, hK1, hD1⟩ := hB
  rw [ht] at hP1
  obtain ⟨hP2, hD2⟩ := va_join hP hD isC isR hC hR hn hdis hk hF hP1 hD1
  exact kk r u H1 locs1 hw hP2 hD2 hS1
theorem q_cq {post : Option Nat → va_W → Prop} (hr : va_Run p l e R s m args below meth c H locs cells slots mc ms (F0 m pc ls st0) rest (va_Qq post (POST g (va_A wc H.size)) (va_A wc H.size) a) (va_A wc H.size)) (hP : va_P g.1 CLS ws H) (hD : va_D A ws) {H0 : Heap} (hS : va_S A H0 H locs) (hF : ∀ q, va_A wc H.size q → A q) (isC isR : List Nat) (hC : isC.map (fun i => ws[i]?) = wc.map some) (hR : isR.map (fun i => ws[i]?) = wr.map some) (hn : va_nd isR = true) (hdis : ∀ i ∈ isR, i ∉ isC)
    (kk : ∀ (r : Option Nat) (u : va_W) (H1 : Heap) (locs1 : List Loc), post r u → va_P g.1 CLS (wr ++ u) H1 → va_D A (wr ++ u) → va_S A H0 H1 locs1 → W p l e R s m args below meth c H1 locs1 (cells + mc) (slots + ms) Q (F0 m (pc + 3) ls (va_rf r :: rest))) : W p l e R s m args below meth c H locs cells slots Q (F0 m pc ls st0) := by
  refine va_callq hr hS (fun q _ h => hF q h) hF (fun r u t H1 locs1 ht hvm hw hB hz hk hS1 => ?_)
  obtain ⟨hP1, hK1, hD1⟩ := hB
  rw [ht] at hP1
  obtain ⟨hP2, hD2⟩ := va_join hP hD isC isR hC hR hn hdis hk hF hP1 hD1
  exact kk r u H1 locs1 hw hP2 hD2 hS1
theorem q_cv {post : va_W → Prop} (hr : va_Run p l e R s m args below meth c H locs cells slots mc ms (F0 m pc ls st0) rest (va_Qv post (POST g (va_A wc H.size)) (va_A wc H.size) a) (va_A wc H.size)) (hP : va_P g.1 CLS ws H) (hD : va_D A ws) {H0 : Heap} (hS : va_S A H0 H locs) (hF : ∀ q, va_A wc H.size q → A q) (isC isR : List Nat) (hC : isC.map (fun i => ws[i]?) = wc.map some) (hR : isR.map (fun i => ws[i]?) = wr.map some) (hn : va_nd isR = true) (hdis : ∀ i ∈ isR, i ∉ isC)
    (kk : ∀ (u : va_W) (H1 : Heap) (locs1 : List Loc), post u → va_P g.1 CLS (wr ++ u) H1 → va_D A (wr ++ u) → va_S A H0 H1 locs1 → W p l e R s m args below meth c H1 locs1 (cells + mc) (slots + ms) Q (F0 m (pc + 3) ls (rest))) : W p l e R s m args below meth c H locs cells slots Q (F0 m pc ls st0) := by
  refine va_callv hr hS (fun q _ h => hF q h) hF (fun u t H1 locs1 ht hvm hw hB hz hk hS1 => ?_)
  obtain ⟨hP1, hK1, hD1⟩ := hB
  rw [ht] at hP1
  obtain ⟨hP2, hD2⟩ := va_join hP hD isC isR hC hR hn hdis hk hF hP1 hD1
  exact kk u H1 locs1 hw hP2 hD2 hS1
theorem q_cFi {post : Int32 → va_W → Prop} (hr : va_Run5 p l e R s m args below meth c H locs cells slots mc ms (F0 m pc ls st0) rest (va_Qi post (POST g (va_A wc H.size)) (va_A wc H.size) a) (va_A wc H.size)) (hP : va_P g.1 CLS ws H) (hD : va_D A ws) {H0 : Heap} (hS : va_S A H0 H locs) (hF : ∀ q, va_A wc H.size q → A q) (isC isR : List Nat) (hC : isC.map (fun i => ws[i]?) = wc.map some) (hR : isR.map (fun i => ws[i]?) = wr.map some) (hn : va_nd isR = true) (hdis : ∀ i ∈ isR, i ∉ isC)
    (kk : ∀ (r : Int32) (u : va_W) (H1 : Heap) (locs1 : List Loc), post r u → va_P g.1 CLS (wr ++ u) H1 → va_D A (wr ++ u) → va_S A H0 H1 locs1 → W p l e R s m args below meth c H1 locs1 (cells + mc) (slots + ms) Q (F0 m (pc + 5) ls (.int r :: rest))) : W p l e R s m args below meth c H locs cells slots Q (F0 m pc ls st0) := by
  refine va_callFi hr hS (fun q _ h => hF q h) hF (fun r u t H1 locs1 ht hvm hw hB hz hk hS1 => ?_)
  obtain ⟨hP1, hK1, hD1⟩ := hB
  rw [ht] at hP1
  obtain ⟨hP2, hD2⟩ := va_join hP hD isC isR hC hR hn hdis hk hF hP1 hD1
  exact kk r u H1 locs1 hw hP2 hD2 hS1
theorem q_cFl {post : Int64 → va_W → Prop} (hr : va_Run5 p l e R s m args below meth c H locs cells slots mc ms (F0 m pc ls st0) rest (va_Ql post (POST g (va_A wc H.size)) (va_A wc H.size) a) (va_A wc H.size)) (hP : va_P g.1 CLS ws H) (hD : va_D A ws) {H0 : Heap} (hS : va_S A H0 H locs) (hF : ∀ q, va_A wc H.size q → A q) (isC isR : List Nat) (hC : isC.map (fun i => ws[i]?) = wc.map some) (hR : isR.map (fun i => ws[i]?) = wr.map some) (hn : va_nd isR = true) (hdis : ∀ i ∈ isR, i ∉ isC)
    (kk : ∀ (r : Int64) (u : va_W) (H1 : Heap) (locs1 : List Loc), post r u → va_P g.1 CLS (wr ++ u) H1 → va_D A (wr ++ u) → va_S A H0 H1 locs1 → W p l e R s m args below meth c H1 locs1 (cells + mc) (slots + ms) Q (F0 m (pc + 5) ls (.long r :: rest))) : W p l e R s m args below meth c H locs cells slots Q (F0 m pc ls st0) := by
  refine va_callFl hr hS (fun q _ h => hF q h) hF (fun r u t H1 locs1 ht hvm hw hB hz hk hS1 => ?_)
  obtain ⟨hP1, hK1, hD1⟩ := hB
  rw [ht] at hP1
  obtain ⟨hP2, hD2⟩ := va_join hP hD isC isR hC hR hn hdis hk hF hP1 hD1
  exact kk r u H1 locs1 hw hP2 hD2 hS1
theorem q_cFf {post : UInt32 → va_W → Prop} (hr : va_Run5 p l e R s m args below meth c H locs cells slots mc ms (F0 m pc ls st0) rest (va_Qf post (POST g (va_A wc H.size)) (va_A wc H.size) a) (va_A wc H.size)) (hP : va_P g.1 CLS ws H) (hD : va_D A ws) {H0 : Heap} (hS : va_S A H0 H locs) (hF : ∀ q, va_A wc H.size q → A q) (isC isR : List Nat) (hC : isC.map (fun i => ws[i]?) = wc.map some) (hR : isR.map (fun i => ws[i]?) = wr.map some) (hn : va_nd isR = true) (hdis : ∀ i ∈ isR, i ∉ isC)
    (kk : ∀ (r : UInt32) (u : va_W) (H1 : Heap) (locs1 : List Loc), post r u → va_P g.1 CLS (wr ++ u) H1 → va_D A (wr ++ u) → va_S A H0 H1 locs1 → W p l e R s m args below meth c H1 locs1 (cells + mc) (slots + ms) Q (F0 m (pc + 5) ls (.float r :: rest))) : W p l e R s m args below meth c H locs cells slots Q (F0 m pc ls st0) := by
  refine va_callFf hr hS (fun q _ h => hF q h) hF (fun r u t H1 locs1 ht hvm hw hB hz hk hS1 => ?_)
  obtain ⟨hP1, hK1, hD1⟩ := hB
  rw [ht] at hP1
  obtain ⟨hP2, hD2⟩ := va_join hP hD isC isR hC hR hn hdis hk hF hP1 hD1
  exact kk r u H1 locs1 hw hP2 hD2 hS1
theorem q_cFd {post : UInt64 → va_W → Prop} (hr : va_Run5 p l e R s m args below meth c H locs cells slots mc ms (F0 m pc ls st0) rest (va_Qd post (POST g (va_A wc H.size)) (va_A wc H.size) a) (va_A wc H.size)) (hP : va_P g.1 CLS ws H) (hD : va_D A ws) {H0 : Heap} (hS : va_S A H0 H locs) (hF : ∀ q, va_A wc H.size q → A q) (isC isR : List Nat) (hC : isC.map (fun i => ws[i]?) = wc.map some) (hR : isR.map (fun i => ws[i]?) = wr.map some) (hn : va_nd isR = true) (hdis : ∀ i ∈ isR, i ∉ isC)
    (kk : ∀ (r : UInt64) (u : va_W) (H1 : Heap) (locs1 : List Loc), post r u → va_P g.1 CLS (wr ++ u) H1 → va_D A (wr ++ u) → va_S A H0 H1 locs1 → W p l e R s m args below meth c H1 locs1 (cells + mc) (slots + ms) Q (F0 m (pc + 5) ls (.double r :: rest))) : W p l e R s m args below meth c H locs cells slots Q (F0 m pc ls st0) := by
  refine va_callFd hr hS (fun q _ h => hF q h) hF (fun r u t H1 locs1 ht hvm hw hB hz hk hS1 => ?_)
  obtain ⟨hP1, hK1, hD1⟩ := hB
  rw [ht] at hP1
  obtain ⟨hP2, hD2⟩ := va_join hP hD isC isR hC hR hn hdis hk hF hP1 hD1
  exact kk r u H1 locs1 hw hP2 hD2 hS1
theorem q_cFq {post : Option Nat → va_W → Prop} (hr : va_Run5 p l e R s m args below meth c H locs cells slots mc ms (F0 m pc ls st0) rest (va_Qq post (POST g (va_A wc H.size)) (va_A wc H.size) a) (va_A wc H.size)) (hP : va_P g.1 CLS ws H) (hD : va_D A ws) {H0 : Heap} (hS : va_S A H0 H locs) (hF : ∀ q, va_A wc H.size q → A q) (isC isR : List Nat) (hC : isC.map (fun i => ws[i]?) = wc.map some) (hR : isR.map (fun i => ws[i]?) = wr.map some) (hn : va_nd isR = true) (hdis : ∀ i ∈ isR, i ∉ isC)
    (kk : ∀ (r : Option Nat) (u : va_W) (H1 : Heap) (locs1 : List Loc), post r u → va_P g.1 CLS (wr ++ u) H1 → va_D A (wr ++ u) → va_S A H0 H1 locs1 → W p l e R s m args below meth c H1 locs1 (cells + mc) (slots + ms) Q (F0 m (pc + 5) ls (va_rf r :: rest))) : W p l e R s m args below meth c H locs cells slots Q (F0 m pc ls st0) := by
  refine va_callFq hr hS (fun q _ h => hF q h) hF (fun r u t H1 locs1 ht hvm hw hB hz hk hS1 => ?_)
  obtain ⟨hP1, hK1, hD1⟩ := hB
  rw [ht] at hP1
  obtain ⟨hP2, hD2⟩ := va_join hP hD isC isR hC hR hn hdis hk hF hP1 hD1
  exact kk r u H1 locs1 hw hP2 hD2 hS1
theorem q_cFv {post : va_W → Prop} (hr : va_Run5 p l e R s m args below meth c H locs cells slots mc ms (F0 m pc ls st0) rest (va_Qv post (POST g (va_A wc H.size)) (va_A wc H.size) a) (va_A wc H.size)) (hP : va_P g.1 CLS ws H) (hD : va_D A ws) {H0 : Heap} (hS : va_S A H0 H locs) (hF : ∀ q, va_A wc H.size q → A q) (isC isR : List Nat) (hC : isC.map (fun i => ws[i]?) = wc.map some) (hR : isR.map (fun i => ws[i]?) = wr.map some) (hn : va_nd isR = true) (hdis : ∀ i ∈ isR, i ∉ isC)
    (kk : ∀ (u : va_W) (H1 : Heap) (locs1 : List Loc), post u → va_P g.1 CLS (wr ++ u) H1 → va_D A (wr ++ u) → va_S A H0 H1 locs1 → W p l e R s m args below meth c H1 locs1 (cells + mc) (slots + ms) Q (F0 m (pc + 5) ls (rest))) : W p l e R s m args below meth c H locs cells slots Q (F0 m pc ls st0) := by
  refine va_callFv hr hS (fun q _ h => hF q h) hF (fun u t H1 locs1 ht hvm hw hB hz hk hS1 => ?_)
  obtain ⟨hP1, hK1, hD1⟩ := hB
  rw [ht] at hP1
  obtain ⟨hP2, hD2⟩ := va_join hP hD isC isR hC hR hn hdis hk hF hP1 hD1
  exact kk u H1 locs1 hw hP2 hD2 hS1
theorem q_ciZ {post : Int32 → va_W → Prop} {kz : Nat} (hr : va_Run p l e R s m args below meth c H locs cells slots mc ms (F0 m pc ls st0) rest (va_Qi post (fun u t => POST g (va_A wc H.size) u t ∧ H.size + kz ≤ t.heap.size) (va_A wc H.size) a) (va_A wc H.size)) (hP : va_P g.1 CLS ws H) (hD : va_D A ws) {H0 : Heap} (hS : va_S A H0 H locs) (hF : ∀ q, va_A wc H.size q → A q) (isC isR : List Nat) (hC : isC.map (fun i => ws[i]?) = wc.map some) (hR : isR.map (fun i => ws[i]?) = wr.map some) (hn : va_nd isR = true) (hdis : ∀ i ∈ isR, i ∉ isC)
    (kk : ∀ (r : Int32) (u : va_W) (H1 : Heap) (locs1 : List Loc), H.size + kz ≤ H1.size → post r u → va_P g.1 CLS (wr ++ u) H1 → va_D A (wr ++ u) → va_S A H0 H1 locs1 → W p l e R s m args below meth c H1 locs1 (cells + mc) (slots + ms) Q (F0 m (pc + 3) ls (.int r :: rest))) : W p l e R s m args below meth c H locs cells slots Q (F0 m pc ls st0) := by
  refine va_calli hr hS (fun q _ h => hF q h) hF (fun r u t H1 locs1 ht hvm hw hB hz hk hS1 => ?_)
  obtain ⟨⟨hP1, hK1, hD1⟩, hZ⟩ := hB
  rw [ht] at hP1 hZ
  obtain ⟨hP2, hD2⟩ := va_join hP hD isC isR hC hR hn hdis hk hF hP1 hD1
  exact kk r u H1 locs1 hZ hw hP2 hD2 hS1
theorem q_loop {st : List Value} (n : Nat) (P : Nat → (Nat → Int32) → Heap → List Loc → Array Slot → Prop)
    (step : ∀ (i : Nat) (f : Nat → Int32) (H : Heap) (locs : List Loc) (ls : Array Slot), i < n → P i f H locs ls → (∀ (f' : Nat → Int32) (H' : Heap) (locs' : List Loc) (ls' : Array Slot), P (i + 1) f' H' locs' ls' → W p l e R s m args below meth c H' locs' cells slots Q (F0 m pc ls' st)) → W p l e R s m args below meth c H locs cells slots Q (F0 m pc ls st))
    (fin : ∀ (f : Nat → Int32) (H : Heap) (locs : List Loc) (ls : Array Slot), P n f H locs ls → W p l e R s m args below meth c H locs cells slots Q (F0 m pc ls st))
    (f : Nat → Int32) (h0 : P 0 f H locs ls) : W p l e R s m args below meth c H locs cells slots Q (F0 m pc ls st) := by
  have key : ∀ (k i : Nat), i + k = n → ∀ (f : Nat → Int32) (H : Heap) (locs : List Loc) (ls : Array Slot), P i f H locs ls → W p l e R s m args below meth c H locs cells slots Q (F0 m pc ls st) := by
    intro k
    induction k with
    | zero =>
      intro i hi f H locs ls h
      have : i = n := by omega
      subst this
      exact fin f H locs ls h
    | succ k ih =>
      intro i hi f H locs ls h
      exact step i f H locs ls (by omega) h (fun f' H' locs' ls' h' => ih (i + 1) (by omega) f' H' locs' ls' h')
  exact key n 0 (by omega) f H locs ls h0
theorem q_loopc {st : List Value} (n dc ds : Nat) (P : Nat → Heap → List Loc → Array Slot → Prop)
    (step : ∀ (i : Nat) (H : Heap) (locs : List Loc) (ls : Array Slot), i < n → P i H locs ls → (∀ (H' : Heap) (locs' : List Loc) (ls' : Array Slot), P (i + 1) H' locs' ls' → W p l e R s m args below meth c H' locs' (cells + dc * (i + 1)) (slots + ds * (i + 1)) Q (F0 m pc ls' st)) → W p l e R s m args below meth c H locs (cells + dc * i) (slots + ds * i) Q (F0 m pc ls st))
    (fin : ∀ (H : Heap) (locs : List Loc) (ls : Array Slot), P n H locs ls → W p l e R s m args below meth c H locs (cells + dc * n) (slots + ds * n) Q (F0 m pc ls st))
    (h0 : P 0 H locs ls) : W p l e R s m args below meth c H locs cells slots Q (F0 m pc ls st) := by
  have key : ∀ (k i : Nat), i + k = n → ∀ (H : Heap) (locs : List Loc) (ls : Array Slot), P i H locs ls → W p l e R s m args below meth c H locs (cells + dc * i) (slots + ds * i) Q (F0 m pc ls st) := by
    intro k
    induction k with
    | zero =>
      intro i hi H locs ls h
      have : i = n := by omega
      subst this
      exact fin H locs ls h
    | succ k ih =>
      intro i hi H locs ls h
      exact step i H locs ls (by omega) h (fun H' locs' ls' h' => ih (i + 1) (by omega) H' locs' ls' h')
  exact key n 0 (by omega) H locs ls h0
end QR
end
section
theorem k437 : (Jvm.Cond.fieldLink "java/lang/String" (38 : Nat) "java/lang/String" "COMPACT_STRINGS" "Z") ∈ G9 := g9 437 (by decide +kernel) rfl
theorem k2090 : (Jvm.Cond.fieldLink "java/lang/String" (15 : Nat) "java/lang/String" "coder" "B") ∈ G9 := g9 2090 (by decide +kernel) rfl
theorem k2089 : (Jvm.Cond.fieldLink "java/lang/String" (9 : Nat) "java/lang/String" "value" "[B") ∈ G9 := g9 2089 (by decide +kernel) rfl
theorem k446 : (Jvm.Cond.code ({ cls := "java/lang/String", name := "coder", desc := "()B" } : Jvm.MethodName) prog_33_method_152_code (1 : Nat) (Option.some Jvm.ClassFile.FieldType.byte)) ∈ G9 := g9 446 (by decide +kernel) rfl
theorem k77 : (Jvm.Cond.initialized "java/lang/String") ∈ G9 := g9 77 (by decide +kernel) rfl
theorem k443 : (Jvm.Cond.methodLink "java/lang/String" (335 : Nat) ({ cls := "java/lang/String", name := "coder", desc := "()B" } : Jvm.MethodName)) ∈ G9 := g9 443 (by decide +kernel) rfl
theorem ok_J0_coder_7d493 : okN yJ0_coder_7d493 0 := by decide +kernel
theorem k444 : (Jvm.Cond.instanceMethod ({ cls := "java/lang/String", name := "coder", desc := "()B" } : Jvm.MethodName)) ∈ G9 := g9 444 (by decide +kernel) rfl
theorem k445 : (Jvm.Cond.selects "java/lang/String" ({ cls := "java/lang/String", name := "coder", desc := "()B" } : Jvm.MethodName) ({ cls := "java/lang/String", name := "coder", desc := "()B" } : Jvm.MethodName)) ∈ G9 := g9 445 (by decide +kernel) rfl
theorem k452 : (Jvm.Cond.code ({ cls := "java/lang/StringLatin1", name := "canEncode", desc := "(I)Z" } : Jvm.MethodName) prog_35_method_4_code (1 : Nat) (Option.some Jvm.ClassFile.FieldType.boolean)) ∈ G9 := g9 452 (by decide +kernel) rfl
theorem k78 : (Jvm.Cond.initialized "java/lang/StringLatin1") ∈ G9 := g9 78 (by decide +kernel) rfl
theorem k450 : (Jvm.Cond.methodLink "java/lang/StringLatin1" (88 : Nat) ({ cls := "java/lang/StringLatin1", name := "canEncode", desc := "(I)Z" } : Jvm.MethodName)) ∈ G9 := g9 450 (by decide +kernel) rfl
theorem ok_J1_canEncode_9a6ad : okN yJ1_canEncode_9a6ad 1 := by decide +kernel
theorem k451 : (Jvm.Cond.static ({ cls := "java/lang/StringLatin1", name := "canEncode", desc := "(I)Z" } : Jvm.MethodName)) ∈ G9 := g9 451 (by decide +kernel) rfl
theorem k453 : (Jvm.Cond.methodLink "java/lang/StringLatin1" (92 : Nat) ({ cls := "java/lang/Math", name := "max", desc := "(II)I" } : Jvm.MethodName)) ∈ G9 := g9 453 (by decide +kernel) rfl
theorem k454 : (Jvm.Cond.static ({ cls := "java/lang/Math", name := "max", desc := "(II)I" } : Jvm.MethodName)) ∈ G9 := g9 454 (by decide +kernel) rfl
theorem k72 : (Jvm.Cond.initialized "java/lang/Math") ∈ G9 := g9 72 (by decide +kernel) rfl
theorem k455 : (Jvm.Cond.code ({ cls := "java/lang/Math", name := "max", desc := "(II)I" } : Jvm.MethodName) prog_30_method_65_code (2 : Nat) (Option.some Jvm.ClassFile.FieldType.int)) ∈ G9 := g9 455 (by decide +kernel) rfl
theorem k456 : (Jvm.Cond.methodLink "java/lang/StringLatin1" (38 : Nat) ({ cls := "java/lang/Math", name := "min", desc := "(II)I" } : Jvm.MethodName)) ∈ G9 := g9 456 (by decide +kernel) rfl
theorem k457 : (Jvm.Cond.static ({ cls := "java/lang/Math", name := "min", desc := "(II)I" } : Jvm.MethodName)) ∈ G9 := g9 457 (by decide +kernel) rfl
theorem k458 : (Jvm.Cond.code ({ cls := "java/lang/Math", name := "min", desc := "(II)I" } : Jvm.MethodName) prog_30_method_69_code (2 : Nat) (Option.some Jvm.ClassFile.FieldType.int)) ∈ G9 := g9 458 (by decide +kernel) rfl
theorem k461 : (Jvm.Cond.code ({ cls := "java/lang/StringLatin1", name := "indexOfChar", desc := "([BIII)I" } : Jvm.MethodName) prog_35_method_23_code (6 : Nat) (Option.some Jvm.ClassFile.FieldType.int)) ∈ G9 := g9 461 (by decide +kernel) rfl
theorem k459 : (Jvm.Cond.methodLink "java/lang/StringLatin1" (95 : Nat) ({ cls := "java/lang/StringLatin1", name := "indexOfChar", desc := "([BIII)I" } : Jvm.MethodName)) ∈ G9 := g9 459 (by decide +kernel) rfl
theorem ok_J1_indexOfChar_4cfef : okN yJ1_indexOfChar_4cfef 4 := by decide +kernel
theorem k460 : (Jvm.Cond.static ({ cls := "java/lang/StringLatin1", name := "indexOfChar", desc := "([BIII)I" } : Jvm.MethodName)) ∈ G9 := g9 460 (by decide +kernel) rfl
theorem k436 : (Jvm.Cond.code ({ cls := "java/lang/String", name := "isLatin1", desc := "()Z" } : Jvm.MethodName) prog_33_method_154_code (1 : Nat) (Option.some Jvm.ClassFile.FieldType.boolean)) ∈ G9 := g9 436 (by decide +kernel) rfl
theorem k433 : (Jvm.Cond.methodLink "java/lang/String" (492 : Nat) ({ cls := "java/lang/String", name := "isLatin1", desc := "()Z" } : Jvm.MethodName)) ∈ G9 := g9 433 (by decide +kernel) rfl
theorem ok_J0_isLatin1_aae02 : okN yJ0_isLatin1_aae02 0 := by decide +kernel
theorem k434 : (Jvm.Cond.instanceMethod ({ cls := "java/lang/String", name := "isLatin1", desc := "()Z" } : Jvm.MethodName)) ∈ G9 := g9 434 (by decide +kernel) rfl
theorem k435 : (Jvm.Cond.selects "java/lang/String" ({ cls := "java/lang/String", name := "isLatin1", desc := "()Z" } : Jvm.MethodName) ({ cls := "java/lang/String", name := "isLatin1", desc := "()Z" } : Jvm.MethodName)) ∈ G9 := g9 435 (by decide +kernel) rfl
theorem k442 : (Jvm.Cond.code ({ cls := "java/lang/String", name := "length", desc := "()I" } : Jvm.MethodName) prog_33_method_54_code (1 : Nat) (Option.some Jvm.ClassFile.FieldType.int)) ∈ G9 := g9 442 (by decide +kernel) rfl
theorem k439 : (Jvm.Cond.methodLink "java/lang/String" (505 : Nat) ({ cls := "java/lang/String", name := "length", desc := "()I" } : Jvm.MethodName)) ∈ G9 := g9 439 (by decide +kernel) rfl
theorem ok_J0_length_8abf5 : okN yJ0_length_8abf5 0 := by decide +kernel
theorem k440 : (Jvm.Cond.instanceMethod ({ cls := "java/lang/String", name := "length", desc := "()I" } : Jvm.MethodName)) ∈ G9 := g9 440 (by decide +kernel) rfl
theorem k441 : (Jvm.Cond.selects "java/lang/String" ({ cls := "java/lang/String", name := "length", desc := "()I" } : Jvm.MethodName) ({ cls := "java/lang/String", name := "length", desc := "()I" } : Jvm.MethodName)) ∈ G9 := g9 441 (by decide +kernel) rfl
theorem k449 : (Jvm.Cond.code ({ cls := "java/lang/StringLatin1", name := "indexOf", desc := "([BIII)I" } : Jvm.MethodName) prog_35_method_22_code (4 : Nat) (Option.some Jvm.ClassFile.FieldType.int)) ∈ G9 := g9 449 (by decide +kernel) rfl
theorem k447 : (Jvm.Cond.methodLink "java/lang/String" (637 : Nat) ({ cls := "java/lang/StringLatin1", name := "indexOf", desc := "([BIII)I" } : Jvm.MethodName)) ∈ G9 := g9 447 (by decide +kernel) rfl
theorem ok_J1_indexOf_4cfef : okN yJ1_indexOf_4cfef 4 := by decide +kernel
theorem k448 : (Jvm.Cond.static ({ cls := "java/lang/StringLatin1", name := "indexOf", desc := "([BIII)I" } : Jvm.MethodName)) ∈ G9 := g9 448 (by decide +kernel) rfl
theorem k432 : (Jvm.Cond.code ({ cls := "java/lang/String", name := "indexOf", desc := "(II)I" } : Jvm.MethodName) prog_33_method_80_code (3 : Nat) (Option.some Jvm.ClassFile.FieldType.int)) ∈ G9 := g9 432 (by decide +kernel) rfl
theorem k429 : (Jvm.Cond.methodLink "java/lang/String" (633 : Nat) ({ cls := "java/lang/String", name := "indexOf", desc := "(II)I" } : Jvm.MethodName)) ∈ G9 := g9 429 (by decide +kernel) rfl
theorem ok_J0_indexOf_7cf53 : okN yJ0_indexOf_7cf53 2 := by decide +kernel
theorem k430 : (Jvm.Cond.instanceMethod ({ cls := "java/lang/String", name := "indexOf", desc := "(II)I" } : Jvm.MethodName)) ∈ G9 := g9 430 (by decide +kernel) rfl
theorem k431 : (Jvm.Cond.selects "java/lang/String" ({ cls := "java/lang/String", name := "indexOf", desc := "(II)I" } : Jvm.MethodName) ({ cls := "java/lang/String", name := "indexOf", desc := "(II)I" } : Jvm.MethodName)) ∈ G9 := g9 431 (by decide +kernel) rfl
theorem k1437 : (Jvm.Cond.lays "java/util/ArrayList$Itr" "java/util/ArrayList$Itr" "cursor" "I") ∈ G9 := g9 1437 (by decide +kernel) rfl
theorem k1439 : (Jvm.Cond.lays "java/util/ArrayList$Itr" "java/util/ArrayList$Itr" "lastRet" "I") ∈ G9 := g9 1439 (by decide +kernel) rfl
theorem k1441 : (Jvm.Cond.lays "java/util/ArrayList$Itr" "java/util/ArrayList$Itr" "expectedModCount" "I") ∈ G9 := g9 1441 (by decide +kernel) rfl
theorem k1443 : (Jvm.Cond.laysFinal "java/util/ArrayList$Itr" "java/util/ArrayList$Itr" "this$0" "Ljava/util/ArrayList;") ∈ G9 := g9 1443 (by decide +kernel) rfl
theorem inG_Jx35411 : ∀ w ∈ u_ws RJx35411 TJx35411 4, w ∈ G9 := by
  intro w h
  have h : w ∈ [u_lay RJx35411 TJx35411 0, u_lay RJx35411 TJx35411 1, u_lay RJx35411 TJx35411 2, u_lay RJx35411 TJx35411 3] := h
  simp only [List.mem_cons, List.not_mem_nil, or_false] at h
  rcases h with rfl | rfl | rfl | rfl
  · exact k1437
  · exact k1439
  · exact k1441
  · exact k1443
theorem k1436 : (Jvm.Cond.fieldLink "java/util/ArrayList$Itr" (1 : Nat) "java/util/ArrayList$Itr" "this$0" "Ljava/util/ArrayList;") ∈ G9 := g9 1436 (by decide +kernel) rfl
theorem k1432 : (Jvm.Cond.methodLink "java/util/ArrayList$Itr" (7 : Nat) ({ cls := "java/lang/Object", name := "<init>", desc := "()V" } : Jvm.MethodName)) ∈ G9 := g9 1432 (by decide +kernel) rfl
theorem k98 : (Jvm.Cond.instanceMethod ({ cls := "java/lang/Object", name := "<init>", desc := "()V" } : Jvm.MethodName)) ∈ G9 := g9 98 (by decide +kernel) rfl
theorem k99 : (Jvm.Cond.code ({ cls := "java/lang/Object", name := "<init>", desc := "()V" } : Jvm.MethodName) object_method_1_code (1 : Nat) (Option.none : Option Jvm.ClassFile.FieldType)) ∈ G9 := g9 99 (by decide +kernel) rfl
theorem k1434 : (Jvm.Cond.fieldLink "java/util/ArrayList$Itr" (13 : Nat) "java/util/ArrayList$Itr" "lastRet" "I") ∈ G9 := g9 1434 (by decide +kernel) rfl
theorem k1312 : (Jvm.Cond.fieldLink "java/util/ArrayList$Itr" (17 : Nat) "java/util/ArrayList" "modCount" "I") ∈ G9 := g9 1312 (by decide +kernel) rfl
theorem k1435 : (Jvm.Cond.fieldLink "java/util/ArrayList$Itr" (22 : Nat) "java/util/ArrayList$Itr" "expectedModCount" "I") ∈ G9 := g9 1435 (by decide +kernel) rfl
theorem k1427 : (Jvm.Cond.classLink "java/util/ArrayList" (267 : Nat) "java/util/ArrayList$Itr") ∈ G9 := g9 1427 (by decide +kernel) rfl
theorem k1428 : (Jvm.Cond.instantiable "java/util/ArrayList$Itr" (4 : Nat)) ∈ G9 := g9 1428 (by decide +kernel) rfl
theorem k73 : (Jvm.Cond.initialized "java/util/ArrayList$Itr") ∈ G9 := g9 73 (by decide +kernel) rfl
theorem k1431 : (Jvm.Cond.code ({ cls := "java/util/ArrayList$Itr", name := "<init>", desc := "(Ljava/util/ArrayList;)V" } : Jvm.MethodName) prog_46_method_1_code (2 : Nat) (Option.none : Option Jvm.ClassFile.FieldType)) ∈ G9 := g9 1431 (by decide +kernel) rfl
theorem k1429 : (Jvm.Cond.methodLink "java/util/ArrayList" (269 : Nat) ({ cls := "java/util/ArrayList$Itr", name := "<init>", desc := "(Ljava/util/ArrayList;)V" } : Jvm.MethodName)) ∈ G9 := g9 1429 (by decide +kernel) rfl
theorem ok_Jx35411_init_45d68 : okN yJx35411_init_45d68 1 := by decide +kernel
theorem k1430 : (Jvm.Cond.instanceMethod ({ cls := "java/util/ArrayList$Itr", name := "<init>", desc := "(Ljava/util/ArrayList;)V" } : Jvm.MethodName)) ∈ G9 := g9 1430 (by decide +kernel) rfl
theorem k1433 : (Jvm.Cond.fieldLink "java/util/ArrayList$Itr" (25 : Nat) "java/util/ArrayList$Itr" "cursor" "I") ∈ G9 := g9 1433 (by decide +kernel) rfl
theorem k1468 : (Jvm.Cond.code ({ cls := "java/util/ArrayList$Itr", name := "checkForComodification", desc := "()V" } : Jvm.MethodName) prog_46_method_6_code (1 : Nat) (Option.none : Option Jvm.ClassFile.FieldType)) ∈ G9 := g9 1468 (by decide +kernel) rfl
theorem k1465 : (Jvm.Cond.methodLink "java/util/ArrayList$Itr" (31 : Nat) ({ cls := "java/util/ArrayList$Itr", name := "checkForComodification", desc := "()V" } : Jvm.MethodName)) ∈ G9 := g9 1465 (by decide +kernel) rfl
theorem ok_Jx35411_checkForComodification_da8c8 : okN yJx35411_checkForComodification_da8c8 0 := by decide +kernel
theorem k1466 : (Jvm.Cond.instanceMethod ({ cls := "java/util/ArrayList$Itr", name := "checkForComodification", desc := "()V" } : Jvm.MethodName)) ∈ G9 := g9 1466 (by decide +kernel) rfl
theorem k1467 : (Jvm.Cond.selects "java/util/ArrayList$Itr" ({ cls := "java/util/ArrayList$Itr", name := "checkForComodification", desc := "()V" } : Jvm.MethodName) ({ cls := "java/util/ArrayList$Itr", name := "checkForComodification", desc := "()V" } : Jvm.MethodName)) ∈ G9 := g9 1467 (by decide +kernel) rfl
theorem k1308 : (Jvm.Cond.fieldLink "java/util/ArrayList$Itr" (37 : Nat) "java/util/ArrayList" "elementData" "[Ljava/lang/Object;") ∈ G9 := g9 1308 (by decide +kernel) rfl
theorem k1331 : (Jvm.Cond.fieldLink "java/util/ArrayDeque" (24 : Nat) "java/util/ArrayDeque" "head" "I") ∈ G9 := g9 1331 (by decide +kernel) rfl
theorem k1332 : (Jvm.Cond.fieldLink "java/util/ArrayDeque" (20 : Nat) "java/util/ArrayDeque" "tail" "I") ∈ G9 := g9 1332 (by decide +kernel) rfl
theorem k1343 : (Jvm.Cond.fieldLink "HeroTableModel" (26 : Nat) "HeroTableModel" "dice" "Ljava/util/ArrayDeque;") ∈ G9 := g9 1343 (by decide +kernel) rfl
theorem k2121 : (Jvm.Cond.code ({ cls := "java/util/ArrayDeque", name := "isEmpty", desc := "()Z" } : Jvm.MethodName) prog_44_method_38_code (1 : Nat) (Option.some Jvm.ClassFile.FieldType.boolean)) ∈ G9 := g9 2121 (by decide +kernel) rfl
theorem k61 : (Jvm.Cond.initialized "java/util/ArrayDeque") ∈ G9 := g9 61 (by decide +kernel) rfl
theorem k2118 : (Jvm.Cond.methodLink "HeroTableModel" (228 : Nat) ({ cls := "java/util/ArrayDeque", name := "isEmpty", desc := "()Z" } : Jvm.MethodName)) ∈ G9 := g9 2118 (by decide +kernel) rfl
theorem ok_X12_isEmpty : okN yX12_isEmpty 0 := by decide +kernel
theorem k2119 : (Jvm.Cond.instanceMethod ({ cls := "java/util/ArrayDeque", name := "isEmpty", desc := "()Z" } : Jvm.MethodName)) ∈ G9 := g9 2119 (by decide +kernel) rfl
theorem k2120 : (Jvm.Cond.selects "java/util/ArrayDeque" ({ cls := "java/util/ArrayDeque", name := "isEmpty", desc := "()Z" } : Jvm.MethodName) ({ cls := "java/util/ArrayDeque", name := "isEmpty", desc := "()Z" } : Jvm.MethodName)) ∈ G9 := g9 2120 (by decide +kernel) rfl
theorem k428 : (Jvm.Cond.code ({ cls := "java/lang/String", name := "indexOf", desc := "(I)I" } : Jvm.MethodName) prog_33_method_79_code (2 : Nat) (Option.some Jvm.ClassFile.FieldType.int)) ∈ G9 := g9 428 (by decide +kernel) rfl
theorem k1632 : (Jvm.Cond.methodLink "HeroTableModel" (113 : Nat) ({ cls := "java/lang/String", name := "indexOf", desc := "(I)I" } : Jvm.MethodName)) ∈ G9 := g9 1632 (by decide +kernel) rfl
theorem ok_J0_indexOf_0f7a4 : okN yJ0_indexOf_0f7a4 1 := by decide +kernel
theorem k426 : (Jvm.Cond.instanceMethod ({ cls := "java/lang/String", name := "indexOf", desc := "(I)I" } : Jvm.MethodName)) ∈ G9 := g9 426 (by decide +kernel) rfl
theorem k427 : (Jvm.Cond.selects "java/lang/String" ({ cls := "java/lang/String", name := "indexOf", desc := "(I)I" } : Jvm.MethodName) ({ cls := "java/lang/String", name := "indexOf", desc := "(I)I" } : Jvm.MethodName)) ∈ G9 := g9 427 (by decide +kernel) rfl
theorem k156 : (Jvm.Cond.arrayClass Jvm.ClassFile.FieldType.int) ∈ G9 := g9 156 (by decide +kernel) rfl
theorem k1342 : (Jvm.Cond.fieldLink "HeroTableModel" (20 : Nat) "HeroTableModel" "sources" "Ljava/util/List;") ∈ G9 := g9 1342 (by decide +kernel) rfl
theorem k1426 : (Jvm.Cond.code ({ cls := "java/util/ArrayList", name := "iterator", desc := "()Ljava/util/Iterator;" } : Jvm.MethodName) prog_45_method_55_code (1 : Nat) (Option.some (Jvm.ClassFile.FieldType.object "java/util/Iterator"))) ∈ G9 := g9 1426 (by decide +kernel) rfl
theorem k60 : (Jvm.Cond.initialized "java/util/ArrayList") ∈ G9 := g9 60 (by decide +kernel) rfl
theorem k1419 : (Jvm.Cond.methodLink "HeroTableModel" (70 : Nat) ({ cls := "java/util/List", name := "iterator", desc := "()Ljava/util/Iterator;" } : Jvm.MethodName)) ∈ G9 := g9 1419 (by decide +kernel) rfl
theorem k1422 : (Jvm.Cond.selects "java/util/ArrayList" ({ cls := "java/util/List", name := "iterator", desc := "()Ljava/util/Iterator;" } : Jvm.MethodName) ({ cls := "java/util/ArrayList", name := "iterator", desc := "()Ljava/util/Iterator;" } : Jvm.MethodName)) ∈ G9 := g9 1422 (by decide +kernel) rfl
theorem k1424 : (Jvm.Cond.instanceMethod ({ cls := "java/util/ArrayList", name := "iterator", desc := "()Ljava/util/Iterator;" } : Jvm.MethodName)) ∈ G9 := g9 1424 (by decide +kernel) rfl
theorem okx_iterator : okN yI_iterator 0 := by decide +kernel
theorem k1455 : (Jvm.Cond.code ({ cls := "java/util/ArrayList$Itr", name := "hasNext", desc := "()Z" } : Jvm.MethodName) prog_46_method_2_code (1 : Nat) (Option.some Jvm.ClassFile.FieldType.boolean)) ∈ G9 := g9 1455 (by decide +kernel) rfl
theorem k1447 : (Jvm.Cond.methodLink "HeroTableModel" (74 : Nat) ({ cls := "java/util/Iterator", name := "hasNext", desc := "()Z" } : Jvm.MethodName)) ∈ G9 := g9 1447 (by decide +kernel) rfl
theorem k1451 : (Jvm.Cond.selects "java/util/ArrayList$Itr" ({ cls := "java/util/Iterator", name := "hasNext", desc := "()Z" } : Jvm.MethodName) ({ cls := "java/util/ArrayList$Itr", name := "hasNext", desc := "()Z" } : Jvm.MethodName)) ∈ G9 := g9 1451 (by decide +kernel) rfl
theorem k1453 : (Jvm.Cond.instanceMethod ({ cls := "java/util/ArrayList$Itr", name := "hasNext", desc := "()Z" } : Jvm.MethodName)) ∈ G9 := g9 1453 (by decide +kernel) rfl
theorem okx_hasNext : okN yI_hasNext 0 := by decide +kernel
theorem k1464 : (Jvm.Cond.code ({ cls := "java/util/ArrayList$Itr", name := "next", desc := "()Ljava/lang/Object;" } : Jvm.MethodName) prog_46_method_3_code (3 : Nat) (Option.some (Jvm.ClassFile.FieldType.object "java/lang/Object"))) ∈ G9 := g9 1464 (by decide +kernel) rfl
theorem k1457 : (Jvm.Cond.methodLink "HeroTableModel" (80 : Nat) ({ cls := "java/util/Iterator", name := "next", desc := "()Ljava/lang/Object;" } : Jvm.MethodName)) ∈ G9 := g9 1457 (by decide +kernel) rfl
theorem k1460 : (Jvm.Cond.selects "java/util/ArrayList$Itr" ({ cls := "java/util/Iterator", name := "next", desc := "()Ljava/lang/Object;" } : Jvm.MethodName) ({ cls := "java/util/ArrayList$Itr", name := "next", desc := "()Ljava/lang/Object;" } : Jvm.MethodName)) ∈ G9 := g9 1460 (by decide +kernel) rfl
theorem k1462 : (Jvm.Cond.instanceMethod ({ cls := "java/util/ArrayList$Itr", name := "next", desc := "()Ljava/lang/Object;" } : Jvm.MethodName)) ∈ G9 := g9 1462 (by decide +kernel) rfl
theorem okx_next : okN yI_next 0 := by decide +kernel
theorem k1673 : (Jvm.Cond.classLink "HeroTableModel" (150 : Nat) "HeroTableModel$Source") ∈ G9 := g9 1673 (by decide +kernel) rfl
theorem k2117 : (Jvm.Cond.code ({ cls := "HeroTableModel", name := "die", desc := "()I" } : Jvm.MethodName) prog_10_method_35_code (1 : Nat) (Option.some Jvm.ClassFile.FieldType.int)) ∈ G9 := g9 2117 (by decide +kernel) rfl
theorem k57 : (Jvm.Cond.initialized "HeroTableModel") ∈ G9 := g9 57 (by decide +kernel) rfl
theorem k2114 : (Jvm.Cond.methodLink "HeroTableModel" (239 : Nat) ({ cls := "HeroTableModel", name := "die", desc := "()I" } : Jvm.MethodName)) ∈ G9 := g9 2114 (by decide +kernel) rfl
theorem ok_X11_die : okN yX11_die 0 := by decide +kernel
theorem k2116 : (Jvm.Cond.instanceMethod ({ cls := "HeroTableModel", name := "die", desc := "()I" } : Jvm.MethodName)) ∈ G9 := g9 2116 (by decide +kernel) rfl
theorem k36 : (Jvm.Cond.selects "HeroTableModel" ({ cls := "HeroTableModel", name := "die", desc := "()I" } : Jvm.MethodName) ({ cls := "HeroTableModel", name := "die", desc := "()I" } : Jvm.MethodName)) ∈ G9 := g9 36 (by decide +kernel) rfl
theorem k1791 : (Jvm.Cond.code ({ cls := "HeroTableModel", name := "number", desc := "(LHeroTableModel$Hero;C)I" } : Jvm.MethodName) prog_10_method_29_code (9 : Nat) (Option.some Jvm.ClassFile.FieldType.int)) ∈ G9 := g9 1791 (by decide +kernel) rfl
theorem k1788 : (Jvm.Cond.methodLink "HeroTableModel" (217 : Nat) ({ cls := "HeroTableModel", name := "number", desc := "(LHeroTableModel$Hero;C)I" } : Jvm.MethodName)) ∈ G9 := g9 1788 (by decide +kernel) rfl
theorem ok_X11_number : okN yX11_number 2 := by decide +kernel
theorem k1790 : (Jvm.Cond.instanceMethod ({ cls := "HeroTableModel", name := "number", desc := "(LHeroTableModel$Hero;C)I" } : Jvm.MethodName)) ∈ G9 := g9 1790 (by decide +kernel) rfl
theorem k28 : (Jvm.Cond.selects "HeroTableModel" ({ cls := "HeroTableModel", name := "number", desc := "(LHeroTableModel$Hero;C)I" } : Jvm.MethodName) ({ cls := "HeroTableModel", name := "number", desc := "(LHeroTableModel$Hero;C)I" } : Jvm.MethodName)) ∈ G9 := g9 28 (by decide +kernel) rfl
theorem dJ0_isLatin1_aae02_0 : decode cJ0_isLatin1_aae02 0 = .ok (.getstatic 38, 3) := by decide +kernel
theorem dJ0_isLatin1_aae02_3 : decode cJ0_isLatin1_aae02 3 = .ok (.ifCond .eq 14, 3) := by decide +kernel
theorem dJ0_isLatin1_aae02_6 : decode cJ0_isLatin1_aae02 6 = .ok (.aload_n 0, 1) := by decide +kernel
theorem dJ0_isLatin1_aae02_7 : decode cJ0_isLatin1_aae02 7 = .ok (.getfield 15, 3) := by decide +kernel
theorem dJ0_isLatin1_aae02_10 : decode cJ0_isLatin1_aae02 10 = .ok (.ifCond .ne 7, 3) := by decide +kernel
theorem dJ0_isLatin1_aae02_13 : decode cJ0_isLatin1_aae02 13 = .ok (.iconst 1, 1) := by decide +kernel
theorem dJ0_isLatin1_aae02_14 : decode cJ0_isLatin1_aae02 14 = .ok (.goto 4, 3) := by decide +kernel
theorem dJ0_isLatin1_aae02_18 : decode cJ0_isLatin1_aae02 18 = .ok (.ireturn, 1) := by decide +kernel
theorem dJ0_coder_7d493_0 : decode cJ0_coder_7d493 0 = .ok (.getstatic 38, 3) := by decide +kernel
theorem dJ0_coder_7d493_3 : decode cJ0_coder_7d493 3 = .ok (.ifCond .eq 10, 3) := by decide +kernel
theorem dJ0_coder_7d493_6 : decode cJ0_coder_7d493 6 = .ok (.aload_n 0, 1) := by decide +kernel
theorem dJ0_coder_7d493_7 : decode cJ0_coder_7d493 7 = .ok (.getfield 15, 3) := by decide +kernel
theorem dJ0_coder_7d493_10 : decode cJ0_coder_7d493 10 = .ok (.goto 4, 3) := by decide +kernel
theorem dJ0_coder_7d493_14 : decode cJ0_coder_7d493 14 = .ok (.ireturn, 1) := by decide +kernel
theorem dJ0_length_8abf5_0 : decode cJ0_length_8abf5 0 = .ok (.aload_n 0, 1) := by decide +kernel
theorem dJ0_length_8abf5_1 : decode cJ0_length_8abf5 1 = .ok (.getfield 9, 3) := by decide +kernel
theorem dJ0_length_8abf5_4 : decode cJ0_length_8abf5 4 = .ok (.arraylength, 1) := by decide +kernel
theorem dJ0_length_8abf5_5 : decode cJ0_length_8abf5 5 = .ok (.aload_n 0, 1) := by decide +kernel
theorem dJ0_length_8abf5_6 : decode cJ0_length_8abf5 6 = .ok (.invokevirtual 335, 3) := by decide +kernel
theorem dJ0_length_8abf5_9 : decode cJ0_length_8abf5 9 = .ok (.ishr, 1) := by decide +kernel
theorem dJ0_length_8abf5_10 : decode cJ0_length_8abf5 10 = .ok (.ireturn, 1) := by decide +kernel
theorem dJ1_canEncode_9a6ad_0 : decode cJ1_canEncode_9a6ad 0 = .ok (.iload_n 0, 1) := by decide +kernel
theorem dJ1_canEncode_9a6ad_1 : decode cJ1_canEncode_9a6ad 1 = .ok (.ifCond .lt 14, 3) := by decide +kernel
theorem dJ1_canEncode_9a6ad_4 : decode cJ1_canEncode_9a6ad 4 = .ok (.iload_n 0, 1) := by decide +kernel
theorem dJ1_canEncode_9a6ad_5 : decode cJ1_canEncode_9a6ad 5 = .ok (.sipush 255, 3) := by decide +kernel
theorem dJ1_canEncode_9a6ad_8 : decode cJ1_canEncode_9a6ad 8 = .ok (.if_icmp .gt 7, 3) := by decide +kernel
theorem dJ1_canEncode_9a6ad_11 : decode cJ1_canEncode_9a6ad 11 = .ok (.iconst 1, 1) := by decide +kernel
theorem dJ1_canEncode_9a6ad_12 : decode cJ1_canEncode_9a6ad 12 = .ok (.goto 4, 3) := by decide +kernel
theorem dJ1_canEncode_9a6ad_16 : decode cJ1_canEncode_9a6ad 16 = .ok (.ireturn, 1) := by decide +kernel
theorem dJ1_indexOfChar_4cfef_0 : decode cJ1_indexOfChar_4cfef 0 = .ok (.iload_n 1, 1) := by decide +kernel
theorem dJ1_indexOfChar_4cfef_1 : decode cJ1_indexOfChar_4cfef 1 = .ok (.i2b, 1) := by decide +kernel
theorem dJ1_indexOfChar_4cfef_2 : decode cJ1_indexOfChar_4cfef 2 = .ok (.istore 4, 2) := by decide +kernel
theorem dJ1_indexOfChar_4cfef_4 : decode cJ1_indexOfChar_4cfef 4 = .ok (.iload_n 2, 1) := by decide +kernel
theorem dJ1_indexOfChar_4cfef_5 : decode cJ1_indexOfChar_4cfef 5 = .ok (.istore 5, 2) := by decide +kernel
theorem dJ1_indexOfChar_4cfef_7 : decode cJ1_indexOfChar_4cfef 7 = .ok (.iload 5, 2) := by decide +kernel
theorem dJ1_indexOfChar_4cfef_9 : decode cJ1_indexOfChar_4cfef 9 = .ok (.iload_n 3, 1) := by decide +kernel
theorem dJ1_indexOfChar_4cfef_10 : decode cJ1_indexOfChar_4cfef 10 = .ok (.if_icmp .ge 21, 3) := by decide +kernel
theorem dJ1_indexOfChar_4cfef_13 : decode cJ1_indexOfChar_4cfef 13 = .ok (.aload_n 0, 1) := by decide +kernel
theorem dJ1_indexOfChar_4cfef_14 : decode cJ1_indexOfChar_4cfef 14 = .ok (.iload 5, 2) := by decide +kernel
theorem dJ1_indexOfChar_4cfef_16 : decode cJ1_indexOfChar_4cfef 16 = .ok (.baload, 1) := by decide +kernel
theorem dJ1_indexOfChar_4cfef_17 : decode cJ1_indexOfChar_4cfef 17 = .ok (.iload 4, 2) := by decide +kernel
theorem dJ1_indexOfChar_4cfef_19 : decode cJ1_indexOfChar_4cfef 19 = .ok (.if_icmp .ne 6, 3) := by decide +kernel
theorem dJ1_indexOfChar_4cfef_22 : decode cJ1_indexOfChar_4cfef 22 = .ok (.iload 5, 2) := by decide +kernel
theorem dJ1_indexOfChar_4cfef_24 : decode cJ1_indexOfChar_4cfef 24 = .ok (.ireturn, 1) := by decide +kernel
theorem dJ1_indexOfChar_4cfef_25 : decode cJ1_indexOfChar_4cfef 25 = .ok (.iinc 5 1, 3) := by decide +kernel
theorem dJ1_indexOfChar_4cfef_28 : decode cJ1_indexOfChar_4cfef 28 = .ok (.goto (-21), 3) := by decide +kernel
theorem dJ1_indexOf_4cfef_0 : decode cJ1_indexOf_4cfef 0 = .ok (.iload_n 1, 1) := by decide +kernel
theorem dJ1_indexOf_4cfef_1 : decode cJ1_indexOf_4cfef 1 = .ok (.invokestatic 88, 3) := by decide +kernel
theorem dJ1_indexOf_4cfef_4 : decode cJ1_indexOf_4cfef 4 = .ok (.ifCond .ne 5, 3) := by decide +kernel
theorem dJ1_indexOf_4cfef_9 : decode cJ1_indexOf_4cfef 9 = .ok (.iload_n 2, 1) := by decide +kernel
theorem dJ1_indexOf_4cfef_10 : decode cJ1_indexOf_4cfef 10 = .ok (.iconst 0, 1) := by decide +kernel
theorem dJ1_indexOf_4cfef_11 : decode cJ1_indexOf_4cfef 11 = .ok (.invokestatic 92, 3) := by decide +kernel
theorem dJ1_indexOf_4cfef_14 : decode cJ1_indexOf_4cfef 14 = .ok (.istore_n 2, 1) := by decide +kernel
theorem dJ1_indexOf_4cfef_15 : decode cJ1_indexOf_4cfef 15 = .ok (.iload_n 3, 1) := by decide +kernel
theorem dJ1_indexOf_4cfef_16 : decode cJ1_indexOf_4cfef 16 = .ok (.aload_n 0, 1) := by decide +kernel
theorem dJ1_indexOf_4cfef_17 : decode cJ1_indexOf_4cfef 17 = .ok (.arraylength, 1) := by decide +kernel
theorem dJ1_indexOf_4cfef_18 : decode cJ1_indexOf_4cfef 18 = .ok (.invokestatic 38, 3) := by decide +kernel
theorem dJ1_indexOf_4cfef_21 : decode cJ1_indexOf_4cfef 21 = .ok (.istore_n 3, 1) := by decide +kernel
theorem dJ1_indexOf_4cfef_22 : decode cJ1_indexOf_4cfef 22 = .ok (.iload_n 2, 1) := by decide +kernel
theorem dJ1_indexOf_4cfef_23 : decode cJ1_indexOf_4cfef 23 = .ok (.iload_n 3, 1) := by decide +kernel
theorem dJ1_indexOf_4cfef_24 : decode cJ1_indexOf_4cfef 24 = .ok (.if_icmp .lt 5, 3) := by decide +kernel
theorem dJ1_indexOf_4cfef_29 : decode cJ1_indexOf_4cfef 29 = .ok (.aload_n 0, 1) := by decide +kernel
theorem dJ1_indexOf_4cfef_30 : decode cJ1_indexOf_4cfef 30 = .ok (.iload_n 1, 1) := by decide +kernel
theorem dJ1_indexOf_4cfef_31 : decode cJ1_indexOf_4cfef 31 = .ok (.iload_n 2, 1) := by decide +kernel
theorem dJ1_indexOf_4cfef_32 : decode cJ1_indexOf_4cfef 32 = .ok (.iload_n 3, 1) := by decide +kernel
theorem dJ1_indexOf_4cfef_33 : decode cJ1_indexOf_4cfef 33 = .ok (.invokestatic 95, 3) := by decide +kernel
theorem dJ1_indexOf_4cfef_36 : decode cJ1_indexOf_4cfef 36 = .ok (.ireturn, 1) := by decide +kernel
theorem dJ0_indexOf_7cf53_0 : decode cJ0_indexOf_7cf53 0 = .ok (.aload_n 0, 1) := by decide +kernel
theorem dJ0_indexOf_7cf53_1 : decode cJ0_indexOf_7cf53 1 = .ok (.invokevirtual 492, 3) := by decide +kernel
theorem dJ0_indexOf_7cf53_4 : decode cJ0_indexOf_7cf53 4 = .ok (.ifCond .eq 19, 3) := by decide +kernel
theorem dJ0_indexOf_7cf53_7 : decode cJ0_indexOf_7cf53 7 = .ok (.aload_n 0, 1) := by decide +kernel
theorem dJ0_indexOf_7cf53_8 : decode cJ0_indexOf_7cf53 8 = .ok (.getfield 9, 3) := by decide +kernel
theorem dJ0_indexOf_7cf53_11 : decode cJ0_indexOf_7cf53 11 = .ok (.iload_n 1, 1) := by decide +kernel
theorem dJ0_indexOf_7cf53_12 : decode cJ0_indexOf_7cf53 12 = .ok (.iload_n 2, 1) := by decide +kernel
theorem dJ0_indexOf_7cf53_13 : decode cJ0_indexOf_7cf53 13 = .ok (.aload_n 0, 1) := by decide +kernel
theorem dJ0_indexOf_7cf53_14 : decode cJ0_indexOf_7cf53 14 = .ok (.invokevirtual 505, 3) := by decide +kernel
theorem dJ0_indexOf_7cf53_17 : decode cJ0_indexOf_7cf53 17 = .ok (.invokestatic 637, 3) := by decide +kernel
theorem dJ0_indexOf_7cf53_20 : decode cJ0_indexOf_7cf53 20 = .ok (.goto 16, 3) := by decide +kernel
theorem dJ0_indexOf_7cf53_36 : decode cJ0_indexOf_7cf53 36 = .ok (.ireturn, 1) := by decide +kernel
theorem dJ0_indexOf_0f7a4_0 : decode cJ0_indexOf_0f7a4 0 = .ok (.aload_n 0, 1) := by decide +kernel
theorem dJ0_indexOf_0f7a4_1 : decode cJ0_indexOf_0f7a4 1 = .ok (.iload_n 1, 1) := by decide +kernel
theorem dJ0_indexOf_0f7a4_2 : decode cJ0_indexOf_0f7a4 2 = .ok (.iconst 0, 1) := by decide +kernel
theorem dJ0_indexOf_0f7a4_3 : decode cJ0_indexOf_0f7a4 3 = .ok (.invokevirtual 633, 3) := by decide +kernel
theorem dJ0_indexOf_0f7a4_6 : decode cJ0_indexOf_0f7a4 6 = .ok (.ireturn, 1) := by decide +kernel
theorem dJx35411_init_45d68_0 : decode cJx35411_init_45d68 0 = .ok (.aload_n 0, 1) := by decide +kernel
theorem dJx35411_init_45d68_1 : decode cJx35411_init_45d68 1 = .ok (.aload_n 1, 1) := by decide +kernel
theorem dJx35411_init_45d68_2 : decode cJx35411_init_45d68 2 = .ok (.putfield 1, 3) := by decide +kernel
theorem dJx35411_init_45d68_5 : decode cJx35411_init_45d68 5 = .ok (.aload_n 0, 1) := by decide +kernel
theorem dJx35411_init_45d68_6 : decode cJx35411_init_45d68 6 = .ok (.invokespecial 7, 3) := by decide +kernel
theorem dJx35411_init_45d68_9 : decode cJx35411_init_45d68 9 = .ok (.aload_n 0, 1) := by decide +kernel
theorem dJx35411_init_45d68_10 : decode cJx35411_init_45d68 10 = .ok (.iconst (-1), 1) := by decide +kernel
theorem dJx35411_init_45d68_11 : decode cJx35411_init_45d68 11 = .ok (.putfield 13, 3) := by decide +kernel
theorem dJx35411_init_45d68_14 : decode cJx35411_init_45d68 14 = .ok (.aload_n 0, 1) := by decide +kernel
theorem dJx35411_init_45d68_15 : decode cJx35411_init_45d68 15 = .ok (.aload_n 0, 1) := by decide +kernel
theorem dJx35411_init_45d68_16 : decode cJx35411_init_45d68 16 = .ok (.getfield 1, 3) := by decide +kernel
theorem dJx35411_init_45d68_19 : decode cJx35411_init_45d68 19 = .ok (.getfield 17, 3) := by decide +kernel
theorem dJx35411_init_45d68_22 : decode cJx35411_init_45d68 22 = .ok (.putfield 22, 3) := by decide +kernel
theorem dJx35411_init_45d68_25 : decode cJx35411_init_45d68 25 = .ok (.return_, 1) := by decide +kernel
theorem dJx4a65c_iterator_32c93_0 : decode cJx4a65c_iterator_32c93 0 = .ok (.new 267, 3) := by decide +kernel
theorem dJx4a65c_iterator_32c93_3 : decode cJx4a65c_iterator_32c93 3 = .ok (.dup, 1) := by decide +kernel
theorem dJx4a65c_iterator_32c93_4 : decode cJx4a65c_iterator_32c93 4 = .ok (.aload_n 0, 1) := by decide +kernel
theorem dJx4a65c_iterator_32c93_5 : decode cJx4a65c_iterator_32c93 5 = .ok (.invokespecial 269, 3) := by decide +kernel
theorem dJx4a65c_iterator_32c93_8 : decode cJx4a65c_iterator_32c93 8 = .ok (.areturn, 1) := by decide +kernel
theorem dJx35411_hasNext_aae02_0 : decode cJx35411_hasNext_aae02 0 = .ok (.aload_n 0, 1) := by decide +kernel
theorem dJx35411_hasNext_aae02_1 : decode cJx35411_hasNext_aae02 1 = .ok (.getfield 25, 3) := by decide +kernel
theorem dJx35411_hasNext_aae02_4 : decode cJx35411_hasNext_aae02 4 = .ok (.aload_n 0, 1) := by decide +kernel
theorem dJx35411_hasNext_aae02_5 : decode cJx35411_hasNext_aae02 5 = .ok (.getfield 1, 3) := by decide +kernel
theorem dJx35411_hasNext_aae02_8 : decode cJx35411_hasNext_aae02 8 = .ok (.getfield 28, 3) := by decide +kernel
theorem dJx35411_hasNext_aae02_11 : decode cJx35411_hasNext_aae02 11 = .ok (.if_icmp .eq 7, 3) := by decide +kernel
theorem dJx35411_hasNext_aae02_14 : decode cJx35411_hasNext_aae02 14 = .ok (.iconst 1, 1) := by decide +kernel
theorem dJx35411_hasNext_aae02_15 : decode cJx35411_hasNext_aae02 15 = .ok (.goto 4, 3) := by decide +kernel
theorem dJx35411_hasNext_aae02_18 : decode cJx35411_hasNext_aae02 18 = .ok (.iconst 0, 1) := by decide +kernel
theorem dJx35411_hasNext_aae02_19 : decode cJx35411_hasNext_aae02 19 = .ok (.ireturn, 1) := by decide +kernel
theorem dJx35411_checkForComodification_da8c8_0 : decode cJx35411_checkForComodification_da8c8 0 = .ok (.aload_n 0, 1) := by decide +kernel
theorem dJx35411_checkForComodification_da8c8_1 : decode cJx35411_checkForComodification_da8c8 1 = .ok (.getfield 1, 3) := by decide +kernel
theorem dJx35411_checkForComodification_da8c8_4 : decode cJx35411_checkForComodification_da8c8 4 = .ok (.getfield 17, 3) := by decide +kernel
theorem dJx35411_checkForComodification_da8c8_7 : decode cJx35411_checkForComodification_da8c8 7 = .ok (.aload_n 0, 1) := by decide +kernel
theorem dJx35411_checkForComodification_da8c8_8 : decode cJx35411_checkForComodification_da8c8 8 = .ok (.getfield 22, 3) := by decide +kernel
theorem dJx35411_checkForComodification_da8c8_11 : decode cJx35411_checkForComodification_da8c8 11 = .ok (.if_icmp .eq 11, 3) := by decide +kernel
theorem dJx35411_checkForComodification_da8c8_22 : decode cJx35411_checkForComodification_da8c8 22 = .ok (.return_, 1) := by decide +kernel
theorem dJx35411_next_0502b_0 : decode cJx35411_next_0502b 0 = .ok (.aload_n 0, 1) := by decide +kernel
theorem dJx35411_next_0502b_1 : decode cJx35411_next_0502b 1 = .ok (.invokevirtual 31, 3) := by decide +kernel
theorem dJx35411_next_0502b_4 : decode cJx35411_next_0502b 4 = .ok (.aload_n 0, 1) := by decide +kernel
theorem dJx35411_next_0502b_5 : decode cJx35411_next_0502b 5 = .ok (.getfield 25, 3) := by decide +kernel
theorem dJx35411_next_0502b_8 : decode cJx35411_next_0502b 8 = .ok (.istore_n 1, 1) := by decide +kernel
theorem dJx35411_next_0502b_9 : decode cJx35411_next_0502b 9 = .ok (.iload_n 1, 1) := by decide +kernel
theorem dJx35411_next_0502b_10 : decode cJx35411_next_0502b 10 = .ok (.aload_n 0, 1) := by decide +kernel
theorem dJx35411_next_0502b_11 : decode cJx35411_next_0502b 11 = .ok (.getfield 1, 3) := by decide +kernel
theorem dJx35411_next_0502b_14 : decode cJx35411_next_0502b 14 = .ok (.getfield 28, 3) := by decide +kernel
theorem dJx35411_next_0502b_17 : decode cJx35411_next_0502b 17 = .ok (.if_icmp .lt 11, 3) := by decide +kernel
theorem dJx35411_next_0502b_28 : decode cJx35411_next_0502b 28 = .ok (.aload_n 0, 1) := by decide +kernel
theorem dJx35411_next_0502b_29 : decode cJx35411_next_0502b 29 = .ok (.getfield 1, 3) := by decide +kernel
theorem dJx35411_next_0502b_32 : decode cJx35411_next_0502b 32 = .ok (.getfield 37, 3) := by decide +kernel
theorem dJx35411_next_0502b_35 : decode cJx35411_next_0502b 35 = .ok (.astore_n 2, 1) := by decide +kernel
theorem dJx35411_next_0502b_36 : decode cJx35411_next_0502b 36 = .ok (.iload_n 1, 1) := by decide +kernel
theorem dJx35411_next_0502b_37 : decode cJx35411_next_0502b 37 = .ok (.aload_n 2, 1) := by decide +kernel
theorem dJx35411_next_0502b_38 : decode cJx35411_next_0502b 38 = .ok (.arraylength, 1) := by decide +kernel
theorem dJx35411_next_0502b_39 : decode cJx35411_next_0502b 39 = .ok (.if_icmp .lt 11, 3) := by decide +kernel
theorem dJx35411_next_0502b_50 : decode cJx35411_next_0502b 50 = .ok (.aload_n 0, 1) := by decide +kernel
theorem dJx35411_next_0502b_51 : decode cJx35411_next_0502b 51 = .ok (.iload_n 1, 1) := by decide +kernel
theorem dJx35411_next_0502b_52 : decode cJx35411_next_0502b 52 = .ok (.iconst 1, 1) := by decide +kernel
theorem dJx35411_next_0502b_53 : decode cJx35411_next_0502b 53 = .ok (.iadd, 1) := by decide +kernel
theorem dJx35411_next_0502b_54 : decode cJx35411_next_0502b 54 = .ok (.putfield 25, 3) := by decide +kernel
theorem dJx35411_next_0502b_57 : decode cJx35411_next_0502b 57 = .ok (.aload_n 2, 1) := by decide +kernel
theorem dJx35411_next_0502b_58 : decode cJx35411_next_0502b 58 = .ok (.aload_n 0, 1) := by decide +kernel
theorem dJx35411_next_0502b_59 : decode cJx35411_next_0502b 59 = .ok (.iload_n 1, 1) := by decide +kernel
theorem dJx35411_next_0502b_60 : decode cJx35411_next_0502b 60 = .ok (.dup_x1, 1) := by decide +kernel
theorem dJx35411_next_0502b_61 : decode cJx35411_next_0502b 61 = .ok (.putfield 13, 3) := by decide +kernel
theorem dJx35411_next_0502b_64 : decode cJx35411_next_0502b 64 = .ok (.aaload, 1) := by decide +kernel
theorem dJx35411_next_0502b_65 : decode cJx35411_next_0502b 65 = .ok (.areturn, 1) := by decide +kernel
theorem dX12_isEmpty_0 : decode cX12_isEmpty 0 = .ok (.aload_n 0, 1) := by decide +kernel
theorem dX12_isEmpty_1 : decode cX12_isEmpty 1 = .ok (.getfield 24, 3) := by decide +kernel
theorem dX12_isEmpty_4 : decode cX12_isEmpty 4 = .ok (.aload_n 0, 1) := by decide +kernel
theorem dX12_isEmpty_5 : decode cX12_isEmpty 5 = .ok (.getfield 20, 3) := by decide +kernel
theorem dX12_isEmpty_8 : decode cX12_isEmpty 8 = .ok (.if_icmp .ne 7, 3) := by decide +kernel
theorem dX12_isEmpty_11 : decode cX12_isEmpty 11 = .ok (.iconst 1, 1) := by decide +kernel
theorem dX12_isEmpty_12 : decode cX12_isEmpty 12 = .ok (.goto 4, 3) := by decide +kernel
theorem dX12_isEmpty_16 : decode cX12_isEmpty 16 = .ok (.ireturn, 1) := by decide +kernel
theorem dX11_die_0 : decode cX11_die 0 = .ok (.aload_n 0, 1) := by decide +kernel
theorem dX11_die_1 : decode cX11_die 1 = .ok (.getfield 26, 3) := by decide +kernel
theorem dX11_die_4 : decode cX11_die 4 = .ok (.invokevirtual 228, 3) := by decide +kernel
theorem dX11_die_7 : decode cX11_die 7 = .ok (.ifCond .eq 8, 3) := by decide +kernel
theorem dX11_die_10 : decode cX11_die 10 = .ok (.bipush 10, 2) := by decide +kernel
theorem dX11_die_12 : decode cX11_die 12 = .ok (.goto 16, 3) := by decide +kernel
theorem dX11_die_28 : decode cX11_die 28 = .ok (.ireturn, 1) := by decide +kernel
theorem dX11_number_0 : decode cX11_number 0 = .ok (.aload_n 1, 1) := by decide +kernel
theorem dX11_number_1 : decode cX11_number 1 = .ok (.getfield 129, 3) := by decide +kernel
theorem dX11_number_4 : decode cX11_number 4 = .ok (.ldc 123, 2) := by decide +kernel
theorem dX11_number_6 : decode cX11_number 6 = .ok (.iload_n 2, 1) := by decide +kernel
theorem dX11_number_7 : decode cX11_number 7 = .ok (.invokevirtual 113, 3) := by decide +kernel
theorem dX11_number_10 : decode cX11_number 10 = .ok (.iaload, 1) := by decide +kernel
theorem dX11_number_11 : decode cX11_number 11 = .ok (.istore_n 3, 1) := by decide +kernel
theorem dX11_number_12 : decode cX11_number 12 = .ok (.iconst 0, 1) := by decide +kernel
theorem dX11_number_13 : decode cX11_number 13 = .ok (.istore 4, 2) := by decide +kernel
theorem dX11_number_15 : decode cX11_number 15 = .ok (.iconst 3, 1) := by decide +kernel
theorem dX11_number_16 : decode cX11_number 16 = .ok (.newarray .int, 2) := by decide +kernel
theorem dX11_number_18 : decode cX11_number 18 = .ok (.astore 5, 2) := by decide +kernel
theorem dX11_number_20 : decode cX11_number 20 = .ok (.aload_n 0, 1) := by decide +kernel
theorem dX11_number_21 : decode cX11_number 21 = .ok (.getfield 20, 3) := by decide +kernel
theorem dX11_number_24 : decode cX11_number 24 = .ok (.invokeinterface 70 1, 5) := by decide +kernel
theorem dX11_number_29 : decode cX11_number 29 = .ok (.astore 6, 2) := by decide +kernel
theorem dX11_number_31 : decode cX11_number 31 = .ok (.aload 6, 2) := by decide +kernel
theorem dX11_number_33 : decode cX11_number 33 = .ok (.invokeinterface 74 1, 5) := by decide +kernel
theorem dX11_number_38 : decode cX11_number 38 = .ok (.ifCond .eq 155, 3) := by decide +kernel
theorem dX11_number_41 : decode cX11_number 41 = .ok (.aload 6, 2) := by decide +kernel
theorem dX11_number_43 : decode cX11_number 43 = .ok (.invokeinterface 80 1, 5) := by decide +kernel
theorem dX11_number_48 : decode cX11_number 48 = .ok (.checkcast 150, 3) := by decide +kernel
theorem dX11_number_51 : decode cX11_number 51 = .ok (.astore 7, 2) := by decide +kernel
theorem dX11_number_53 : decode cX11_number 53 = .ok (.aload 7, 2) := by decide +kernel
theorem dX11_number_55 : decode cX11_number 55 = .ok (.getfield 152, 3) := by decide +kernel
theorem dX11_number_58 : decode cX11_number 58 = .ok (.ifCond .eq 132, 3) := by decide +kernel
theorem dX11_number_61 : decode cX11_number 61 = .ok (.aload 7, 2) := by decide +kernel
theorem dX11_number_63 : decode cX11_number 63 = .ok (.getfield 159, 3) := by decide +kernel
theorem dX11_number_66 : decode cX11_number 66 = .ok (.aload_n 1, 1) := by decide +kernel
theorem dX11_number_67 : decode cX11_number 67 = .ok (.getfield 202, 3) := by decide +kernel
theorem dX11_number_70 : decode cX11_number 70 = .ok (.if_icmp .ne 120, 3) := by decide +kernel
theorem dX11_number_73 : decode cX11_number 73 = .ok (.aload 7, 2) := by decide +kernel
theorem dX11_number_75 : decode cX11_number 75 = .ok (.getfield 205, 3) := by decide +kernel
theorem dX11_number_78 : decode cX11_number 78 = .ok (.iload_n 2, 1) := by decide +kernel
theorem dX11_number_79 : decode cX11_number 79 = .ok (.if_icmp .ne 111, 3) := by decide +kernel
theorem dX11_number_190 : decode cX11_number 190 = .ok (.goto (-159), 3) := by decide +kernel
theorem dX11_number_193 : decode cX11_number 193 = .ok (.iload_n 3, 1) := by decide +kernel
theorem dX11_number_194 : decode cX11_number 194 = .ok (.iload 4, 2) := by decide +kernel
theorem dX11_number_196 : decode cX11_number 196 = .ok (.iadd, 1) := by decide +kernel
theorem dX11_number_197 : decode cX11_number 197 = .ok (.aload 5, 2) := by decide +kernel
theorem dX11_number_199 : decode cX11_number 199 = .ok (.iconst 0, 1) := by decide +kernel
theorem dX11_number_200 : decode cX11_number 200 = .ok (.iaload, 1) := by decide +kernel
theorem dX11_number_201 : decode cX11_number 201 = .ok (.iadd, 1) := by decide +kernel
theorem dX11_number_202 : decode cX11_number 202 = .ok (.aload 5, 2) := by decide +kernel
theorem dX11_number_204 : decode cX11_number 204 = .ok (.iconst 1, 1) := by decide +kernel
theorem dX11_number_205 : decode cX11_number 205 = .ok (.iaload, 1) := by decide +kernel
theorem dX11_number_206 : decode cX11_number 206 = .ok (.iadd, 1) := by decide +kernel
theorem dX11_number_207 : decode cX11_number 207 = .ok (.aload 5, 2) := by decide +kernel
theorem dX11_number_209 : decode cX11_number 209 = .ok (.iconst 2, 1) := by decide +kernel
theorem dX11_number_210 : decode cX11_number 210 = .ok (.iaload, 1) := by decide +kernel
theorem dX11_number_211 : decode cX11_number 211 = .ok (.iadd, 1) := by decide +kernel
theorem dX11_number_212 : decode cX11_number 212 = .ok (.ireturn, 1) := by decide +kernel
theorem dX11_check_0 : decode cX11_check 0 = .ok (.aload_n 0, 1) := by decide +kernel
theorem dX11_check_1 : decode cX11_check 1 = .ok (.invokevirtual 239, 3) := by decide +kernel
theorem dX11_check_4 : decode cX11_check 4 = .ok (.aload_n 0, 1) := by decide +kernel
theorem dX11_check_5 : decode cX11_check 5 = .ok (.aload_n 1, 1) := by decide +kernel
theorem dX11_check_6 : decode cX11_check 6 = .ok (.bipush 119, 2) := by decide +kernel
theorem dX11_check_8 : decode cX11_check 8 = .ok (.invokevirtual 217, 3) := by decide +kernel
theorem dX11_check_11 : decode cX11_check 11 = .ok (.iadd, 1) := by decide +kernel
theorem dX11_check_12 : decode cX11_check 12 = .ok (.ireturn, 1) := by decide +kernel
set_option maxHeartbeats 4000000 in
set_option maxRecDepth 100000 in
theorem c_isLatin1 (l : Launch) (hfl : l.stackTraces = false) (g : GP)   : CI l yJ0_isLatin1_aae02 (wG yJ0_isLatin1_aae02 cJ0_isLatin1_aae02 1 (Option.some Jvm.ClassFile.FieldType.boolean)) (LV 1 0 0) g [.ref (g.2.2 13)] ([]) (fun (r : Int32) (u : va_W) => r = 1 ∧ u = []) := by
  intro sz
  refine Met.ofW (cc := cJ0_isLatin1_aae02) (maxL := 1) (ret := (Option.some Jvm.ClassFile.FieldType.boolean)) (by decide) rfl ?_
  intro p e s m args below meth c s₁ B hml hv
  obtain ⟨rfl, hsz, hP, hK, hD0, hT0⟩ := hv
  have hx := B.exec
  have hb := B.bytes
  have hr := B.returns
  have hts := atoms_spec (ws := (wG yJ0_isLatin1_aae02 cJ0_isLatin1_aae02 1 (Option.some Jvm.ClassFile.FieldType.boolean))) B.pre
  have htg : ∀ w ∈ G9, w.before _ s = true := fun w h => hts w (List.mem_cons_of_mem _ h)
  have hown : s.vm.findClass "java/lang/String" = some m.cls := findClass_of_methodNamed B.named
  have hlocks := B.notSynchronized
  subst hsz
  have hD := hD0.self (sz := s.heap.size)
  have hT := hT0
  clear hT0
  generalize hAe : va_A [] s.heap.size = A at hD hT ⊢
  have hA : ∀ q : Nat, s.heap.size ≤ q → A q := fun q h => by rw [← hAe]; exact Or.inr h
  obtain ⟨H, hH0⟩ : ∃ H, H = s.heap := ⟨_, rfl⟩
  have hS : va_S A s.heap H [] := by rw [hH0]; exact va_S.rf
  have hP : va_P g.1 CLS [] H := by rw [hH0]; exact hP
  rw [← hH0]
  have hl := lv_entry ([.ref (g.2.2 13)]) (n := 1) (Nat.le_of_ble_eq_true rfl)
  rw [lg_entry_eq]
  generalize (lg_sl ([.ref (g.2.2 13)]) ++ List.replicate (1 - (lg_sl ([.ref (g.2.2 13)])).length) Slot.unset).toArray = ls at hl ⊢
  have hl : lv_has ls 1 [(0, .ref (g.2.2 13))] := hl
  refine va_gets hx hb (hT.2.2.1.1) hS hown (htg _ k437) (fun _ h9 => h9) dJ0_isLatin1_aae02_0 ?_
  refine lv_if_eq (tgt := 17) hx hb dJ0_isLatin1_aae02_3 (by decide) (fun c_1 => absurd c_1 (by decide)) (fun c_1 => ?_)
  refine lv_aload_n hx hb dJ0_isLatin1_aae02_6 rfl (lv_at hl 0 rfl) ?_
  refine vk_getf (v := .int 0) hx hb (hT.2.2.1.2.2.1) hS hown (htg _ k2090) (fun _ h9 => h9) dJ0_isLatin1_aae02_7 ?_
  refine lv_if_ne (tgt := 17) hx hb dJ0_isLatin1_aae02_10 (by decide) (fun c_2 => absurd (by decide) c_2) (fun c_2 => ?_)
  refine lv_iconst (v := 1) hx hb dJ0_isLatin1_aae02_13 (by decide) ?_
  refine lv_goto (tgt := 18) hx hb dJ0_isLatin1_aae02_14 (by decide) ?_
  have hP9 := hP.sub (ws' := []) [] rfl
  have hD9 := hD.sub (ws' := []) [] (by decide) rfl
  refine W.widen (k := 0) (n := 0) (Nat.le_of_ble_eq_true rfl) (Nat.le_of_ble_eq_true rfl) ?_
  exact W.zret (v := 1) hx hb hr rfl (fun t ht hW => ⟨⟨1, [], rfl, ⟨rfl, rfl⟩, by rw [ht]; exact hP9, va_K.moved hW.alike hK, hD9⟩, hS.F ht⟩) hS.2.2 dJ0_isLatin1_aae02_18

set_option maxHeartbeats 4000000 in
set_option maxRecDepth 100000 in
theorem c_coder (l : Launch) (hfl : l.stackTraces = false) (g : GP)   : CI l yJ0_coder_7d493 (wG yJ0_coder_7d493 cJ0_coder_7d493 1 (Option.some Jvm.ClassFile.FieldType.byte)) (LV 1 0 0) g [.ref (g.2.2 13)] ([]) (fun (r : Int32) (u : va_W) => r = 0 ∧ u = []) := by
  intro sz
  refine Met.ofW (cc := cJ0_coder_7d493) (maxL := 1) (ret := (Option.some Jvm.ClassFile.FieldType.byte)) (by decide) rfl ?_
  intro p e s m args below meth c s₁ B hml hv
  obtain ⟨rfl, hsz, hP, hK, hD0, hT0⟩ := hv
  have hx := B.exec
  have hb := B.bytes
  have hr := B.returns
  have hts := atoms_spec (ws := (wG yJ0_coder_7d493 cJ0_coder_7d493 1 (Option.some Jvm.ClassFile.FieldType.byte))) B.pre
  have htg : ∀ w ∈ G9, w.before _ s = true := fun w h => hts w (List.mem_cons_of_mem _ h)
  have hown : s.vm.findClass "java/lang/String" = some m.cls := findClass_of_methodNamed B.named
  have hlocks := B.notSynchronized
  subst hsz
  have hD := hD0.self (sz := s.heap.size)
  have hT := hT0
  clear hT0
  generalize hAe : va_A [] s.heap.size = A at hD hT ⊢
  have hA : ∀ q : Nat, s.heap.size ≤ q → A q := fun q h => by rw [← hAe]; exact Or.inr h
  obtain ⟨H, hH0⟩ : ∃ H, H = s.heap := ⟨_, rfl⟩
  have hS : va_S A s.heap H [] := by rw [hH0]; exact va_S.rf
  have hP : va_P g.1 CLS [] H := by rw [hH0]; exact hP
  rw [← hH0]
  have hl := lv_entry ([.ref (g.2.2 13)]) (n := 1) (Nat.le_of_ble_eq_true rfl)
  rw [lg_entry_eq]
  generalize (lg_sl ([.ref (g.2.2 13)]) ++ List.replicate (1 - (lg_sl ([.ref (g.2.2 13)])).length) Slot.unset).toArray = ls at hl ⊢
  have hl : lv_has ls 1 [(0, .ref (g.2.2 13))] := hl
  refine va_gets hx hb (hT.2.2.1.1) hS hown (htg _ k437) (fun _ h9 => h9) dJ0_coder_7d493_0 ?_
  refine lv_if_eq (tgt := 13) hx hb dJ0_coder_7d493_3 (by decide) (fun c_1 => absurd c_1 (by decide)) (fun c_1 => ?_)
  refine lv_aload_n hx hb dJ0_coder_7d493_6 rfl (lv_at hl 0 rfl) ?_
  refine vk_getf (v := .int 0) hx hb (hT.2.2.1.2.2.1) hS hown (htg _ k2090) (fun _ h9 => h9) dJ0_coder_7d493_7 ?_
  refine lv_goto (tgt := 14) hx hb dJ0_coder_7d493_10 (by decide) ?_
  have hP9 := hP.sub (ws' := []) [] rfl
  have hD9 := hD.sub (ws' := []) [] (by decide) rfl
  refine W.widen (k := 0) (n := 0) (Nat.le_of_ble_eq_true rfl) (Nat.le_of_ble_eq_true rfl) ?_
  exact W.zret (v := 0) hx hb hr rfl (fun t ht hW => ⟨⟨0, [], rfl, ⟨rfl, rfl⟩, by rw [ht]; exact hP9, va_K.moved hW.alike hK, hD9⟩, hS.F ht⟩) hS.2.2 dJ0_coder_7d493_14

set_option maxHeartbeats 4000000 in
set_option maxRecDepth 100000 in
theorem c_length (l : Launch) (hfl : l.stackTraces = false) (g : GP)   : CI l yJ0_length_8abf5 (wG yJ0_length_8abf5 cJ0_length_8abf5 1 (Option.some Jvm.ClassFile.FieldType.int)) (LV 2 0 0) g [.ref (g.2.2 13)] ([]) (fun (r : Int32) (u : va_W) => r = 5 ∧ u = []) := by
  intro sz
  refine Met.ofW (cc := cJ0_length_8abf5) (maxL := 1) (ret := (Option.some Jvm.ClassFile.FieldType.int)) (by decide) rfl ?_
  intro p e s m args below meth c s₁ B hml hv
  obtain ⟨rfl, hsz, hP, hK, hD0, hT0⟩ := hv
  have hx := B.exec
  have hb := B.bytes
  have hr := B.returns
  have hts := atoms_spec (ws := (wG yJ0_length_8abf5 cJ0_length_8abf5 1 (Option.some Jvm.ClassFile.FieldType.int))) B.pre
  have htg : ∀ w ∈ G9, w.before _ s = true := fun w h => hts w (List.mem_cons_of_mem _ h)
  have hown : s.vm.findClass "java/lang/String" = some m.cls := findClass_of_methodNamed B.named
  have hlocks := B.notSynchronized
  subst hsz
  have hD := hD0.self (sz := s.heap.size)
  have hT := hT0
  clear hT0
  generalize hAe : va_A [] s.heap.size = A at hD hT ⊢
  have hA : ∀ q : Nat, s.heap.size ≤ q → A q := fun q h => by rw [← hAe]; exact Or.inr h
  obtain ⟨H, hH0⟩ : ∃ H, H = s.heap := ⟨_, rfl⟩
  have hS : va_S A s.heap H [] := by rw [hH0]; exact va_S.rf
  have hP : va_P g.1 CLS [] H := by rw [hH0]; exact hP
  rw [← hH0]
  have hl := lv_entry ([.ref (g.2.2 13)]) (n := 1) (Nat.le_of_ble_eq_true rfl)
  rw [lg_entry_eq]
  generalize (lg_sl ([.ref (g.2.2 13)]) ++ List.replicate (1 - (lg_sl ([.ref (g.2.2 13)])).length) Slot.unset).toArray = ls at hl ⊢
  have hl : lv_has ls 1 [(0, .ref (g.2.2 13))] := hl
  refine lv_aload_n hx hb dJ0_length_8abf5_0 rfl (lv_at hl 0 rfl) ?_
  refine vk_getf (v := .ref (g.2.2 23)) hx hb (hT.2.2.1.2.2.2.1) hS hown (htg _ k2089) (fun _ h9 => h9) dJ0_length_8abf5_1 ?_
  refine va_tlen (v := 5) hx hb (hT.2.2.1.2.2.2.2) hS rfl dJ0_length_8abf5_4 ?_
  refine lv_aload_n hx hb dJ0_length_8abf5_5 rfl (lv_at hl 0 rfl) ?_
  have hPc := hP.sub (ws' := []) [] rfl
  have hDc := hD.sub (ws' := []) [] (by decide) rfl
  have hFc := va_free (wc := []) hD hS hA [] rfl
  refine q_ci (wr := []) (va_runV (As := []) (rest := [.int 5]) ⟨hx, hb, hml, hown, htg⟩ (c_coder l hfl g   H.size) ⟨(qB htg k446 k77 k443 ok_J0_coder_7d493 rfl rfl ⟨Nat.le_of_ble_eq_true rfl, Nat.le_of_ble_eq_true rfl⟩), htg _ k444, htg _ k445⟩ ⟨(q_pre [.ref (g.2.2 13)] hPc hDc hK hS hT hFc).1, va_Orecv (hT.2.2.1.2.1) hS, (q_pre [.ref (g.2.2 13)] hPc hDc hK hS hT hFc).2⟩ rfl rfl hl.1 rfl (lv_room (Nat.le_of_ble_eq_true rfl)) dJ0_length_8abf5_6 ⟨Nat.le_of_ble_eq_true rfl, Nat.le_of_ble_eq_true rfl⟩) hP hD hS hFc [] [] rfl rfl (by decide) (by decide) (fun r9 u9 H locs hw hP hD hS => ?_)
  try dsimp only at hw
  rcases hw with ⟨rfl, rfl⟩
  have hP : va_P g.1 CLS [] H := hP
  have hD : va_D A [] := hD
  refine W.widen (k := 0) (n := 0) (Nat.le_of_ble_eq_true rfl) (Nat.le_of_ble_eq_true rfl) ?_
  refine lv_ishr hx hb dJ0_length_8abf5_9 ?_
  refine lv_topi (fun x_1 ex_1 => ?_)
  obtain rfl : x_1 = 5 := ex_1.trans (by decide)
  have hP9 := hP.sub (ws' := []) [] rfl
  have hD9 := hD.sub (ws' := []) [] (by decide) rfl
  refine W.widen (k := 0) (n := 0) (Nat.le_of_ble_eq_true rfl) (Nat.le_of_ble_eq_true rfl) ?_
  exact W.iret (v := 5) hx hb hr (fun t ht hW => ⟨⟨5, [], rfl, ⟨rfl, rfl⟩, by rw [ht]; exact hP9, va_K.moved hW.alike hK, hD9⟩, hS.F ht⟩) hS.2.2 dJ0_length_8abf5_10

set_option maxHeartbeats 4000000 in
set_option maxRecDepth 100000 in
theorem c_canEnc_w (l : Launch) (hfl : l.stackTraces = false) (g : GP)   : CI l yJ1_canEncode_9a6ad (wG yJ1_canEncode_9a6ad cJ1_canEncode_9a6ad 1 (Option.some Jvm.ClassFile.FieldType.boolean)) (LV 1 0 0) g [.int 119] ([]) (fun (r : Int32) (u : va_W) => r = 1 ∧ u = []) := by
  intro sz
  refine Met.ofW (cc := cJ1_canEncode_9a6ad) (maxL := 1) (ret := (Option.some Jvm.ClassFile.FieldType.boolean)) (by decide) rfl ?_
  intro p e s m args below meth c s₁ B hml hv
  obtain ⟨rfl, hsz, hP, hK, hD0, hT0⟩ := hv
  have hx := B.exec
  have hb := B.bytes
  have hr := B.returns
  have hts := atoms_spec (ws := (wG yJ1_canEncode_9a6ad cJ1_canEncode_9a6ad 1 (Option.some Jvm.ClassFile.FieldType.boolean))) B.pre
  have htg : ∀ w ∈ G9, w.before _ s = true := fun w h => hts w (List.mem_cons_of_mem _ h)
  have hown : s.vm.findClass "java/lang/StringLatin1" = some m.cls := findClass_of_methodNamed B.named
  have hlocks := B.notSynchronized
  subst hsz
  have hD := hD0.self (sz := s.heap.size)
  have hT := hT0
  clear hT0
  generalize hAe : va_A [] s.heap.size = A at hD hT ⊢
  have hA : ∀ q : Nat, s.heap.size ≤ q → A q := fun q h => by rw [← hAe]; exact Or.inr h
  obtain ⟨H, hH0⟩ : ∃ H, H = s.heap := ⟨_, rfl⟩
  have hS : va_S A s.heap H [] := by rw [hH0]; exact va_S.rf
  have hP : va_P g.1 CLS [] H := by rw [hH0]; exact hP
  rw [← hH0]
  have hl := lv_entry ([.int 119]) (n := 1) (Nat.le_of_ble_eq_true rfl)
  rw [lg_entry_eq]
  generalize (lg_sl ([.int 119]) ++ List.replicate (1 - (lg_sl ([.int 119])).length) Slot.unset).toArray = ls at hl ⊢
  have hl : lv_has ls 1 [(0, .int 119)] := hl
  refine lv_iload_n hx hb dJ1_canEncode_9a6ad_0 rfl (lv_at hl 0 rfl) ?_
  refine lv_if_lt (tgt := 15) hx hb dJ1_canEncode_9a6ad_1 (by decide) (fun c_1 => absurd c_1 (by decide)) (fun c_1 => ?_)
  refine lv_iload_n hx hb dJ1_canEncode_9a6ad_4 rfl (lv_at hl 0 rfl) ?_
  refine lv_sipush (v := 255) hx hb dJ1_canEncode_9a6ad_5 (by decide) ?_
  refine lv_icmp_gt (tgt := 15) hx hb dJ1_canEncode_9a6ad_8 (by decide) (fun c_2 => absurd c_2 (by decide)) (fun c_2 => ?_)
  refine lv_iconst (v := 1) hx hb dJ1_canEncode_9a6ad_11 (by decide) ?_
  refine lv_goto (tgt := 16) hx hb dJ1_canEncode_9a6ad_12 (by decide) ?_
  have hP9 := hP.sub (ws' := []) [] rfl
  have hD9 := hD.sub (ws' := []) [] (by decide) rfl
  refine W.widen (k := 0) (n := 0) (Nat.le_of_ble_eq_true rfl) (Nat.le_of_ble_eq_true rfl) ?_
  exact W.zret (v := 1) hx hb hr rfl (fun t ht hW => ⟨⟨1, [], rfl, ⟨rfl, rfl⟩, by rw [ht]; exact hP9, va_K.moved hW.alike hK, hD9⟩, hS.F ht⟩) hS.2.2 dJ1_canEncode_9a6ad_16

set_option maxHeartbeats 4000000 in
set_option maxRecDepth 100000 in
theorem c_idxChar_w (l : Launch) (hfl : l.stackTraces = false) (g : GP)   : CI l yJ1_indexOfChar_4cfef (wG yJ1_indexOfChar_4cfef cJ1_indexOfChar_4cfef 6 (Option.some Jvm.ClassFile.FieldType.int)) (LV 1 0 0) g [.ref (g.2.2 23), .int 119, .int 0, .int 5] ([]) (fun (r : Int32) (u : va_W) => r = 4 ∧ u = []) := by
  intro sz
  refine Met.ofW (cc := cJ1_indexOfChar_4cfef) (maxL := 6) (ret := (Option.some Jvm.ClassFile.FieldType.int)) (by decide) rfl ?_
  intro p e s m args below meth c s₁ B hml hv
  obtain ⟨rfl, hsz, hP, hK, hD0, hT0⟩ := hv
  have hx := B.exec
  have hb := B.bytes
  have hr := B.returns
  have hts := atoms_spec (ws := (wG yJ1_indexOfChar_4cfef cJ1_indexOfChar_4cfef 6 (Option.some Jvm.ClassFile.FieldType.int))) B.pre
  have htg : ∀ w ∈ G9, w.before _ s = true := fun w h => hts w (List.mem_cons_of_mem _ h)
  have hown : s.vm.findClass "java/lang/StringLatin1" = some m.cls := findClass_of_methodNamed B.named
  have hlocks := B.notSynchronized
  subst hsz
  have hD := hD0.self (sz := s.heap.size)
  have hT := hT0
  clear hT0
  generalize hAe : va_A [] s.heap.size = A at hD hT ⊢
  have hA : ∀ q : Nat, s.heap.size ≤ q → A q := fun q h => by rw [← hAe]; exact Or.inr h
  obtain ⟨H, hH0⟩ : ∃ H, H = s.heap := ⟨_, rfl⟩
  have hS : va_S A s.heap H [] := by rw [hH0]; exact va_S.rf
  have hP : va_P g.1 CLS [] H := by rw [hH0]; exact hP
  rw [← hH0]
  have hl := lv_entry ([.ref (g.2.2 23), .int 119, .int 0, .int 5]) (n := 6) (Nat.le_of_ble_eq_true rfl)
  rw [lg_entry_eq]
  generalize (lg_sl ([.ref (g.2.2 23), .int 119, .int 0, .int 5]) ++ List.replicate (6 - (lg_sl ([.ref (g.2.2 23), .int 119, .int 0, .int 5])).length) Slot.unset).toArray = ls at hl ⊢
  have hl : lv_has ls 6 [(0, .ref (g.2.2 23)), (1, .int 119), (2, .int 0), (3, .int 5)] := hl
  refine lv_iload_n hx hb dJ1_indexOfChar_4cfef_0 rfl (lv_at hl 1 rfl) ?_
  refine lv_i2b (v := 119) hx hb dJ1_indexOfChar_4cfef_1 (by decide) ?_
  refine lv_istore (lv' := [(4, .int 119), (0, .ref (g.2.2 23)), (1, .int 119), (2, .int 0), (3, .int 5)]) hx hb dJ1_indexOfChar_4cfef_2 hl (by decide) rfl (fun ls hl => ?_)
  refine lv_iload_n hx hb dJ1_indexOfChar_4cfef_4 rfl (lv_at hl 3 rfl) ?_
  refine lv_istore (lv' := [(5, .int 0), (4, .int 119), (0, .ref (g.2.2 23)), (1, .int 119), (2, .int 0), (3, .int 5)]) hx hb dJ1_indexOfChar_4cfef_5 hl (by decide) rfl (fun ls hl => ?_)
  refine lv_iload hx hb dJ1_indexOfChar_4cfef_7 (lv_at hl 0 rfl) ?_
  refine lv_iload_n hx hb dJ1_indexOfChar_4cfef_9 rfl (lv_at hl 5 rfl) ?_
  refine lv_icmp_ge (tgt := 31) hx hb dJ1_indexOfChar_4cfef_10 (by decide) (fun c_1 => absurd c_1 (by decide)) (fun c_1 => ?_)
  refine lv_aload_n hx hb dJ1_indexOfChar_4cfef_13 rfl (lv_at hl 2 rfl) ?_
  refine lv_iload hx hb dJ1_indexOfChar_4cfef_14 (lv_at hl 0 rfl) ?_
  refine va_tb hx hb (hT.2.2.1.2.2.2.2) hS (i := 0) (vp_in_iff.mpr (by decide)) (v := .int 97) rfl dJ1_indexOfChar_4cfef_16 ?_
  refine lv_iload hx hb dJ1_indexOfChar_4cfef_17 (lv_at hl 1 rfl) ?_
  refine lv_icmp_ne (tgt := 25) hx hb dJ1_indexOfChar_4cfef_19 (by decide) (fun c_2 => ?_) (fun c_2 => absurd c_2 (by decide))
  refine lv_iinc (v := 1) (lv' := [(5, .int 1), (4, .int 119), (0, .ref (g.2.2 23)), (1, .int 119), (2, .int 0), (3, .int 5)]) hx hb dJ1_indexOfChar_4cfef_25 hl (k := 0) rfl (by decide) (by decide) rfl (fun ls hl => ?_)
  refine lv_goto (tgt := 7) hx hb dJ1_indexOfChar_4cfef_28 (by decide) ?_
  refine lv_iload hx hb dJ1_indexOfChar_4cfef_7 (lv_at hl 0 rfl) ?_
  refine lv_iload_n hx hb dJ1_indexOfChar_4cfef_9 rfl (lv_at hl 5 rfl) ?_
  refine lv_icmp_ge (tgt := 31) hx hb dJ1_indexOfChar_4cfef_10 (by decide) (fun c_3 => absurd c_3 (by decide)) (fun c_3 => ?_)
  refine lv_aload_n hx hb dJ1_indexOfChar_4cfef_13 rfl (lv_at hl 2 rfl) ?_
  refine lv_iload hx hb dJ1_indexOfChar_4cfef_14 (lv_at hl 0 rfl) ?_
  refine va_tb hx hb (hT.2.2.1.2.2.2.2) hS (i := 1) (vp_in_iff.mpr (by decide)) (v := .int 116) rfl dJ1_indexOfChar_4cfef_16 ?_
  refine lv_iload hx hb dJ1_indexOfChar_4cfef_17 (lv_at hl 1 rfl) ?_
  refine lv_icmp_ne (tgt := 25) hx hb dJ1_indexOfChar_4cfef_19 (by decide) (fun c_4 => ?_) (fun c_4 => absurd c_4 (by decide))
  refine lv_iinc (v := 2) (lv' := [(5, .int 2), (4, .int 119), (0, .ref (g.2.2 23)), (1, .int 119), (2, .int 0), (3, .int 5)]) hx hb dJ1_indexOfChar_4cfef_25 hl (k := 0) rfl (by decide) (by decide) rfl (fun ls hl => ?_)
  refine lv_goto (tgt := 7) hx hb dJ1_indexOfChar_4cfef_28 (by decide) ?_
  refine lv_iload hx hb dJ1_indexOfChar_4cfef_7 (lv_at hl 0 rfl) ?_
  refine lv_iload_n hx hb dJ1_indexOfChar_4cfef_9 rfl (lv_at hl 5 rfl) ?_
  refine lv_icmp_ge (tgt := 31) hx hb dJ1_indexOfChar_4cfef_10 (by decide) (fun c_5 => absurd c_5 (by decide)) (fun c_5 => ?_)
  refine lv_aload_n hx hb dJ1_indexOfChar_4cfef_13 rfl (lv_at hl 2 rfl) ?_
  refine lv_iload hx hb dJ1_indexOfChar_4cfef_14 (lv_at hl 0 rfl) ?_
  refine va_tb hx hb (hT.2.2.1.2.2.2.2) hS (i := 2) (vp_in_iff.mpr (by decide)) (v := .int 100) rfl dJ1_indexOfChar_4cfef_16 ?_
  refine lv_iload hx hb dJ1_indexOfChar_4cfef_17 (lv_at hl 1 rfl) ?_
  refine lv_icmp_ne (tgt := 25) hx hb dJ1_indexOfChar_4cfef_19 (by decide) (fun c_6 => ?_) (fun c_6 => absurd c_6 (by decide))
  refine lv_iinc (v := 3) (lv' := [(5, .int 3), (4, .int 119), (0, .ref (g.2.2 23)), (1, .int 119), (2, .int 0), (3, .int 5)]) hx hb dJ1_indexOfChar_4cfef_25 hl (k := 0) rfl (by decide) (by decide) rfl (fun ls hl => ?_)
  refine lv_goto (tgt := 7) hx hb dJ1_indexOfChar_4cfef_28 (by decide) ?_
  refine lv_iload hx hb dJ1_indexOfChar_4cfef_7 (lv_at hl 0 rfl) ?_
  refine lv_iload_n hx hb dJ1_indexOfChar_4cfef_9 rfl (lv_at hl 5 rfl) ?_
  refine lv_icmp_ge (tgt := 31) hx hb dJ1_indexOfChar_4cfef_10 (by decide) (fun c_7 => absurd c_7 (by decide)) (fun c_7 => ?_)
  refine lv_aload_n hx hb dJ1_indexOfChar_4cfef_13 rfl (lv_at hl 2 rfl) ?_
  refine lv_iload hx hb dJ1_indexOfChar_4cfef_14 (lv_at hl 0 rfl) ?_
  refine va_tb hx hb (hT.2.2.1.2.2.2.2) hS (i := 3) (vp_in_iff.mpr (by decide)) (v := .int 115) rfl dJ1_indexOfChar_4cfef_16 ?_
  refine lv_iload hx hb dJ1_indexOfChar_4cfef_17 (lv_at hl 1 rfl) ?_
  refine lv_icmp_ne (tgt := 25) hx hb dJ1_indexOfChar_4cfef_19 (by decide) (fun c_8 => ?_) (fun c_8 => absurd c_8 (by decide))
  refine lv_iinc (v := 4) (lv' := [(5, .int 4), (4, .int 119), (0, .ref (g.2.2 23)), (1, .int 119), (2, .int 0), (3, .int 5)]) hx hb dJ1_indexOfChar_4cfef_25 hl (k := 0) rfl (by decide) (by decide) rfl (fun ls hl => ?_)
  refine lv_goto (tgt := 7) hx hb dJ1_indexOfChar_4cfef_28 (by decide) ?_
  refine lv_iload hx hb dJ1_indexOfChar_4cfef_7 (lv_at hl 0 rfl) ?_
  refine lv_iload_n hx hb dJ1_indexOfChar_4cfef_9 rfl (lv_at hl 5 rfl) ?_
  refine lv_icmp_ge (tgt := 31) hx hb dJ1_indexOfChar_4cfef_10 (by decide) (fun c_9 => absurd c_9 (by decide)) (fun c_9 => ?_)
  refine lv_aload_n hx hb dJ1_indexOfChar_4cfef_13 rfl (lv_at hl 2 rfl) ?_
  refine lv_iload hx hb dJ1_indexOfChar_4cfef_14 (lv_at hl 0 rfl) ?_
  refine va_tb hx hb (hT.2.2.1.2.2.2.2) hS (i := 4) (vp_in_iff.mpr (by decide)) (v := .int 119) rfl dJ1_indexOfChar_4cfef_16 ?_
  refine lv_iload hx hb dJ1_indexOfChar_4cfef_17 (lv_at hl 1 rfl) ?_
  refine lv_icmp_ne (tgt := 25) hx hb dJ1_indexOfChar_4cfef_19 (by decide) (fun c_10 => absurd (by decide) c_10) (fun c_10 => ?_)
  refine lv_iload hx hb dJ1_indexOfChar_4cfef_22 (lv_at hl 0 rfl) ?_
  have hP9 := hP.sub (ws' := []) [] rfl
  have hD9 := hD.sub (ws' := []) [] (by decide) rfl
  refine W.widen (k := 0) (n := 0) (Nat.le_of_ble_eq_true rfl) (Nat.le_of_ble_eq_true rfl) ?_
  exact W.iret (v := 4) hx hb hr (fun t ht hW => ⟨⟨4, [], rfl, ⟨rfl, rfl⟩, by rw [ht]; exact hP9, va_K.moved hW.alike hK, hD9⟩, hS.F ht⟩) hS.2.2 dJ1_indexOfChar_4cfef_24

set_option maxHeartbeats 4000000 in
set_option maxRecDepth 100000 in
theorem c_idx4_w (l : Launch) (hfl : l.stackTraces = false) (g : GP)   : CI l yJ1_indexOf_4cfef (wG yJ1_indexOf_4cfef cJ1_indexOf_4cfef 4 (Option.some Jvm.ClassFile.FieldType.int)) (LV 2 0 0) g [.ref (g.2.2 23), .int 119, .int 0, .int 5] ([]) (fun (r : Int32) (u : va_W) => r = 4 ∧ u = []) := by
  intro sz
  refine Met.ofW (cc := cJ1_indexOf_4cfef) (maxL := 4) (ret := (Option.some Jvm.ClassFile.FieldType.int)) (by decide) rfl ?_
  intro p e s m args below meth c s₁ B hml hv
  obtain ⟨rfl, hsz, hP, hK, hD0, hT0⟩ := hv
  have hx := B.exec
  have hb := B.bytes
  have hr := B.returns
  have hts := atoms_spec (ws := (wG yJ1_indexOf_4cfef cJ1_indexOf_4cfef 4 (Option.some Jvm.ClassFile.FieldType.int))) B.pre
  have htg : ∀ w ∈ G9, w.before _ s = true := fun w h => hts w (List.mem_cons_of_mem _ h)
  have hown : s.vm.findClass "java/lang/StringLatin1" = some m.cls := findClass_of_methodNamed B.named
  have hlocks := B.notSynchronized
  subst hsz
  have hD := hD0.self (sz := s.heap.size)
  have hT := hT0
  clear hT0
  generalize hAe : va_A [] s.heap.size = A at hD hT ⊢
  have hA : ∀ q : Nat, s.heap.size ≤ q → A q := fun q h => by rw [← hAe]; exact Or.inr h
  obtain ⟨H, hH0⟩ : ∃ H, H = s.heap := ⟨_, rfl⟩
  have hS : va_S A s.heap H [] := by rw [hH0]; exact va_S.rf
  have hP : va_P g.1 CLS [] H := by rw [hH0]; exact hP
  rw [← hH0]
  have hl := lv_entry ([.ref (g.2.2 23), .int 119, .int 0, .int 5]) (n := 4) (Nat.le_of_ble_eq_true rfl)
  rw [lg_entry_eq]
  generalize (lg_sl ([.ref (g.2.2 23), .int 119, .int 0, .int 5]) ++ List.replicate (4 - (lg_sl ([.ref (g.2.2 23), .int 119, .int 0, .int 5])).length) Slot.unset).toArray = ls at hl ⊢
  have hl : lv_has ls 4 [(0, .ref (g.2.2 23)), (1, .int 119), (2, .int 0), (3, .int 5)] := hl
  refine lv_iload_n hx hb dJ1_indexOf_4cfef_0 rfl (lv_at hl 1 rfl) ?_
  have hPc := hP.sub (ws' := []) [] rfl
  have hDc := hD.sub (ws' := []) [] (by decide) rfl
  have hFc := va_free (wc := []) hD hS hA [] rfl
  refine q_ci (wr := []) (va_runS (As := [.int 119]) (rest := []) ⟨hx, hb, hml, hown, htg⟩ (c_canEnc_w l hfl g   H.size) ⟨(qB htg k452 k78 k450 ok_J1_canEncode_9a6ad rfl rfl ⟨Nat.le_of_ble_eq_true rfl, Nat.le_of_ble_eq_true rfl⟩), htg _ k451⟩ (q_pre [.int 119] hPc hDc hK hS hT hFc) rfl rfl hl.1 rfl (lv_room (Nat.le_of_ble_eq_true rfl)) dJ1_indexOf_4cfef_1 ⟨Nat.le_of_ble_eq_true rfl, Nat.le_of_ble_eq_true rfl⟩) hP hD hS hFc [] [] rfl rfl (by decide) (by decide) (fun r9 u9 H locs hw hP hD hS => ?_)
  try dsimp only at hw
  rcases hw with ⟨rfl, rfl⟩
  have hP : va_P g.1 CLS [] H := hP
  have hD : va_D A [] := hD
  refine W.widen (k := 0) (n := 0) (Nat.le_of_ble_eq_true rfl) (Nat.le_of_ble_eq_true rfl) ?_
  refine lv_if_ne (tgt := 9) hx hb dJ1_indexOf_4cfef_4 (by decide) (fun c_1 => ?_) (fun c_1 => absurd c_1 (by decide))
  refine lv_iload_n hx hb dJ1_indexOf_4cfef_9 rfl (lv_at hl 2 rfl) ?_
  refine lv_iconst (v := 0) hx hb dJ1_indexOf_4cfef_10 (by decide) ?_
  refine va_mmax hx hb (by rw [hl.1]; exact hml) (own := "java/lang/StringLatin1") (index := 92) hown (htg _ k453) (htg _ k454) (htg _ k72) (htg _ k455) (Nat.le_of_ble_eq_true rfl) (Nat.le_of_ble_eq_true rfl) (Nat.le_of_ble_eq_true rfl) (Nat.le_of_ble_eq_true rfl) dJ1_indexOf_4cfef_11 ?_
  refine lv_topi (fun x_2 ex_2 => ?_)
  obtain rfl : x_2 = 0 := ex_2.trans (by decide)
  refine lv_istore_n (lv' := [(2, .int 0), (0, .ref (g.2.2 23)), (1, .int 119), (3, .int 5)]) hx hb dJ1_indexOf_4cfef_14 rfl hl (by decide) rfl (fun ls hl => ?_)
  refine lv_iload_n hx hb dJ1_indexOf_4cfef_15 rfl (lv_at hl 3 rfl) ?_
  refine lv_aload_n hx hb dJ1_indexOf_4cfef_16 rfl (lv_at hl 1 rfl) ?_
  refine va_tlen (v := 5) hx hb (hT.2.2.1.2.2.2.2) hS rfl dJ1_indexOf_4cfef_17 ?_
  refine va_mmin hx hb (by rw [hl.1]; exact hml) (own := "java/lang/StringLatin1") (index := 38) hown (htg _ k456) (htg _ k457) (htg _ k72) (htg _ k458) (Nat.le_of_ble_eq_true rfl) (Nat.le_of_ble_eq_true rfl) (Nat.le_of_ble_eq_true rfl) (Nat.le_of_ble_eq_true rfl) dJ1_indexOf_4cfef_18 ?_
  refine lv_topi (fun x_3 ex_3 => ?_)
  obtain rfl : x_3 = 5 := ex_3.trans (by decide)
  refine lv_istore_n (lv' := [(3, .int 5), (2, .int 0), (0, .ref (g.2.2 23)), (1, .int 119)]) hx hb dJ1_indexOf_4cfef_21 rfl hl (by decide) rfl (fun ls hl => ?_)
  refine lv_iload_n hx hb dJ1_indexOf_4cfef_22 rfl (lv_at hl 1 rfl) ?_
  refine lv_iload_n hx hb dJ1_indexOf_4cfef_23 rfl (lv_at hl 0 rfl) ?_
  refine lv_icmp_lt (tgt := 29) hx hb dJ1_indexOf_4cfef_24 (by decide) (fun c_4 => ?_) (fun c_4 => absurd (by decide) c_4)
  refine lv_aload_n hx hb dJ1_indexOf_4cfef_29 rfl (lv_at hl 2 rfl) ?_
  refine lv_iload_n hx hb dJ1_indexOf_4cfef_30 rfl (lv_at hl 3 rfl) ?_
  refine lv_iload_n hx hb dJ1_indexOf_4cfef_31 rfl (lv_at hl 1 rfl) ?_
  refine lv_iload_n hx hb dJ1_indexOf_4cfef_32 rfl (lv_at hl 0 rfl) ?_
  have hPc := hP.sub (ws' := []) [] rfl
  have hDc := hD.sub (ws' := []) [] (by decide) rfl
  have hFc := va_free (wc := []) hD hS hA [] rfl
  refine q_ci (wr := []) (va_runS (As := [.ref (g.2.2 23), .int 119, .int 0, .int 5]) (rest := []) ⟨hx, hb, hml, hown, htg⟩ (c_idxChar_w l hfl g   H.size) ⟨(qB htg k461 k78 k459 ok_J1_indexOfChar_4cfef rfl rfl ⟨Nat.le_of_ble_eq_true rfl, Nat.le_of_ble_eq_true rfl⟩), htg _ k460⟩ (q_pre [.ref (g.2.2 23), .int 119, .int 0, .int 5] hPc hDc hK hS hT hFc) rfl rfl hl.1 rfl (lv_room (Nat.le_of_ble_eq_true rfl)) dJ1_indexOf_4cfef_33 ⟨Nat.le_of_ble_eq_true rfl, Nat.le_of_ble_eq_true rfl⟩) hP hD hS hFc [] [] rfl rfl (by decide) (by decide) (fun r9 u9 H locs hw hP hD hS => ?_)
  try dsimp only at hw
  rcases hw with ⟨rfl, rfl⟩
  have hP : va_P g.1 CLS [] H := hP
  have hD : va_D A [] := hD
  refine W.widen (k := 0) (n := 0) (Nat.le_of_ble_eq_true rfl) (Nat.le_of_ble_eq_true rfl) ?_
  have hP9 := hP.sub (ws' := []) [] rfl
  have hD9 := hD.sub (ws' := []) [] (by decide) rfl
  refine W.widen (k := 0) (n := 0) (Nat.le_of_ble_eq_true rfl) (Nat.le_of_ble_eq_true rfl) ?_
  exact W.iret (v := 4) hx hb hr (fun t ht hW => ⟨⟨4, [], rfl, ⟨rfl, rfl⟩, by rw [ht]; exact hP9, va_K.moved hW.alike hK, hD9⟩, hS.F ht⟩) hS.2.2 dJ1_indexOf_4cfef_36

set_option maxHeartbeats 4000000 in
set_option maxRecDepth 100000 in
theorem c_idx2_w (l : Launch) (hfl : l.stackTraces = false) (g : GP)   : CI l yJ0_indexOf_7cf53 (wG yJ0_indexOf_7cf53 cJ0_indexOf_7cf53 3 (Option.some Jvm.ClassFile.FieldType.int)) (LV 3 0 0) g [.ref (g.2.2 13), .int 119, .int 0] ([]) (fun (r : Int32) (u : va_W) => r = 4 ∧ u = []) := by
  intro sz
  refine Met.ofW (cc := cJ0_indexOf_7cf53) (maxL := 3) (ret := (Option.some Jvm.ClassFile.FieldType.int)) (by decide) rfl ?_
  intro p e s m args below meth c s₁ B hml hv
  obtain ⟨rfl, hsz, hP, hK, hD0, hT0⟩ := hv
  have hx := B.exec
  have hb := B.bytes
  have hr := B.returns
  have hts := atoms_spec (ws := (wG yJ0_indexOf_7cf53 cJ0_indexOf_7cf53 3 (Option.some Jvm.ClassFile.FieldType.int))) B.pre
  have htg : ∀ w ∈ G9, w.before _ s = true := fun w h => hts w (List.mem_cons_of_mem _ h)
  have hown : s.vm.findClass "java/lang/String" = some m.cls := findClass_of_methodNamed B.named
  have hlocks := B.notSynchronized
  subst hsz
  have hD := hD0.self (sz := s.heap.size)
  have hT := hT0
  clear hT0
  generalize hAe : va_A [] s.heap.size = A at hD hT ⊢
  have hA : ∀ q : Nat, s.heap.size ≤ q → A q := fun q h => by rw [← hAe]; exact Or.inr h
  obtain ⟨H, hH0⟩ : ∃ H, H = s.heap := ⟨_, rfl⟩
  have hS : va_S A s.heap H [] := by rw [hH0]; exact va_S.rf
  have hP : va_P g.1 CLS [] H := by rw [hH0]; exact hP
  rw [← hH0]
  have hl := lv_entry ([.ref (g.2.2 13), .int 119, .int 0]) (n := 3) (Nat.le_of_ble_eq_true rfl)
  rw [lg_entry_eq]
  generalize (lg_sl ([.ref (g.2.2 13), .int 119, .int 0]) ++ List.replicate (3 - (lg_sl ([.ref (g.2.2 13), .int 119, .int 0])).length) Slot.unset).toArray = ls at hl ⊢
  have hl : lv_has ls 3 [(0, .ref (g.2.2 13)), (1, .int 119), (2, .int 0)] := hl
  refine lv_aload_n hx hb dJ0_indexOf_7cf53_0 rfl (lv_at hl 0 rfl) ?_
  have hPc := hP.sub (ws' := []) [] rfl
  have hDc := hD.sub (ws' := []) [] (by decide) rfl
  have hFc := va_free (wc := []) hD hS hA [] rfl
  refine q_ci (wr := []) (va_runV (As := []) (rest := []) ⟨hx, hb, hml, hown, htg⟩ (c_isLatin1 l hfl g   H.size) ⟨(qB htg k436 k77 k433 ok_J0_isLatin1_aae02 rfl rfl ⟨Nat.le_of_ble_eq_true rfl, Nat.le_of_ble_eq_true rfl⟩), htg _ k434, htg _ k435⟩ ⟨(q_pre [.ref (g.2.2 13)] hPc hDc hK hS hT hFc).1, va_Orecv (hT.2.2.1.2.1) hS, (q_pre [.ref (g.2.2 13)] hPc hDc hK hS hT hFc).2⟩ rfl rfl hl.1 rfl (lv_room (Nat.le_of_ble_eq_true rfl)) dJ0_indexOf_7cf53_1 ⟨Nat.le_of_ble_eq_true rfl, Nat.le_of_ble_eq_true rfl⟩) hP hD hS hFc [] [] rfl rfl (by decide) (by decide) (fun r9 u9 H locs hw hP hD hS => ?_)
  try dsimp only at hw
  rcases hw with ⟨rfl, rfl⟩
  have hP : va_P g.1 CLS [] H := hP
  have hD : va_D A [] := hD
  refine W.widen (k := 0) (n := 0) (Nat.le_of_ble_eq_true rfl) (Nat.le_of_ble_eq_true rfl) ?_
  refine lv_if_eq (tgt := 23) hx hb dJ0_indexOf_7cf53_4 (by decide) (fun c_1 => absurd c_1 (by decide)) (fun c_1 => ?_)
  refine lv_aload_n hx hb dJ0_indexOf_7cf53_7 rfl (lv_at hl 0 rfl) ?_
  refine vk_getf (v := .ref (g.2.2 23)) hx hb (hT.2.2.1.2.2.2.1) hS hown (htg _ k2089) (fun _ h9 => h9) dJ0_indexOf_7cf53_8 ?_
  refine lv_iload_n hx hb dJ0_indexOf_7cf53_11 rfl (lv_at hl 1 rfl) ?_
  refine lv_iload_n hx hb dJ0_indexOf_7cf53_12 rfl (lv_at hl 2 rfl) ?_
  refine lv_aload_n hx hb dJ0_indexOf_7cf53_13 rfl (lv_at hl 0 rfl) ?_
  have hPc := hP.sub (ws' := []) [] rfl
  have hDc := hD.sub (ws' := []) [] (by decide) rfl
  have hFc := va_free (wc := []) hD hS hA [] rfl
  refine q_ci (wr := []) (va_runV (As := []) (rest := [.int 0, .int 119, .ref (g.2.2 23)]) ⟨hx, hb, hml, hown, htg⟩ (c_length l hfl g   H.size) ⟨(qB htg k442 k77 k439 ok_J0_length_8abf5 rfl rfl ⟨Nat.le_of_ble_eq_true rfl, Nat.le_of_ble_eq_true rfl⟩), htg _ k440, htg _ k441⟩ ⟨(q_pre [.ref (g.2.2 13)] hPc hDc hK hS hT hFc).1, va_Orecv (hT.2.2.1.2.1) hS, (q_pre [.ref (g.2.2 13)] hPc hDc hK hS hT hFc).2⟩ rfl rfl hl.1 rfl (lv_room (Nat.le_of_ble_eq_true rfl)) dJ0_indexOf_7cf53_14 ⟨Nat.le_of_ble_eq_true rfl, Nat.le_of_ble_eq_true rfl⟩) hP hD hS hFc [] [] rfl rfl (by decide) (by decide) (fun r9 u9 H locs hw hP hD hS => ?_)
  try dsimp only at hw
  rcases hw with ⟨rfl, rfl⟩
  have hP : va_P g.1 CLS [] H := hP
  have hD : va_D A [] := hD
  refine W.widen (k := 0) (n := 0) (Nat.le_of_ble_eq_true rfl) (Nat.le_of_ble_eq_true rfl) ?_
  have hPc := hP.sub (ws' := []) [] rfl
  have hDc := hD.sub (ws' := []) [] (by decide) rfl
  have hFc := va_free (wc := []) hD hS hA [] rfl
  refine q_ci (wr := []) (va_runS (As := [.ref (g.2.2 23), .int 119, .int 0, .int 5]) (rest := []) ⟨hx, hb, hml, hown, htg⟩ (c_idx4_w l hfl g   H.size) ⟨(qB htg k449 k78 k447 ok_J1_indexOf_4cfef rfl rfl ⟨Nat.le_of_ble_eq_true rfl, Nat.le_of_ble_eq_true rfl⟩), htg _ k448⟩ (q_pre [.ref (g.2.2 23), .int 119, .int 0, .int 5] hPc hDc hK hS hT hFc) rfl rfl hl.1 rfl (lv_room (Nat.le_of_ble_eq_true rfl)) dJ0_indexOf_7cf53_17 ⟨Nat.le_of_ble_eq_true rfl, Nat.le_of_ble_eq_true rfl⟩) hP hD hS hFc [] [] rfl rfl (by decide) (by decide) (fun r9 u9 H locs hw hP hD hS => ?_)
  try dsimp only at hw
  rcases hw with ⟨rfl, rfl⟩
  have hP : va_P g.1 CLS [] H := hP
  have hD : va_D A [] := hD
  refine W.widen (k := 0) (n := 0) (Nat.le_of_ble_eq_true rfl) (Nat.le_of_ble_eq_true rfl) ?_
  refine lv_goto (tgt := 36) hx hb dJ0_indexOf_7cf53_20 (by decide) ?_
  have hP9 := hP.sub (ws' := []) [] rfl
  have hD9 := hD.sub (ws' := []) [] (by decide) rfl
  refine W.widen (k := 0) (n := 0) (Nat.le_of_ble_eq_true rfl) (Nat.le_of_ble_eq_true rfl) ?_
  exact W.iret (v := 4) hx hb hr (fun t ht hW => ⟨⟨4, [], rfl, ⟨rfl, rfl⟩, by rw [ht]; exact hP9, va_K.moved hW.alike hK, hD9⟩, hS.F ht⟩) hS.2.2 dJ0_indexOf_7cf53_36

set_option maxHeartbeats 4000000 in
set_option maxRecDepth 100000 in
theorem c_idx1_w (l : Launch) (hfl : l.stackTraces = false) (g : GP)   : CI l yJ0_indexOf_0f7a4 (wG yJ0_indexOf_0f7a4 cJ0_indexOf_0f7a4 2 (Option.some Jvm.ClassFile.FieldType.int)) (LV 4 0 0) g [.ref (g.2.2 13), .int 119] ([]) (fun (r : Int32) (u : va_W) => r = 4 ∧ u = []) := by
  intro sz
  refine Met.ofW (cc := cJ0_indexOf_0f7a4) (maxL := 2) (ret := (Option.some Jvm.ClassFile.FieldType.int)) (by decide) rfl ?_
  intro p e s m args below meth c s₁ B hml hv
  obtain ⟨rfl, hsz, hP, hK, hD0, hT0⟩ := hv
  have hx := B.exec
  have hb := B.bytes
  have hr := B.returns
  have hts := atoms_spec (ws := (wG yJ0_indexOf_0f7a4 cJ0_indexOf_0f7a4 2 (Option.some Jvm.ClassFile.FieldType.int))) B.pre
  have htg : ∀ w ∈ G9, w.before _ s = true := fun w h => hts w (List.mem_cons_of_mem _ h)
  have hown : s.vm.findClass "java/lang/String" = some m.cls := findClass_of_methodNamed B.named
  have hlocks := B.notSynchronized
  subst hsz
  have hD := hD0.self (sz := s.heap.size)
  have hT := hT0
  clear hT0
  generalize hAe : va_A [] s.heap.size = A at hD hT ⊢
  have hA : ∀ q : Nat, s.heap.size ≤ q → A q := fun q h => by rw [← hAe]; exact Or.inr h
  obtain ⟨H, hH0⟩ : ∃ H, H = s.heap := ⟨_, rfl⟩
  have hS : va_S A s.heap H [] := by rw [hH0]; exact va_S.rf
  have hP : va_P g.1 CLS [] H := by rw [hH0]; exact hP
  rw [← hH0]
  have hl := lv_entry ([.ref (g.2.2 13), .int 119]) (n := 2) (Nat.le_of_ble_eq_true rfl)
  rw [lg_entry_eq]
  generalize (lg_sl ([.ref (g.2.2 13), .int 119]) ++ List.replicate (2 - (lg_sl ([.ref (g.2.2 13), .int 119])).length) Slot.unset).toArray = ls at hl ⊢
  have hl : lv_has ls 2 [(0, .ref (g.2.2 13)), (1, .int 119)] := hl
  refine lv_aload_n hx hb dJ0_indexOf_0f7a4_0 rfl (lv_at hl 0 rfl) ?_
  refine lv_iload_n hx hb dJ0_indexOf_0f7a4_1 rfl (lv_at hl 1 rfl) ?_
  refine lv_iconst (v := 0) hx hb dJ0_indexOf_0f7a4_2 (by decide) ?_
  have hPc := hP.sub (ws' := []) [] rfl
  have hDc := hD.sub (ws' := []) [] (by decide) rfl
  have hFc := va_free (wc := []) hD hS hA [] rfl
  refine q_ci (wr := []) (va_runV (As := [.int 119, .int 0]) (rest := []) ⟨hx, hb, hml, hown, htg⟩ (c_idx2_w l hfl g   H.size) ⟨(qB htg k432 k77 k429 ok_J0_indexOf_7cf53 rfl rfl ⟨Nat.le_of_ble_eq_true rfl, Nat.le_of_ble_eq_true rfl⟩), htg _ k430, htg _ k431⟩ ⟨(q_pre [.ref (g.2.2 13), .int 119, .int 0] hPc hDc hK hS hT hFc).1, va_Orecv (hT.2.2.1.2.1) hS, (q_pre [.ref (g.2.2 13), .int 119, .int 0] hPc hDc hK hS hT hFc).2⟩ rfl rfl hl.1 rfl (lv_room (Nat.le_of_ble_eq_true rfl)) dJ0_indexOf_0f7a4_3 ⟨Nat.le_of_ble_eq_true rfl, Nat.le_of_ble_eq_true rfl⟩) hP hD hS hFc [] [] rfl rfl (by decide) (by decide) (fun r9 u9 H locs hw hP hD hS => ?_)
  try dsimp only at hw
  rcases hw with ⟨rfl, rfl⟩
  have hP : va_P g.1 CLS [] H := hP
  have hD : va_D A [] := hD
  refine W.widen (k := 0) (n := 0) (Nat.le_of_ble_eq_true rfl) (Nat.le_of_ble_eq_true rfl) ?_
  have hP9 := hP.sub (ws' := []) [] rfl
  have hD9 := hD.sub (ws' := []) [] (by decide) rfl
  refine W.widen (k := 0) (n := 0) (Nat.le_of_ble_eq_true rfl) (Nat.le_of_ble_eq_true rfl) ?_
  exact W.iret (v := 4) hx hb hr (fun t ht hW => ⟨⟨4, [], rfl, ⟨rfl, rfl⟩, by rw [ht]; exact hP9, va_K.moved hW.alike hK, hD9⟩, hS.F ht⟩) hS.2.2 dJ0_indexOf_0f7a4_6

set_option maxHeartbeats 4000000 in
set_option maxRecDepth 100000 in
theorem c_canEnc_s (l : Launch) (hfl : l.stackTraces = false) (g : GP)   : CI l yJ1_canEncode_9a6ad (wG yJ1_canEncode_9a6ad cJ1_canEncode_9a6ad 1 (Option.some Jvm.ClassFile.FieldType.boolean)) (LV 1 0 0) g [.int 115] ([]) (fun (r : Int32) (u : va_W) => r = 1 ∧ u = []) := by
  intro sz
  refine Met.ofW (cc := cJ1_canEncode_9a6ad) (maxL := 1) (ret := (Option.some Jvm.ClassFile.FieldType.boolean)) (by decide) rfl ?_
  intro p e s m args below meth c s₁ B hml hv
  obtain ⟨rfl, hsz, hP, hK, hD0, hT0⟩ := hv
  have hx := B.exec
  have hb := B.bytes
  have hr := B.returns
  have hts := atoms_spec (ws := (wG yJ1_canEncode_9a6ad cJ1_canEncode_9a6ad 1 (Option.some Jvm.ClassFile.FieldType.boolean))) B.pre
  have htg : ∀ w ∈ G9, w.before _ s = true := fun w h => hts w (List.mem_cons_of_mem _ h)
  have hown : s.vm.findClass "java/lang/StringLatin1" = some m.cls := findClass_of_methodNamed B.named
  have hlocks := B.notSynchronized
  subst hsz
  have hD := hD0.self (sz := s.heap.size)
  have hT := hT0
  clear hT0
  generalize hAe : va_A [] s.heap.size = A at hD hT ⊢
  have hA : ∀ q : Nat, s.heap.size ≤ q → A q := fun q h => by rw [← hAe]; exact Or.inr h
  obtain ⟨H, hH0⟩ : ∃ H, H = s.heap := ⟨_, rfl⟩
  have hS : va_S A s.heap H [] := by rw [hH0]; exact va_S.rf
  have hP : va_P g.1 CLS [] H := by rw [hH0]; exact hP
  rw [← hH0]
  have hl := lv_entry ([.int 115]) (n := 1) (Nat.le_of_ble_eq_true rfl)
  rw [lg_entry_eq]
  generalize (lg_sl ([.int 115]) ++ List.replicate (1 - (lg_sl ([.int 115])).length) Slot.unset).toArray = ls at hl ⊢
  have hl : lv_has ls 1 [(0, .int 115)] := hl
  refine lv_iload_n hx hb dJ1_canEncode_9a6ad_0 rfl (lv_at hl 0 rfl) ?_
  refine lv_if_lt (tgt := 15) hx hb dJ1_canEncode_9a6ad_1 (by decide) (fun c_1 => absurd c_1 (by decide)) (fun c_1 => ?_)
  refine lv_iload_n hx hb dJ1_canEncode_9a6ad_4 rfl (lv_at hl 0 rfl) ?_
  refine lv_sipush (v := 255) hx hb dJ1_canEncode_9a6ad_5 (by decide) ?_
  refine lv_icmp_gt (tgt := 15) hx hb dJ1_canEncode_9a6ad_8 (by decide) (fun c_2 => absurd c_2 (by decide)) (fun c_2 => ?_)
  refine lv_iconst (v := 1) hx hb dJ1_canEncode_9a6ad_11 (by decide) ?_
  refine lv_goto (tgt := 16) hx hb dJ1_canEncode_9a6ad_12 (by decide) ?_
  have hP9 := hP.sub (ws' := []) [] rfl
  have hD9 := hD.sub (ws' := []) [] (by decide) rfl
  refine W.widen (k := 0) (n := 0) (Nat.le_of_ble_eq_true rfl) (Nat.le_of_ble_eq_true rfl) ?_
  exact W.zret (v := 1) hx hb hr rfl (fun t ht hW => ⟨⟨1, [], rfl, ⟨rfl, rfl⟩, by rw [ht]; exact hP9, va_K.moved hW.alike hK, hD9⟩, hS.F ht⟩) hS.2.2 dJ1_canEncode_9a6ad_16

set_option maxHeartbeats 4000000 in
set_option maxRecDepth 100000 in
theorem c_idxChar_s (l : Launch) (hfl : l.stackTraces = false) (g : GP)   : CI l yJ1_indexOfChar_4cfef (wG yJ1_indexOfChar_4cfef cJ1_indexOfChar_4cfef 6 (Option.some Jvm.ClassFile.FieldType.int)) (LV 1 0 0) g [.ref (g.2.2 23), .int 115, .int 0, .int 5] ([]) (fun (r : Int32) (u : va_W) => r = 3 ∧ u = []) := by
  intro sz
  refine Met.ofW (cc := cJ1_indexOfChar_4cfef) (maxL := 6) (ret := (Option.some Jvm.ClassFile.FieldType.int)) (by decide) rfl ?_
  intro p e s m args below meth c s₁ B hml hv
  obtain ⟨rfl, hsz, hP, hK, hD0, hT0⟩ := hv
  have hx := B.exec
  have hb := B.bytes
  have hr := B.returns
  have hts := atoms_spec (ws := (wG yJ1_indexOfChar_4cfef cJ1_indexOfChar_4cfef 6 (Option.some Jvm.ClassFile.FieldType.int))) B.pre
  have htg : ∀ w ∈ G9, w.before _ s = true := fun w h => hts w (List.mem_cons_of_mem _ h)
  have hown : s.vm.findClass "java/lang/StringLatin1" = some m.cls := findClass_of_methodNamed B.named
  have hlocks := B.notSynchronized
  subst hsz
  have hD := hD0.self (sz := s.heap.size)
  have hT := hT0
  clear hT0
  generalize hAe : va_A [] s.heap.size = A at hD hT ⊢
  have hA : ∀ q : Nat, s.heap.size ≤ q → A q := fun q h => by rw [← hAe]; exact Or.inr h
  obtain ⟨H, hH0⟩ : ∃ H, H = s.heap := ⟨_, rfl⟩
  have hS : va_S A s.heap H [] := by rw [hH0]; exact va_S.rf
  have hP : va_P g.1 CLS [] H := by rw [hH0]; exact hP
  rw [← hH0]
  have hl := lv_entry ([.ref (g.2.2 23), .int 115, .int 0, .int 5]) (n := 6) (Nat.le_of_ble_eq_true rfl)
  rw [lg_entry_eq]
  generalize (lg_sl ([.ref (g.2.2 23), .int 115, .int 0, .int 5]) ++ List.replicate (6 - (lg_sl ([.ref (g.2.2 23), .int 115, .int 0, .int 5])).length) Slot.unset).toArray = ls at hl ⊢
  have hl : lv_has ls 6 [(0, .ref (g.2.2 23)), (1, .int 115), (2, .int 0), (3, .int 5)] := hl
  refine lv_iload_n hx hb dJ1_indexOfChar_4cfef_0 rfl (lv_at hl 1 rfl) ?_
  refine lv_i2b (v := 115) hx hb dJ1_indexOfChar_4cfef_1 (by decide) ?_
  refine lv_istore (lv' := [(4, .int 115), (0, .ref (g.2.2 23)), (1, .int 115), (2, .int 0), (3, .int 5)]) hx hb dJ1_indexOfChar_4cfef_2 hl (by decide) rfl (fun ls hl => ?_)
  refine lv_iload_n hx hb dJ1_indexOfChar_4cfef_4 rfl (lv_at hl 3 rfl) ?_
  refine lv_istore (lv' := [(5, .int 0), (4, .int 115), (0, .ref (g.2.2 23)), (1, .int 115), (2, .int 0), (3, .int 5)]) hx hb dJ1_indexOfChar_4cfef_5 hl (by decide) rfl (fun ls hl => ?_)
  refine lv_iload hx hb dJ1_indexOfChar_4cfef_7 (lv_at hl 0 rfl) ?_
  refine lv_iload_n hx hb dJ1_indexOfChar_4cfef_9 rfl (lv_at hl 5 rfl) ?_
  refine lv_icmp_ge (tgt := 31) hx hb dJ1_indexOfChar_4cfef_10 (by decide) (fun c_1 => absurd c_1 (by decide)) (fun c_1 => ?_)
  refine lv_aload_n hx hb dJ1_indexOfChar_4cfef_13 rfl (lv_at hl 2 rfl) ?_
  refine lv_iload hx hb dJ1_indexOfChar_4cfef_14 (lv_at hl 0 rfl) ?_
  refine va_tb hx hb (hT.2.2.1.2.2.2.2) hS (i := 0) (vp_in_iff.mpr (by decide)) (v := .int 97) rfl dJ1_indexOfChar_4cfef_16 ?_
  refine lv_iload hx hb dJ1_indexOfChar_4cfef_17 (lv_at hl 1 rfl) ?_
  refine lv_icmp_ne (tgt := 25) hx hb dJ1_indexOfChar_4cfef_19 (by decide) (fun c_2 => ?_) (fun c_2 => absurd c_2 (by decide))
  refine lv_iinc (v := 1) (lv' := [(5, .int 1), (4, .int 115), (0, .ref (g.2.2 23)), (1, .int 115), (2, .int 0), (3, .int 5)]) hx hb dJ1_indexOfChar_4cfef_25 hl (k := 0) rfl (by decide) (by decide) rfl (fun ls hl => ?_)
  refine lv_goto (tgt := 7) hx hb dJ1_indexOfChar_4cfef_28 (by decide) ?_
  refine lv_iload hx hb dJ1_indexOfChar_4cfef_7 (lv_at hl 0 rfl) ?_
  refine lv_iload_n hx hb dJ1_indexOfChar_4cfef_9 rfl (lv_at hl 5 rfl) ?_
  refine lv_icmp_ge (tgt := 31) hx hb dJ1_indexOfChar_4cfef_10 (by decide) (fun c_3 => absurd c_3 (by decide)) (fun c_3 => ?_)
  refine lv_aload_n hx hb dJ1_indexOfChar_4cfef_13 rfl (lv_at hl 2 rfl) ?_
  refine lv_iload hx hb dJ1_indexOfChar_4cfef_14 (lv_at hl 0 rfl) ?_
  refine va_tb hx hb (hT.2.2.1.2.2.2.2) hS (i := 1) (vp_in_iff.mpr (by decide)) (v := .int 116) rfl dJ1_indexOfChar_4cfef_16 ?_
  refine lv_iload hx hb dJ1_indexOfChar_4cfef_17 (lv_at hl 1 rfl) ?_
  refine lv_icmp_ne (tgt := 25) hx hb dJ1_indexOfChar_4cfef_19 (by decide) (fun c_4 => ?_) (fun c_4 => absurd c_4 (by decide))
  refine lv_iinc (v := 2) (lv' := [(5, .int 2), (4, .int 115), (0, .ref (g.2.2 23)), (1, .int 115), (2, .int 0), (3, .int 5)]) hx hb dJ1_indexOfChar_4cfef_25 hl (k := 0) rfl (by decide) (by decide) rfl (fun ls hl => ?_)
  refine lv_goto (tgt := 7) hx hb dJ1_indexOfChar_4cfef_28 (by decide) ?_
  refine lv_iload hx hb dJ1_indexOfChar_4cfef_7 (lv_at hl 0 rfl) ?_
  refine lv_iload_n hx hb dJ1_indexOfChar_4cfef_9 rfl (lv_at hl 5 rfl) ?_
  refine lv_icmp_ge (tgt := 31) hx hb dJ1_indexOfChar_4cfef_10 (by decide) (fun c_5 => absurd c_5 (by decide)) (fun c_5 => ?_)
  refine lv_aload_n hx hb dJ1_indexOfChar_4cfef_13 rfl (lv_at hl 2 rfl) ?_
  refine lv_iload hx hb dJ1_indexOfChar_4cfef_14 (lv_at hl 0 rfl) ?_
  refine va_tb hx hb (hT.2.2.1.2.2.2.2) hS (i := 2) (vp_in_iff.mpr (by decide)) (v := .int 100) rfl dJ1_indexOfChar_4cfef_16 ?_
  refine lv_iload hx hb dJ1_indexOfChar_4cfef_17 (lv_at hl 1 rfl) ?_
  refine lv_icmp_ne (tgt := 25) hx hb dJ1_indexOfChar_4cfef_19 (by decide) (fun c_6 => ?_) (fun c_6 => absurd c_6 (by decide))
  refine lv_iinc (v := 3) (lv' := [(5, .int 3), (4, .int 115), (0, .ref (g.2.2 23)), (1, .int 115), (2, .int 0), (3, .int 5)]) hx hb dJ1_indexOfChar_4cfef_25 hl (k := 0) rfl (by decide) (by decide) rfl (fun ls hl => ?_)
  refine lv_goto (tgt := 7) hx hb dJ1_indexOfChar_4cfef_28 (by decide) ?_
  refine lv_iload hx hb dJ1_indexOfChar_4cfef_7 (lv_at hl 0 rfl) ?_
  refine lv_iload_n hx hb dJ1_indexOfChar_4cfef_9 rfl (lv_at hl 5 rfl) ?_
  refine lv_icmp_ge (tgt := 31) hx hb dJ1_indexOfChar_4cfef_10 (by decide) (fun c_7 => absurd c_7 (by decide)) (fun c_7 => ?_)
  refine lv_aload_n hx hb dJ1_indexOfChar_4cfef_13 rfl (lv_at hl 2 rfl) ?_
  refine lv_iload hx hb dJ1_indexOfChar_4cfef_14 (lv_at hl 0 rfl) ?_
  refine va_tb hx hb (hT.2.2.1.2.2.2.2) hS (i := 3) (vp_in_iff.mpr (by decide)) (v := .int 115) rfl dJ1_indexOfChar_4cfef_16 ?_
  refine lv_iload hx hb dJ1_indexOfChar_4cfef_17 (lv_at hl 1 rfl) ?_
  refine lv_icmp_ne (tgt := 25) hx hb dJ1_indexOfChar_4cfef_19 (by decide) (fun c_8 => absurd (by decide) c_8) (fun c_8 => ?_)
  refine lv_iload hx hb dJ1_indexOfChar_4cfef_22 (lv_at hl 0 rfl) ?_
  have hP9 := hP.sub (ws' := []) [] rfl
  have hD9 := hD.sub (ws' := []) [] (by decide) rfl
  refine W.widen (k := 0) (n := 0) (Nat.le_of_ble_eq_true rfl) (Nat.le_of_ble_eq_true rfl) ?_
  exact W.iret (v := 3) hx hb hr (fun t ht hW => ⟨⟨3, [], rfl, ⟨rfl, rfl⟩, by rw [ht]; exact hP9, va_K.moved hW.alike hK, hD9⟩, hS.F ht⟩) hS.2.2 dJ1_indexOfChar_4cfef_24

set_option maxHeartbeats 4000000 in
set_option maxRecDepth 100000 in
theorem c_idx4_s (l : Launch) (hfl : l.stackTraces = false) (g : GP)   : CI l yJ1_indexOf_4cfef (wG yJ1_indexOf_4cfef cJ1_indexOf_4cfef 4 (Option.some Jvm.ClassFile.FieldType.int)) (LV 2 0 0) g [.ref (g.2.2 23), .int 115, .int 0, .int 5] ([]) (fun (r : Int32) (u : va_W) => r = 3 ∧ u = []) := by
  intro sz
  refine Met.ofW (cc := cJ1_indexOf_4cfef) (maxL := 4) (ret := (Option.some Jvm.ClassFile.FieldType.int)) (by decide) rfl ?_
  intro p e s m args below meth c s₁ B hml hv
  obtain ⟨rfl, hsz, hP, hK, hD0, hT0⟩ := hv
  have hx := B.exec
  have hb := B.bytes
  have hr := B.returns
  have hts := atoms_spec (ws := (wG yJ1_indexOf_4cfef cJ1_indexOf_4cfef 4 (Option.some Jvm.ClassFile.FieldType.int))) B.pre
  have htg : ∀ w ∈ G9, w.before _ s = true := fun w h => hts w (List.mem_cons_of_mem _ h)
  have hown : s.vm.findClass "java/lang/StringLatin1" = some m.cls := findClass_of_methodNamed B.named
  have hlocks := B.notSynchronized
  subst hsz
  have hD := hD0.self (sz := s.heap.size)
  have hT := hT0
  clear hT0
  generalize hAe : va_A [] s.heap.size = A at hD hT ⊢
  have hA : ∀ q : Nat, s.heap.size ≤ q → A q := fun q h => by rw [← hAe]; exact Or.inr h
  obtain ⟨H, hH0⟩ : ∃ H, H = s.heap := ⟨_, rfl⟩
  have hS : va_S A s.heap H [] := by rw [hH0]; exact va_S.rf
  have hP : va_P g.1 CLS [] H := by rw [hH0]; exact hP
  rw [← hH0]
  have hl := lv_entry ([.ref (g.2.2 23), .int 115, .int 0, .int 5]) (n := 4) (Nat.le_of_ble_eq_true rfl)
  rw [lg_entry_eq]
  generalize (lg_sl ([.ref (g.2.2 23), .int 115, .int 0, .int 5]) ++ List.replicate (4 - (lg_sl ([.ref (g.2.2 23), .int 115, .int 0, .int 5])).length) Slot.unset).toArray = ls at hl ⊢
  have hl : lv_has ls 4 [(0, .ref (g.2.2 23)), (1, .int 115), (2, .int 0), (3, .int 5)] := hl
  refine lv_iload_n hx hb dJ1_indexOf_4cfef_0 rfl (lv_at hl 1 rfl) ?_
  have hPc := hP.sub (ws' := []) [] rfl
  have hDc := hD.sub (ws' := []) [] (by decide) rfl
  have hFc := va_free (wc := []) hD hS hA [] rfl
  refine q_ci (wr := []) (va_runS (As := [.int 115]) (rest := []) ⟨hx, hb, hml, hown, htg⟩ (c_canEnc_s l hfl g   H.size) ⟨(qB htg k452 k78 k450 ok_J1_canEncode_9a6ad rfl rfl ⟨Nat.le_of_ble_eq_true rfl, Nat.le_of_ble_eq_true rfl⟩), htg _ k451⟩ (q_pre [.int 115] hPc hDc hK hS hT hFc) rfl rfl hl.1 rfl (lv_room (Nat.le_of_ble_eq_true rfl)) dJ1_indexOf_4cfef_1 ⟨Nat.le_of_ble_eq_true rfl, Nat.le_of_ble_eq_true rfl⟩) hP hD hS hFc [] [] rfl rfl (by decide) (by decide) (fun r9 u9 H locs hw hP hD hS => ?_)
  try dsimp only at hw
  rcases hw with ⟨rfl, rfl⟩
  have hP : va_P g.1 CLS [] H := hP
  have hD : va_D A [] := hD
  refine W.widen (k := 0) (n := 0) (Nat.le_of_ble_eq_true rfl) (Nat.le_of_ble_eq_true rfl) ?_
  refine lv_if_ne (tgt := 9) hx hb dJ1_indexOf_4cfef_4 (by decide) (fun c_1 => ?_) (fun c_1 => absurd c_1 (by decide))
  refine lv_iload_n hx hb dJ1_indexOf_4cfef_9 rfl (lv_at hl 2 rfl) ?_
  refine lv_iconst (v := 0) hx hb dJ1_indexOf_4cfef_10 (by decide) ?_
  refine va_mmax hx hb (by rw [hl.1]; exact hml) (own := "java/lang/StringLatin1") (index := 92) hown (htg _ k453) (htg _ k454) (htg _ k72) (htg _ k455) (Nat.le_of_ble_eq_true rfl) (Nat.le_of_ble_eq_true rfl) (Nat.le_of_ble_eq_true rfl) (Nat.le_of_ble_eq_true rfl) dJ1_indexOf_4cfef_11 ?_
  refine lv_topi (fun x_2 ex_2 => ?_)
  obtain rfl : x_2 = 0 := ex_2.trans (by decide)
  refine lv_istore_n (lv' := [(2, .int 0), (0, .ref (g.2.2 23)), (1, .int 115), (3, .int 5)]) hx hb dJ1_indexOf_4cfef_14 rfl hl (by decide) rfl (fun ls hl => ?_)
  refine lv_iload_n hx hb dJ1_indexOf_4cfef_15 rfl (lv_at hl 3 rfl) ?_
  refine lv_aload_n hx hb dJ1_indexOf_4cfef_16 rfl (lv_at hl 1 rfl) ?_
  refine va_tlen (v := 5) hx hb (hT.2.2.1.2.2.2.2) hS rfl dJ1_indexOf_4cfef_17 ?_
  refine va_mmin hx hb (by rw [hl.1]; exact hml) (own := "java/lang/StringLatin1") (index := 38) hown (htg _ k456) (htg _ k457) (htg _ k72) (htg _ k458) (Nat.le_of_ble_eq_true rfl) (Nat.le_of_ble_eq_true rfl) (Nat.le_of_ble_eq_true rfl) (Nat.le_of_ble_eq_true rfl) dJ1_indexOf_4cfef_18 ?_
  refine lv_topi (fun x_3 ex_3 => ?_)
  obtain rfl : x_3 = 5 := ex_3.trans (by decide)
  refine lv_istore_n (lv' := [(3, .int 5), (2, .int 0), (0, .ref (g.2.2 23)), (1, .int 115)]) hx hb dJ1_indexOf_4cfef_21 rfl hl (by decide) rfl (fun ls hl => ?_)
  refine lv_iload_n hx hb dJ1_indexOf_4cfef_22 rfl (lv_at hl 1 rfl) ?_
  refine lv_iload_n hx hb dJ1_indexOf_4cfef_23 rfl (lv_at hl 0 rfl) ?_
  refine lv_icmp_lt (tgt := 29) hx hb dJ1_indexOf_4cfef_24 (by decide) (fun c_4 => ?_) (fun c_4 => absurd (by decide) c_4)
  refine lv_aload_n hx hb dJ1_indexOf_4cfef_29 rfl (lv_at hl 2 rfl) ?_
  refine lv_iload_n hx hb dJ1_indexOf_4cfef_30 rfl (lv_at hl 3 rfl) ?_
  refine lv_iload_n hx hb dJ1_indexOf_4cfef_31 rfl (lv_at hl 1 rfl) ?_
  refine lv_iload_n hx hb dJ1_indexOf_4cfef_32 rfl (lv_at hl 0 rfl) ?_
  have hPc := hP.sub (ws' := []) [] rfl
  have hDc := hD.sub (ws' := []) [] (by decide) rfl
  have hFc := va_free (wc := []) hD hS hA [] rfl
  refine q_ci (wr := []) (va_runS (As := [.ref (g.2.2 23), .int 115, .int 0, .int 5]) (rest := []) ⟨hx, hb, hml, hown, htg⟩ (c_idxChar_s l hfl g   H.size) ⟨(qB htg k461 k78 k459 ok_J1_indexOfChar_4cfef rfl rfl ⟨Nat.le_of_ble_eq_true rfl, Nat.le_of_ble_eq_true rfl⟩), htg _ k460⟩ (q_pre [.ref (g.2.2 23), .int 115, .int 0, .int 5] hPc hDc hK hS hT hFc) rfl rfl hl.1 rfl (lv_room (Nat.le_of_ble_eq_true rfl)) dJ1_indexOf_4cfef_33 ⟨Nat.le_of_ble_eq_true rfl, Nat.le_of_ble_eq_true rfl⟩) hP hD hS hFc [] [] rfl rfl (by decide) (by decide) (fun r9 u9 H locs hw hP hD hS => ?_)
  try dsimp only at hw
  rcases hw with ⟨rfl, rfl⟩
  have hP : va_P g.1 CLS [] H := hP
  have hD : va_D A [] := hD
  refine W.widen (k := 0) (n := 0) (Nat.le_of_ble_eq_true rfl) (Nat.le_of_ble_eq_true rfl) ?_
  have hP9 := hP.sub (ws' := []) [] rfl
  have hD9 := hD.sub (ws' := []) [] (by decide) rfl
  refine W.widen (k := 0) (n := 0) (Nat.le_of_ble_eq_true rfl) (Nat.le_of_ble_eq_true rfl) ?_
  exact W.iret (v := 3) hx hb hr (fun t ht hW => ⟨⟨3, [], rfl, ⟨rfl, rfl⟩, by rw [ht]; exact hP9, va_K.moved hW.alike hK, hD9⟩, hS.F ht⟩) hS.2.2 dJ1_indexOf_4cfef_36

set_option maxHeartbeats 4000000 in
set_option maxRecDepth 100000 in
theorem c_idx2_s (l : Launch) (hfl : l.stackTraces = false) (g : GP)   : CI l yJ0_indexOf_7cf53 (wG yJ0_indexOf_7cf53 cJ0_indexOf_7cf53 3 (Option.some Jvm.ClassFile.FieldType.int)) (LV 3 0 0) g [.ref (g.2.2 13), .int 115, .int 0] ([]) (fun (r : Int32) (u : va_W) => r = 3 ∧ u = []) := by
  intro sz
  refine Met.ofW (cc := cJ0_indexOf_7cf53) (maxL := 3) (ret := (Option.some Jvm.ClassFile.FieldType.int)) (by decide) rfl ?_
  intro p e s m args below meth c s₁ B hml hv
  obtain ⟨rfl, hsz, hP, hK, hD0, hT0⟩ := hv
  have hx := B.exec
  have hb := B.bytes
  have hr := B.returns
  have hts := atoms_spec (ws := (wG yJ0_indexOf_7cf53 cJ0_indexOf_7cf53 3 (Option.some Jvm.ClassFile.FieldType.int))) B.pre
  have htg : ∀ w ∈ G9, w.before _ s = true := fun w h => hts w (List.mem_cons_of_mem _ h)
  have hown : s.vm.findClass "java/lang/String" = some m.cls := findClass_of_methodNamed B.named
  have hlocks := B.notSynchronized
  subst hsz
  have hD := hD0.self (sz := s.heap.size)
  have hT := hT0
  clear hT0
  generalize hAe : va_A [] s.heap.size = A at hD hT ⊢
  have hA : ∀ q : Nat, s.heap.size ≤ q → A q := fun q h => by rw [← hAe]; exact Or.inr h
  obtain ⟨H, hH0⟩ : ∃ H, H = s.heap := ⟨_, rfl⟩
  have hS : va_S A s.heap H [] := by rw [hH0]; exact va_S.rf
  have hP : va_P g.1 CLS [] H := by rw [hH0]; exact hP
  rw [← hH0]
  have hl := lv_entry ([.ref (g.2.2 13), .int 115, .int 0]) (n := 3) (Nat.le_of_ble_eq_true rfl)
  rw [lg_entry_eq]
  generalize (lg_sl ([.ref (g.2.2 13), .int 115, .int 0]) ++ List.replicate (3 - (lg_sl ([.ref (g.2.2 13), .int 115, .int 0])).length) Slot.unset).toArray = ls at hl ⊢
  have hl : lv_has ls 3 [(0, .ref (g.2.2 13)), (1, .int 115), (2, .int 0)] := hl
  refine lv_aload_n hx hb dJ0_indexOf_7cf53_0 rfl (lv_at hl 0 rfl) ?_
  have hPc := hP.sub (ws' := []) [] rfl
  have hDc := hD.sub (ws' := []) [] (by decide) rfl
  have hFc := va_free (wc := []) hD hS hA [] rfl
  refine q_ci (wr := []) (va_runV (As := []) (rest := []) ⟨hx, hb, hml, hown, htg⟩ (c_isLatin1 l hfl g   H.size) ⟨(qB htg k436 k77 k433 ok_J0_isLatin1_aae02 rfl rfl ⟨Nat.le_of_ble_eq_true rfl, Nat.le_of_ble_eq_true rfl⟩), htg _ k434, htg _ k435⟩ ⟨(q_pre [.ref (g.2.2 13)] hPc hDc hK hS hT hFc).1, va_Orecv (hT.2.2.1.2.1) hS, (q_pre [.ref (g.2.2 13)] hPc hDc hK hS hT hFc).2⟩ rfl rfl hl.1 rfl (lv_room (Nat.le_of_ble_eq_true rfl)) dJ0_indexOf_7cf53_1 ⟨Nat.le_of_ble_eq_true rfl, Nat.le_of_ble_eq_true rfl⟩) hP hD hS hFc [] [] rfl rfl (by decide) (by decide) (fun r9 u9 H locs hw hP hD hS => ?_)
  try dsimp only at hw
  rcases hw with ⟨rfl, rfl⟩
  have hP : va_P g.1 CLS [] H := hP
  have hD : va_D A [] := hD
  refine W.widen (k := 0) (n := 0) (Nat.le_of_ble_eq_true rfl) (Nat.le_of_ble_eq_true rfl) ?_
  refine lv_if_eq (tgt := 23) hx hb dJ0_indexOf_7cf53_4 (by decide) (fun c_1 => absurd c_1 (by decide)) (fun c_1 => ?_)
  refine lv_aload_n hx hb dJ0_indexOf_7cf53_7 rfl (lv_at hl 0 rfl) ?_
  refine vk_getf (v := .ref (g.2.2 23)) hx hb (hT.2.2.1.2.2.2.1) hS hown (htg _ k2089) (fun _ h9 => h9) dJ0_indexOf_7cf53_8 ?_
  refine lv_iload_n hx hb dJ0_indexOf_7cf53_11 rfl (lv_at hl 1 rfl) ?_
  refine lv_iload_n hx hb dJ0_indexOf_7cf53_12 rfl (lv_at hl 2 rfl) ?_
  refine lv_aload_n hx hb dJ0_indexOf_7cf53_13 rfl (lv_at hl 0 rfl) ?_
  have hPc := hP.sub (ws' := []) [] rfl
  have hDc := hD.sub (ws' := []) [] (by decide) rfl
  have hFc := va_free (wc := []) hD hS hA [] rfl
  refine q_ci (wr := []) (va_runV (As := []) (rest := [.int 0, .int 115, .ref (g.2.2 23)]) ⟨hx, hb, hml, hown, htg⟩ (c_length l hfl g   H.size) ⟨(qB htg k442 k77 k439 ok_J0_length_8abf5 rfl rfl ⟨Nat.le_of_ble_eq_true rfl, Nat.le_of_ble_eq_true rfl⟩), htg _ k440, htg _ k441⟩ ⟨(q_pre [.ref (g.2.2 13)] hPc hDc hK hS hT hFc).1, va_Orecv (hT.2.2.1.2.1) hS, (q_pre [.ref (g.2.2 13)] hPc hDc hK hS hT hFc).2⟩ rfl rfl hl.1 rfl (lv_room (Nat.le_of_ble_eq_true rfl)) dJ0_indexOf_7cf53_14 ⟨Nat.le_of_ble_eq_true rfl, Nat.le_of_ble_eq_true rfl⟩) hP hD hS hFc [] [] rfl rfl (by decide) (by decide) (fun r9 u9 H locs hw hP hD hS => ?_)
  try dsimp only at hw
  rcases hw with ⟨rfl, rfl⟩
  have hP : va_P g.1 CLS [] H := hP
  have hD : va_D A [] := hD
  refine W.widen (k := 0) (n := 0) (Nat.le_of_ble_eq_true rfl) (Nat.le_of_ble_eq_true rfl) ?_
  have hPc := hP.sub (ws' := []) [] rfl
  have hDc := hD.sub (ws' := []) [] (by decide) rfl
  have hFc := va_free (wc := []) hD hS hA [] rfl
  refine q_ci (wr := []) (va_runS (As := [.ref (g.2.2 23), .int 115, .int 0, .int 5]) (rest := []) ⟨hx, hb, hml, hown, htg⟩ (c_idx4_s l hfl g   H.size) ⟨(qB htg k449 k78 k447 ok_J1_indexOf_4cfef rfl rfl ⟨Nat.le_of_ble_eq_true rfl, Nat.le_of_ble_eq_true rfl⟩), htg _ k448⟩ (q_pre [.ref (g.2.2 23), .int 115, .int 0, .int 5] hPc hDc hK hS hT hFc) rfl rfl hl.1 rfl (lv_room (Nat.le_of_ble_eq_true rfl)) dJ0_indexOf_7cf53_17 ⟨Nat.le_of_ble_eq_true rfl, Nat.le_of_ble_eq_true rfl⟩) hP hD hS hFc [] [] rfl rfl (by decide) (by decide) (fun r9 u9 H locs hw hP hD hS => ?_)
  try dsimp only at hw
  rcases hw with ⟨rfl, rfl⟩
  have hP : va_P g.1 CLS [] H := hP
  have hD : va_D A [] := hD
  refine W.widen (k := 0) (n := 0) (Nat.le_of_ble_eq_true rfl) (Nat.le_of_ble_eq_true rfl) ?_
  refine lv_goto (tgt := 36) hx hb dJ0_indexOf_7cf53_20 (by decide) ?_
  have hP9 := hP.sub (ws' := []) [] rfl
  have hD9 := hD.sub (ws' := []) [] (by decide) rfl
  refine W.widen (k := 0) (n := 0) (Nat.le_of_ble_eq_true rfl) (Nat.le_of_ble_eq_true rfl) ?_
  exact W.iret (v := 3) hx hb hr (fun t ht hW => ⟨⟨3, [], rfl, ⟨rfl, rfl⟩, by rw [ht]; exact hP9, va_K.moved hW.alike hK, hD9⟩, hS.F ht⟩) hS.2.2 dJ0_indexOf_7cf53_36

set_option maxHeartbeats 4000000 in
set_option maxRecDepth 100000 in
theorem c_idx1_s (l : Launch) (hfl : l.stackTraces = false) (g : GP)   : CI l yJ0_indexOf_0f7a4 (wG yJ0_indexOf_0f7a4 cJ0_indexOf_0f7a4 2 (Option.some Jvm.ClassFile.FieldType.int)) (LV 4 0 0) g [.ref (g.2.2 13), .int 115] ([]) (fun (r : Int32) (u : va_W) => r = 3 ∧ u = []) := by
  intro sz
  refine Met.ofW (cc := cJ0_indexOf_0f7a4) (maxL := 2) (ret := (Option.some Jvm.ClassFile.FieldType.int)) (by decide) rfl ?_
  intro p e s m args below meth c s₁ B hml hv
  obtain ⟨rfl, hsz, hP, hK, hD0, hT0⟩ := hv
  have hx := B.exec
  have hb := B.bytes
  have hr := B.returns
  have hts := atoms_spec (ws := (wG yJ0_indexOf_0f7a4 cJ0_indexOf_0f7a4 2 (Option.some Jvm.ClassFile.FieldType.int))) B.pre
  have htg : ∀ w ∈ G9, w.before _ s = true := fun w h => hts w (List.mem_cons_of_mem _ h)
  have hown : s.vm.findClass "java/lang/String" = some m.cls := findClass_of_methodNamed B.named
  have hlocks := B.notSynchronized
  subst hsz
  have hD := hD0.self (sz := s.heap.size)
  have hT := hT0
  clear hT0
  generalize hAe : va_A [] s.heap.size = A at hD hT ⊢
  have hA : ∀ q : Nat, s.heap.size ≤ q → A q := fun q h => by rw [← hAe]; exact Or.inr h
  obtain ⟨H, hH0⟩ : ∃ H, H = s.heap := ⟨_, rfl⟩
  have hS : va_S A s.heap H [] := by rw [hH0]; exact va_S.rf
  have hP : va_P g.1 CLS [] H := by rw [hH0]; exact hP
  rw [← hH0]
  have hl := lv_entry ([.ref (g.2.2 13), .int 115]) (n := 2) (Nat.le_of_ble_eq_true rfl)
  rw [lg_entry_eq]
  generalize (lg_sl ([.ref (g.2.2 13), .int 115]) ++ List.replicate (2 - (lg_sl ([.ref (g.2.2 13), .int 115])).length) Slot.unset).toArray = ls at hl ⊢
  have hl : lv_has ls 2 [(0, .ref (g.2.2 13)), (1, .int 115)] := hl
  refine lv_aload_n hx hb dJ0_indexOf_0f7a4_0 rfl (lv_at hl 0 rfl) ?_
  refine lv_iload_n hx hb dJ0_indexOf_0f7a4_1 rfl (lv_at hl 1 rfl) ?_
  refine lv_iconst (v := 0) hx hb dJ0_indexOf_0f7a4_2 (by decide) ?_
  have hPc := hP.sub (ws' := []) [] rfl
  have hDc := hD.sub (ws' := []) [] (by decide) rfl
  have hFc := va_free (wc := []) hD hS hA [] rfl
  refine q_ci (wr := []) (va_runV (As := [.int 115, .int 0]) (rest := []) ⟨hx, hb, hml, hown, htg⟩ (c_idx2_s l hfl g   H.size) ⟨(qB htg k432 k77 k429 ok_J0_indexOf_7cf53 rfl rfl ⟨Nat.le_of_ble_eq_true rfl, Nat.le_of_ble_eq_true rfl⟩), htg _ k430, htg _ k431⟩ ⟨(q_pre [.ref (g.2.2 13), .int 115, .int 0] hPc hDc hK hS hT hFc).1, va_Orecv (hT.2.2.1.2.1) hS, (q_pre [.ref (g.2.2 13), .int 115, .int 0] hPc hDc hK hS hT hFc).2⟩ rfl rfl hl.1 rfl (lv_room (Nat.le_of_ble_eq_true rfl)) dJ0_indexOf_0f7a4_3 ⟨Nat.le_of_ble_eq_true rfl, Nat.le_of_ble_eq_true rfl⟩) hP hD hS hFc [] [] rfl rfl (by decide) (by decide) (fun r9 u9 H locs hw hP hD hS => ?_)
  try dsimp only at hw
  rcases hw with ⟨rfl, rfl⟩
  have hP : va_P g.1 CLS [] H := hP
  have hD : va_D A [] := hD
  refine W.widen (k := 0) (n := 0) (Nat.le_of_ble_eq_true rfl) (Nat.le_of_ble_eq_true rfl) ?_
  have hP9 := hP.sub (ws' := []) [] rfl
  have hD9 := hD.sub (ws' := []) [] (by decide) rfl
  refine W.widen (k := 0) (n := 0) (Nat.le_of_ble_eq_true rfl) (Nat.le_of_ble_eq_true rfl) ?_
  exact W.iret (v := 3) hx hb hr (fun t ht hW => ⟨⟨3, [], rfl, ⟨rfl, rfl⟩, by rw [ht]; exact hP9, va_K.moved hW.alike hK, hD9⟩, hS.F ht⟩) hS.2.2 dJ0_indexOf_0f7a4_6

set_option maxHeartbeats 4000000 in
set_option maxRecDepth 100000 in
theorem c_Itr_init (l : Launch) (hfl : l.stackTraces = false) (g : GP) (z0 : Nat)  : CV l yJx35411_init_45d68 (wG yJx35411_init_45d68 cJx35411_init_45d68 2 (Option.none : Option Jvm.ClassFile.FieldType)) (LV 2 0 0) g [.ref z0, .ref (g.2.2 2002)] ([(z0, .inr (0, [.int 0, .int 0, .int 0, .null]))]) (fun (u : va_W) => u = [(z0, .inr (0, [.int 0, .int (-1), .int (nI (g.2.2 2012)), .ref (g.2.2 2002)]))]) := by
  intro sz
  refine Met.ofW (cc := cJx35411_init_45d68) (maxL := 2) (ret := (Option.none : Option Jvm.ClassFile.FieldType)) (by decide) rfl ?_
  intro p e s m args below meth c s₁ B hml hv
  obtain ⟨rfl, hsz, hP, hK, hD0, hT0⟩ := hv
  have hx := B.exec
  have hb := B.bytes
  have hr := B.returns
  have hts := atoms_spec (ws := (wG yJx35411_init_45d68 cJx35411_init_45d68 2 (Option.none : Option Jvm.ClassFile.FieldType))) B.pre
  have htg : ∀ w ∈ G9, w.before _ s = true := fun w h => hts w (List.mem_cons_of_mem _ h)
  have hown : s.vm.findClass "java/util/ArrayList$Itr" = some m.cls := findClass_of_methodNamed B.named
  have hlocks := B.notSynchronized
  have hin : meth.name = "<init>" := (name_of_methodNamed B.named B.method).1
  subst hsz
  have hD := hD0.self (sz := s.heap.size)
  have hT := hT0
  clear hT0
  generalize hAe : va_A [(z0, .inr (0, [.int 0, .int 0, .int 0, .null]))] s.heap.size = A at hD hT ⊢
  have hA : ∀ q : Nat, s.heap.size ≤ q → A q := fun q h => by rw [← hAe]; exact Or.inr h
  obtain ⟨H, hH0⟩ : ∃ H, H = s.heap := ⟨_, rfl⟩
  have hS : va_S A s.heap H [] := by rw [hH0]; exact va_S.rf
  have hP : va_P g.1 CLS [(z0, .inr (0, [.int 0, .int 0, .int 0, .null]))] H := by rw [hH0]; exact hP
  rw [← hH0]
  have hl := lv_entry ([.ref z0, .ref (g.2.2 2002)]) (n := 2) (Nat.le_of_ble_eq_true rfl)
  rw [lg_entry_eq]
  generalize (lg_sl ([.ref z0, .ref (g.2.2 2002)]) ++ List.replicate (2 - (lg_sl ([.ref z0, .ref (g.2.2 2002)])).length) Slot.unset).toArray = ls at hl ⊢
  have hl : lv_has ls 2 [(0, .ref z0), (1, .ref (g.2.2 2002))] := hl
  refine lv_aload_n hx hb dJx35411_init_45d68_0 rfl (lv_at hl 0 rfl) ?_
  refine lv_aload_n hx hb dJx35411_init_45d68_1 rfl (lv_at hl 1 rfl) ?_
  refine va_putF (D := g.1) (ci := 0) (v := .ref (g.2.2 2002)) (ty := (.object "java/util/ArrayList")) (C := RJx35411) (T := TJx35411) (N := 4) hx hb htg inG_Jx35411 tyJx35411 tyJx35411_ok nmJx35411 hown hK hP hD hS 0 rfl rfl 3 (by decide) (htg _ k1436) (fun _ h9 => h9) rfl hin rfl (by decide +kernel) rfl rfl (Nat.le_of_ble_eq_true rfl) dJx35411_init_45d68_2 (fun H locs hP hD hS => ?_)
  have hP : va_P g.1 CLS [(z0, .inr (0, [.int 0, .int 0, .int 0, .ref (g.2.2 2002)]))] H := hP
  have hD : va_D A [(z0, .inr (0, [.int 0, .int 0, .int 0, .ref (g.2.2 2002)]))] := hD
  refine lv_aload_n hx hb dJx35411_init_45d68_5 rfl (lv_at hl 0 rfl) ?_
  refine W.objInit hx hb hown (htg _ k1432) (htg _ k98) (htg _ k99) rfl (by rw [hml]; exact hl.1) rfl dJx35411_init_45d68_6 (Nat.le_of_ble_eq_true rfl) (Nat.le_of_ble_eq_true rfl) ?_
  refine W.eq (g2 := F0 m 9 ls []) rfl ?_
  refine lv_aload_n hx hb dJx35411_init_45d68_9 rfl (lv_at hl 0 rfl) ?_
  refine lv_iconst (v := (-1)) hx hb dJx35411_init_45d68_10 (by decide) ?_
  refine va_put (D := g.1) (ci := 0) (v := .int (-1)) (ty := .int) (C := RJx35411) (T := TJx35411) (N := 4) hx hb htg inG_Jx35411 tyJx35411 tyJx35411_ok nmJx35411 hown hK hP hD hS 0 rfl rfl 1 (by decide) (htg _ k1434) (fun _ h9 => h9) rfl (by decide +kernel) rfl rfl (Nat.le_of_ble_eq_true rfl) dJx35411_init_45d68_11 (fun H locs hP hD hS => ?_)
  have hP : va_P g.1 CLS [(z0, .inr (0, [.int 0, .int (-1), .int 0, .ref (g.2.2 2002)]))] H := hP
  have hD : va_D A [(z0, .inr (0, [.int 0, .int (-1), .int 0, .ref (g.2.2 2002)]))] := hD
  refine lv_aload_n hx hb dJx35411_init_45d68_14 rfl (lv_at hl 0 rfl) ?_
  refine lv_aload_n hx hb dJx35411_init_45d68_15 rfl (lv_at hl 0 rfl) ?_
  refine va_get (D := g.1) (ci := 0) (v := .ref (g.2.2 2002)) (C := RJx35411) (T := TJx35411) (N := 4) hx hb htg inG_Jx35411 hown hK hP 0 rfl rfl 3 (by decide) (htg _ k1436) (fun _ h9 => h9) rfl dJx35411_init_45d68_16 ?_
  refine vk_getf (v := .int (nI (g.2.2 2012))) hx hb (hT.2.2.2.2.1.2.2.2.1) hS hown (htg _ k1312) (fun _ h9 => h9) dJx35411_init_45d68_19 ?_
  refine va_put (D := g.1) (ci := 0) (v := .int (nI (g.2.2 2012))) (ty := .int) (C := RJx35411) (T := TJx35411) (N := 4) hx hb htg inG_Jx35411 tyJx35411 tyJx35411_ok nmJx35411 hown hK hP hD hS 0 rfl rfl 2 (by decide) (htg _ k1435) (fun _ h9 => h9) rfl (by decide +kernel) rfl rfl (Nat.le_of_ble_eq_true rfl) dJx35411_init_45d68_22 (fun H locs hP hD hS => ?_)
  have hP : va_P g.1 CLS [(z0, .inr (0, [.int 0, .int (-1), .int (nI (g.2.2 2012)), .ref (g.2.2 2002)]))] H := hP
  have hD : va_D A [(z0, .inr (0, [.int 0, .int (-1), .int (nI (g.2.2 2012)), .ref (g.2.2 2002)]))] := hD
  have hP9 := hP.sub (ws' := [(z0, .inr (0, [.int 0, .int (-1), .int (nI (g.2.2 2012)), .ref (g.2.2 2002)]))]) [0] rfl
  have hD9 := hD.sub (ws' := [(z0, .inr (0, [.int 0, .int (-1), .int (nI (g.2.2 2012)), .ref (g.2.2 2002)]))]) [0] (by decide) rfl
  refine W.widen (k := 0) (n := 0) (Nat.le_of_ble_eq_true rfl) (Nat.le_of_ble_eq_true rfl) ?_
  exact W.vret hx hb hr (fun t ht hW => ⟨⟨[(z0, .inr (0, [.int 0, .int (-1), .int (nI (g.2.2 2012)), .ref (g.2.2 2002)]))], rfl, rfl, by rw [ht]; exact hP9, va_K.moved hW.alike hK, hD9⟩, hS.F ht⟩) hS.2.2 dJx35411_init_45d68_25

set_option maxHeartbeats 4000000 in
set_option maxRecDepth 100000 in
theorem c_iterator (l : Launch) (hfl : l.stackTraces = false) (g : GP)   : CQ l yJx4a65c_iterator_32c93 (wG yJx4a65c_iterator_32c93 cJx4a65c_iterator_32c93 1 (Option.some (Jvm.ClassFile.FieldType.object "java/util/Iterator"))) (LV 3 1 4) g [.ref (g.2.2 2002)] ([]) (fun (r : Option Nat) (u : va_W) => ∃ (q1 : Nat), r = some q1 ∧ u = [(q1, .inr (0, [.int 0, .int (-1), .int (nI (g.2.2 2012)), .ref (g.2.2 2002)]))]) := by
  intro sz
  refine Met.ofW (cc := cJx4a65c_iterator_32c93) (maxL := 1) (ret := (Option.some (Jvm.ClassFile.FieldType.object "java/util/Iterator"))) (by decide) rfl ?_
  intro p e s m args below meth c s₁ B hml hv
  obtain ⟨rfl, hsz, hP, hK, hD0, hT0⟩ := hv
  have hx := B.exec
  have hb := B.bytes
  have hr := B.returns
  have hts := atoms_spec (ws := (wG yJx4a65c_iterator_32c93 cJx4a65c_iterator_32c93 1 (Option.some (Jvm.ClassFile.FieldType.object "java/util/Iterator")))) B.pre
  have htg : ∀ w ∈ G9, w.before _ s = true := fun w h => hts w (List.mem_cons_of_mem _ h)
  have hown : s.vm.findClass "java/util/ArrayList" = some m.cls := findClass_of_methodNamed B.named
  have hlocks := B.notSynchronized
  subst hsz
  have hD := hD0.self (sz := s.heap.size)
  have hT := hT0
  clear hT0
  generalize hAe : va_A [] s.heap.size = A at hD hT ⊢
  have hA : ∀ q : Nat, s.heap.size ≤ q → A q := fun q h => by rw [← hAe]; exact Or.inr h
  obtain ⟨H, hH0⟩ : ∃ H, H = s.heap := ⟨_, rfl⟩
  have hS : va_S A s.heap H [] := by rw [hH0]; exact va_S.rf
  have hP : va_P g.1 CLS [] H := by rw [hH0]; exact hP
  rw [← hH0]
  have hl := lv_entry ([.ref (g.2.2 2002)]) (n := 1) (Nat.le_of_ble_eq_true rfl)
  rw [lg_entry_eq]
  generalize (lg_sl ([.ref (g.2.2 2002)]) ++ List.replicate (1 - (lg_sl ([.ref (g.2.2 2002)])).length) Slot.unset).toArray = ls at hl ⊢
  have hl : lv_has ls 1 [(0, .ref (g.2.2 2002))] := hl
  refine va_new (ci := 0) (fs := [.int 0, .int 0, .int 0, .null]) (C := RJx35411) (T := TJx35411) (N := 4) hx hb htg inG_Jx35411 tyJx35411 tyJx35411_ok hown (htg _ k1427) (htg _ k1428) (htg _ k73) hK hP hD hS hA rfl (by decide) (Nat.le_of_ble_eq_true rfl) (Nat.le_of_ble_eq_true rfl) dJx4a65c_iterator_32c93_0 (fun q_1 H hP hD hS => ?_)
  have hP : va_P g.1 CLS [(q_1, .inr (0, [.int 0, .int 0, .int 0, .null]))] H := hP
  have hD : va_D A [(q_1, .inr (0, [.int 0, .int 0, .int 0, .null]))] := hD
  refine W.widen (k := 1) (n := 4) (Nat.le_of_ble_eq_true rfl) (Nat.le_of_ble_eq_true rfl) ?_
  refine lv_dup hx hb dJx4a65c_iterator_32c93_3 rfl ?_
  refine lv_aload_n hx hb dJx4a65c_iterator_32c93_4 rfl (lv_at hl 0 rfl) ?_
  have hPc := hP.sub (ws' := [(q_1, .inr (0, [.int 0, .int 0, .int 0, .null]))]) [0] rfl
  have hDc := hD.sub (ws' := [(q_1, .inr (0, [.int 0, .int 0, .int 0, .null]))]) [0] (by decide) rfl
  have hFc := va_free (wc := [(q_1, .inr (0, [.int 0, .int 0, .int 0, .null]))]) hD hS hA [0] rfl
  refine q_cv (wr := []) (va_runI (As := [.ref (g.2.2 2002)]) (rest := [.ref q_1]) ⟨hx, hb, hml, hown, htg⟩ (c_Itr_init l hfl g q_1  H.size) ⟨(qB htg k1431 k73 k1429 ok_Jx35411_init_45d68 rfl rfl ⟨Nat.le_of_ble_eq_true rfl, Nat.le_of_ble_eq_true rfl⟩), rfl, htg _ k1430⟩ (q_pre [.ref q_1, .ref (g.2.2 2002)] hPc hDc hK hS hT hFc) rfl rfl hl.1 rfl (lv_room (Nat.le_of_ble_eq_true rfl)) dJx4a65c_iterator_32c93_5 ⟨Nat.le_of_ble_eq_true rfl, Nat.le_of_ble_eq_true rfl⟩) hP hD hS hFc [0] [] rfl rfl (by decide) (by decide) (fun u9 H locs hw hP hD hS => ?_)
  try dsimp only at hw
  rcases hw with rfl
  have hP : va_P g.1 CLS [(q_1, .inr (0, [.int 0, .int (-1), .int (nI (g.2.2 2012)), .ref (g.2.2 2002)]))] H := hP
  have hD : va_D A [(q_1, .inr (0, [.int 0, .int (-1), .int (nI (g.2.2 2012)), .ref (g.2.2 2002)]))] := hD
  refine W.widen (k := 1) (n := 4) (Nat.le_of_ble_eq_true rfl) (Nat.le_of_ble_eq_true rfl) ?_
  have hP9 := hP.sub (ws' := [(q_1, .inr (0, [.int 0, .int (-1), .int (nI (g.2.2 2012)), .ref (g.2.2 2002)]))]) [0] rfl
  have hD9 := hD.sub (ws' := [(q_1, .inr (0, [.int 0, .int (-1), .int (nI (g.2.2 2012)), .ref (g.2.2 2002)]))]) [0] (by decide) rfl
  refine W.widen (k := 1) (n := 4) (Nat.le_of_ble_eq_true rfl) (Nat.le_of_ble_eq_true rfl) ?_
  exact W.aret (v := .ref q_1) hx hb hr (Or.inl ⟨_, rfl⟩) (Or.inr ⟨_, rfl⟩) (fun t ht hW => ⟨⟨some q_1, [(q_1, .inr (0, [.int 0, .int (-1), .int (nI (g.2.2 2012)), .ref (g.2.2 2002)]))], rfl, ⟨q_1, rfl, rfl⟩, by rw [ht]; exact hP9, va_K.moved hW.alike hK, hD9⟩, hS.F ht⟩) hS.2.2 dJx4a65c_iterator_32c93_8

set_option maxHeartbeats 4000000 in
set_option maxRecDepth 100000 in
theorem c_hasNext1 (l : Launch) (hfl : l.stackTraces = false) (g : GP) (z0 : Nat) (k1 : Nat) (n1 : Int32) (hk : k1 < g.2.2 2010) : CI l yJx35411_hasNext_aae02 (wG yJx35411_hasNext_aae02 cJx35411_hasNext_aae02 1 (Option.some Jvm.ClassFile.FieldType.boolean)) (LV 1 0 0) g [.ref z0] ([(z0, .inr (0, [.int (nI k1), .int n1, .int (nI (g.2.2 2012)), .ref (g.2.2 2002)]))]) (fun (r : Int32) (u : va_W) => r = 1 ∧ u = [(z0, .inr (0, [.int (nI k1), .int n1, .int (nI (g.2.2 2012)), .ref (g.2.2 2002)]))]) := by
  intro sz
  refine Met.ofW (cc := cJx35411_hasNext_aae02) (maxL := 1) (ret := (Option.some Jvm.ClassFile.FieldType.boolean)) (by decide) rfl ?_
  intro p e s m args below meth c s₁ B hml hv
  obtain ⟨rfl, hsz, hP, hK, hD0, hT0⟩ := hv
  have hx := B.exec
  have hb := B.bytes
  have hr := B.returns
  have hts := atoms_spec (ws := (wG yJx35411_hasNext_aae02 cJx35411_hasNext_aae02 1 (Option.some Jvm.ClassFile.FieldType.boolean))) B.pre
  have htg : ∀ w ∈ G9, w.before _ s = true := fun w h => hts w (List.mem_cons_of_mem _ h)
  have hown : s.vm.findClass "java/util/ArrayList$Itr" = some m.cls := findClass_of_methodNamed B.named
  have hlocks := B.notSynchronized
  subst hsz
  have hD := hD0.self (sz := s.heap.size)
  have hT := hT0
  clear hT0
  generalize hAe : va_A [(z0, .inr (0, [.int (nI k1), .int n1, .int (nI (g.2.2 2012)), .ref (g.2.2 2002)]))] s.heap.size = A at hD hT ⊢
  have hA : ∀ q : Nat, s.heap.size ≤ q → A q := fun q h => by rw [← hAe]; exact Or.inr h
  obtain ⟨H, hH0⟩ : ∃ H, H = s.heap := ⟨_, rfl⟩
  have hS : va_S A s.heap H [] := by rw [hH0]; exact va_S.rf
  have hP : va_P g.1 CLS [(z0, .inr (0, [.int (nI k1), .int n1, .int (nI (g.2.2 2012)), .ref (g.2.2 2002)]))] H := by rw [hH0]; exact hP
  rw [← hH0]
  have hl := lv_entry ([.ref z0]) (n := 1) (Nat.le_of_ble_eq_true rfl)
  rw [lg_entry_eq]
  generalize (lg_sl ([.ref z0]) ++ List.replicate (1 - (lg_sl ([.ref z0])).length) Slot.unset).toArray = ls at hl ⊢
  have hl : lv_has ls 1 [(0, .ref z0)] := hl
  refine lv_aload_n hx hb dJx35411_hasNext_aae02_0 rfl (lv_at hl 0 rfl) ?_
  refine va_get (D := g.1) (ci := 0) (v := .int (nI k1)) (C := RJx35411) (T := TJx35411) (N := 4) hx hb htg inG_Jx35411 hown hK hP 0 rfl rfl 0 (by decide) (htg _ k1433) (fun _ h9 => h9) rfl dJx35411_hasNext_aae02_1 ?_
  refine lv_aload_n hx hb dJx35411_hasNext_aae02_4 rfl (lv_at hl 0 rfl) ?_
  refine va_get (D := g.1) (ci := 0) (v := .ref (g.2.2 2002)) (C := RJx35411) (T := TJx35411) (N := 4) hx hb htg inG_Jx35411 hown hK hP 0 rfl rfl 3 (by decide) (htg _ k1436) (fun _ h9 => h9) rfl dJx35411_hasNext_aae02_5 ?_
  refine q_getfN (v := .int (nI (g.2.2 2010))) hx hb (hT.2.2.2.2.1.2.1) hS hown (va_Nw.use rfl (hT.1.1 _ (List.mem_of_getElem? (i := 0) rfl))) (fun _ h9 => h9) dJx35411_hasNext_aae02_8 ?_
  refine lv_icmp_eq (tgt := 18) hx hb dJx35411_hasNext_aae02_11 (by decide) (fun c_1 => absurd c_1 (q_ne hk (Nat.lt_trans hT.2.2.2.2.2.2.2.2.1 (by decide)))) (fun c_1 => ?_)
  refine lv_iconst (v := 1) hx hb dJx35411_hasNext_aae02_14 (by decide) ?_
  refine lv_goto (tgt := 19) hx hb dJx35411_hasNext_aae02_15 (by decide) ?_
  have hP9 := hP.sub (ws' := [(z0, .inr (0, [.int (nI k1), .int n1, .int (nI (g.2.2 2012)), .ref (g.2.2 2002)]))]) [0] rfl
  have hD9 := hD.sub (ws' := [(z0, .inr (0, [.int (nI k1), .int n1, .int (nI (g.2.2 2012)), .ref (g.2.2 2002)]))]) [0] (by decide) rfl
  refine W.widen (k := 0) (n := 0) (Nat.le_of_ble_eq_true rfl) (Nat.le_of_ble_eq_true rfl) ?_
  exact W.zret (v := 1) hx hb hr rfl (fun t ht hW => ⟨⟨1, [(z0, .inr (0, [.int (nI k1), .int n1, .int (nI (g.2.2 2012)), .ref (g.2.2 2002)]))], rfl, ⟨rfl, rfl⟩, by rw [ht]; exact hP9, va_K.moved hW.alike hK, hD9⟩, hS.F ht⟩) hS.2.2 dJx35411_hasNext_aae02_19

set_option maxHeartbeats 4000000 in
set_option maxRecDepth 100000 in
theorem c_hasNext0 (l : Launch) (hfl : l.stackTraces = false) (g : GP) (z0 : Nat) (n1 : Int32)  : CI l yJx35411_hasNext_aae02 (wG yJx35411_hasNext_aae02 cJx35411_hasNext_aae02 1 (Option.some Jvm.ClassFile.FieldType.boolean)) (LV 1 0 0) g [.ref z0] ([(z0, .inr (0, [.int (nI (g.2.2 2010)), .int n1, .int (nI (g.2.2 2012)), .ref (g.2.2 2002)]))]) (fun (r : Int32) (u : va_W) => r = 0 ∧ u = [(z0, .inr (0, [.int (nI (g.2.2 2010)), .int n1, .int (nI (g.2.2 2012)), .ref (g.2.2 2002)]))]) := by
  intro sz
  refine Met.ofW (cc := cJx35411_hasNext_aae02) (maxL := 1) (ret := (Option.some Jvm.ClassFile.FieldType.boolean)) (by decide) rfl ?_
  intro p e s m args below meth c s₁ B hml hv
  obtain ⟨rfl, hsz, hP, hK, hD0, hT0⟩ := hv
  have hx := B.exec
  have hb := B.bytes
  have hr := B.returns
  have hts := atoms_spec (ws := (wG yJx35411_hasNext_aae02 cJx35411_hasNext_aae02 1 (Option.some Jvm.ClassFile.FieldType.boolean))) B.pre
  have htg : ∀ w ∈ G9, w.before _ s = true := fun w h => hts w (List.mem_cons_of_mem _ h)
  have hown : s.vm.findClass "java/util/ArrayList$Itr" = some m.cls := findClass_of_methodNamed B.named
  have hlocks := B.notSynchronized
  subst hsz
  have hD := hD0.self (sz := s.heap.size)
  have hT := hT0
  clear hT0
  generalize hAe : va_A [(z0, .inr (0, [.int (nI (g.2.2 2010)), .int n1, .int (nI (g.2.2 2012)), .ref (g.2.2 2002)]))] s.heap.size = A at hD hT ⊢
  have hA : ∀ q : Nat, s.heap.size ≤ q → A q := fun q h => by rw [← hAe]; exact Or.inr h
  obtain ⟨H, hH0⟩ : ∃ H, H = s.heap := ⟨_, rfl⟩
  have hS : va_S A s.heap H [] := by rw [hH0]; exact va_S.rf
  have hP : va_P g.1 CLS [(z0, .inr (0, [.int (nI (g.2.2 2010)), .int n1, .int (nI (g.2.2 2012)), .ref (g.2.2 2002)]))] H := by rw [hH0]; exact hP
  rw [← hH0]
  have hl := lv_entry ([.ref z0]) (n := 1) (Nat.le_of_ble_eq_true rfl)
  rw [lg_entry_eq]
  generalize (lg_sl ([.ref z0]) ++ List.replicate (1 - (lg_sl ([.ref z0])).length) Slot.unset).toArray = ls at hl ⊢
  have hl : lv_has ls 1 [(0, .ref z0)] := hl
  refine lv_aload_n hx hb dJx35411_hasNext_aae02_0 rfl (lv_at hl 0 rfl) ?_
  refine va_get (D := g.1) (ci := 0) (v := .int (nI (g.2.2 2010))) (C := RJx35411) (T := TJx35411) (N := 4) hx hb htg inG_Jx35411 hown hK hP 0 rfl rfl 0 (by decide) (htg _ k1433) (fun _ h9 => h9) rfl dJx35411_hasNext_aae02_1 ?_
  refine lv_aload_n hx hb dJx35411_hasNext_aae02_4 rfl (lv_at hl 0 rfl) ?_
  refine va_get (D := g.1) (ci := 0) (v := .ref (g.2.2 2002)) (C := RJx35411) (T := TJx35411) (N := 4) hx hb htg inG_Jx35411 hown hK hP 0 rfl rfl 3 (by decide) (htg _ k1436) (fun _ h9 => h9) rfl dJx35411_hasNext_aae02_5 ?_
  refine q_getfN (v := .int (nI (g.2.2 2010))) hx hb (hT.2.2.2.2.1.2.1) hS hown (va_Nw.use rfl (hT.1.1 _ (List.mem_of_getElem? (i := 0) rfl))) (fun _ h9 => h9) dJx35411_hasNext_aae02_8 ?_
  refine lv_icmp_eq (tgt := 18) hx hb dJx35411_hasNext_aae02_11 (by decide) (fun c_1 => ?_) (fun c_1 => absurd (rfl) c_1)
  refine lv_iconst (v := 0) hx hb dJx35411_hasNext_aae02_18 (by decide) ?_
  have hP9 := hP.sub (ws' := [(z0, .inr (0, [.int (nI (g.2.2 2010)), .int n1, .int (nI (g.2.2 2012)), .ref (g.2.2 2002)]))]) [0] rfl
  have hD9 := hD.sub (ws' := [(z0, .inr (0, [.int (nI (g.2.2 2010)), .int n1, .int (nI (g.2.2 2012)), .ref (g.2.2 2002)]))]) [0] (by decide) rfl
  refine W.widen (k := 0) (n := 0) (Nat.le_of_ble_eq_true rfl) (Nat.le_of_ble_eq_true rfl) ?_
  exact W.zret (v := 0) hx hb hr rfl (fun t ht hW => ⟨⟨0, [(z0, .inr (0, [.int (nI (g.2.2 2010)), .int n1, .int (nI (g.2.2 2012)), .ref (g.2.2 2002)]))], rfl, ⟨rfl, rfl⟩, by rw [ht]; exact hP9, va_K.moved hW.alike hK, hD9⟩, hS.F ht⟩) hS.2.2 dJx35411_hasNext_aae02_19

set_option maxHeartbeats 4000000 in
set_option maxRecDepth 100000 in
theorem c_coMod (l : Launch) (hfl : l.stackTraces = false) (g : GP) (z0 : Nat) (n0 : Int32) (n1 : Int32)  : CV l yJx35411_checkForComodification_da8c8 (wG yJx35411_checkForComodification_da8c8 cJx35411_checkForComodification_da8c8 1 (Option.none : Option Jvm.ClassFile.FieldType)) (LV 1 0 0) g [.ref z0] ([(z0, .inr (0, [.int n0, .int n1, .int (nI (g.2.2 2012)), .ref (g.2.2 2002)]))]) (fun (u : va_W) => u = [(z0, .inr (0, [.int n0, .int n1, .int (nI (g.2.2 2012)), .ref (g.2.2 2002)]))]) := by
  intro sz
  refine Met.ofW (cc := cJx35411_checkForComodification_da8c8) (maxL := 1) (ret := (Option.none : Option Jvm.ClassFile.FieldType)) (by decide) rfl ?_
  intro p e s m args below meth c s₁ B hml hv
  obtain ⟨rfl, hsz, hP, hK, hD0, hT0⟩ := hv
  have hx := B.exec
  have hb := B.bytes
  have hr := B.returns
  have hts := atoms_spec (ws := (wG yJx35411_checkForComodification_da8c8 cJx35411_checkForComodification_da8c8 1 (Option.none : Option Jvm.ClassFile.FieldType))) B.pre
  have htg : ∀ w ∈ G9, w.before _ s = true := fun w h => hts w (List.mem_cons_of_mem _ h)
  have hown : s.vm.findClass "java/util/ArrayList$Itr" = some m.cls := findClass_of_methodNamed B.named
  have hlocks := B.notSynchronized
  subst hsz
  have hD := hD0.self (sz := s.heap.size)
  have hT := hT0
  clear hT0
  generalize hAe : va_A [(z0, .inr (0, [.int n0, .int n1, .int (nI (g.2.2 2012)), .ref (g.2.2 2002)]))] s.heap.size = A at hD hT ⊢
  have hA : ∀ q : Nat, s.heap.size ≤ q → A q := fun q h => by rw [← hAe]; exact Or.inr h
  obtain ⟨H, hH0⟩ : ∃ H, H = s.heap := ⟨_, rfl⟩
  have hS : va_S A s.heap H [] := by rw [hH0]; exact va_S.rf
  have hP : va_P g.1 CLS [(z0, .inr (0, [.int n0, .int n1, .int (nI (g.2.2 2012)), .ref (g.2.2 2002)]))] H := by rw [hH0]; exact hP
  rw [← hH0]
  have hl := lv_entry ([.ref z0]) (n := 1) (Nat.le_of_ble_eq_true rfl)
  rw [lg_entry_eq]
  generalize (lg_sl ([.ref z0]) ++ List.replicate (1 - (lg_sl ([.ref z0])).length) Slot.unset).toArray = ls at hl ⊢
  have hl : lv_has ls 1 [(0, .ref z0)] := hl
  refine lv_aload_n hx hb dJx35411_checkForComodification_da8c8_0 rfl (lv_at hl 0 rfl) ?_
  refine va_get (D := g.1) (ci := 0) (v := .ref (g.2.2 2002)) (C := RJx35411) (T := TJx35411) (N := 4) hx hb htg inG_Jx35411 hown hK hP 0 rfl rfl 3 (by decide) (htg _ k1436) (fun _ h9 => h9) rfl dJx35411_checkForComodification_da8c8_1 ?_
  refine vk_getf (v := .int (nI (g.2.2 2012))) hx hb (hT.2.2.2.2.1.2.2.2.1) hS hown (htg _ k1312) (fun _ h9 => h9) dJx35411_checkForComodification_da8c8_4 ?_
  refine lv_aload_n hx hb dJx35411_checkForComodification_da8c8_7 rfl (lv_at hl 0 rfl) ?_
  refine va_get (D := g.1) (ci := 0) (v := .int (nI (g.2.2 2012))) (C := RJx35411) (T := TJx35411) (N := 4) hx hb htg inG_Jx35411 hown hK hP 0 rfl rfl 2 (by decide) (htg _ k1435) (fun _ h9 => h9) rfl dJx35411_checkForComodification_da8c8_8 ?_
  refine lv_icmp_eq (tgt := 22) hx hb dJx35411_checkForComodification_da8c8_11 (by decide) (fun c_1 => ?_) (fun c_1 => absurd (rfl) c_1)
  have hP9 := hP.sub (ws' := [(z0, .inr (0, [.int n0, .int n1, .int (nI (g.2.2 2012)), .ref (g.2.2 2002)]))]) [0] rfl
  have hD9 := hD.sub (ws' := [(z0, .inr (0, [.int n0, .int n1, .int (nI (g.2.2 2012)), .ref (g.2.2 2002)]))]) [0] (by decide) rfl
  refine W.widen (k := 0) (n := 0) (Nat.le_of_ble_eq_true rfl) (Nat.le_of_ble_eq_true rfl) ?_
  exact W.vret hx hb hr (fun t ht hW => ⟨⟨[(z0, .inr (0, [.int n0, .int n1, .int (nI (g.2.2 2012)), .ref (g.2.2 2002)]))], rfl, rfl, by rw [ht]; exact hP9, va_K.moved hW.alike hK, hD9⟩, hS.F ht⟩) hS.2.2 dJx35411_checkForComodification_da8c8_22

set_option maxHeartbeats 4000000 in
set_option maxRecDepth 100000 in
theorem c_next (l : Launch) (hfl : l.stackTraces = false) (g : GP) (z0 : Nat) (k1 : Nat) (n1 : Int32) (hk : k1 < g.2.2 2010) : CQ l yJx35411_next_0502b (wG yJx35411_next_0502b cJx35411_next_0502b 3 (Option.some (Jvm.ClassFile.FieldType.object "java/lang/Object"))) (LV 2 0 0) g [.ref z0] ([(z0, .inr (0, [.int (nI k1), .int n1, .int (nI (g.2.2 2012)), .ref (g.2.2 2002)]))]) (fun (r : Option Nat) (u : va_W) => r = some (g.2.2 (3000 + k1)) ∧ u = [(z0, .inr (0, [.int (nI (k1 + 1)), .int (nI k1), .int (nI (g.2.2 2012)), .ref (g.2.2 2002)]))]) := by
  intro sz
  refine Met.ofW (cc := cJx35411_next_0502b) (maxL := 3) (ret := (Option.some (Jvm.ClassFile.FieldType.object "java/lang/Object"))) (by decide) rfl ?_
  intro p e s m args below meth c s₁ B hml hv
  obtain ⟨rfl, hsz, hP, hK, hD0, hT0⟩ := hv
  have hx := B.exec
  have hb := B.bytes
  have hr := B.returns
  have hts := atoms_spec (ws := (wG yJx35411_next_0502b cJx35411_next_0502b 3 (Option.some (Jvm.ClassFile.FieldType.object "java/lang/Object")))) B.pre
  have htg : ∀ w ∈ G9, w.before _ s = true := fun w h => hts w (List.mem_cons_of_mem _ h)
  have hown : s.vm.findClass "java/util/ArrayList$Itr" = some m.cls := findClass_of_methodNamed B.named
  have hlocks := B.notSynchronized
  subst hsz
  have hD := hD0.self (sz := s.heap.size)
  have hT := hT0
  clear hT0
  generalize hAe : va_A [(z0, .inr (0, [.int (nI k1), .int n1, .int (nI (g.2.2 2012)), .ref (g.2.2 2002)]))] s.heap.size = A at hD hT ⊢
  have hA : ∀ q : Nat, s.heap.size ≤ q → A q := fun q h => by rw [← hAe]; exact Or.inr h
  obtain ⟨H, hH0⟩ : ∃ H, H = s.heap := ⟨_, rfl⟩
  have hS : va_S A s.heap H [] := by rw [hH0]; exact va_S.rf
  have hP : va_P g.1 CLS [(z0, .inr (0, [.int (nI k1), .int n1, .int (nI (g.2.2 2012)), .ref (g.2.2 2002)]))] H := by rw [hH0]; exact hP
  rw [← hH0]
  have hl := lv_entry ([.ref z0]) (n := 3) (Nat.le_of_ble_eq_true rfl)
  rw [lg_entry_eq]
  generalize (lg_sl ([.ref z0]) ++ List.replicate (3 - (lg_sl ([.ref z0])).length) Slot.unset).toArray = ls at hl ⊢
  have hl : lv_has ls 3 [(0, .ref z0)] := hl
  refine lv_aload_n hx hb dJx35411_next_0502b_0 rfl (lv_at hl 0 rfl) ?_
  have hPc := hP.sub (ws' := [(z0, .inr (0, [.int (nI k1), .int n1, .int (nI (g.2.2 2012)), .ref (g.2.2 2002)]))]) [0] rfl
  have hDc := hD.sub (ws' := [(z0, .inr (0, [.int (nI k1), .int n1, .int (nI (g.2.2 2012)), .ref (g.2.2 2002)]))]) [0] (by decide) rfl
  have hFc := va_free (wc := [(z0, .inr (0, [.int (nI k1), .int n1, .int (nI (g.2.2 2012)), .ref (g.2.2 2002)]))]) hD hS hA [0] rfl
  refine q_cv (wr := []) (va_runV (As := []) (rest := []) ⟨hx, hb, hml, hown, htg⟩ (c_coMod l hfl g z0 (nI k1) n1  H.size) ⟨(qB htg k1468 k73 k1465 ok_Jx35411_checkForComodification_da8c8 rfl rfl ⟨Nat.le_of_ble_eq_true rfl, Nat.le_of_ble_eq_true rfl⟩), htg _ k1466, htg _ k1467⟩ ⟨(q_pre [.ref z0] hPc hDc hK hS hT hFc).1, va_recv hK hP (ci := 0) (q0 := 0) rfl rfl, (q_pre [.ref z0] hPc hDc hK hS hT hFc).2⟩ rfl rfl hl.1 rfl (lv_room (Nat.le_of_ble_eq_true rfl)) dJx35411_next_0502b_1 ⟨Nat.le_of_ble_eq_true rfl, Nat.le_of_ble_eq_true rfl⟩) hP hD hS hFc [0] [] rfl rfl (by decide) (by decide) (fun u9 H locs hw hP hD hS => ?_)
  try dsimp only at hw
  rcases hw with rfl
  have hP : va_P g.1 CLS [(z0, .inr (0, [.int (nI k1), .int n1, .int (nI (g.2.2 2012)), .ref (g.2.2 2002)]))] H := hP
  have hD : va_D A [(z0, .inr (0, [.int (nI k1), .int n1, .int (nI (g.2.2 2012)), .ref (g.2.2 2002)]))] := hD
  refine W.widen (k := 0) (n := 0) (Nat.le_of_ble_eq_true rfl) (Nat.le_of_ble_eq_true rfl) ?_
  refine lv_aload_n hx hb dJx35411_next_0502b_4 rfl (lv_at hl 0 rfl) ?_
  refine va_get (D := g.1) (ci := 0) (v := .int (nI k1)) (C := RJx35411) (T := TJx35411) (N := 4) hx hb htg inG_Jx35411 hown hK hP 0 rfl rfl 0 (by decide) (htg _ k1433) (fun _ h9 => h9) rfl dJx35411_next_0502b_5 ?_
  refine lv_istore_n (lv' := [(1, .int (nI k1)), (0, .ref z0)]) hx hb dJx35411_next_0502b_8 rfl hl (by decide) rfl (fun ls hl => ?_)
  refine lv_iload_n hx hb dJx35411_next_0502b_9 rfl (lv_at hl 0 rfl) ?_
  refine lv_aload_n hx hb dJx35411_next_0502b_10 rfl (lv_at hl 1 rfl) ?_
  refine va_get (D := g.1) (ci := 0) (v := .ref (g.2.2 2002)) (C := RJx35411) (T := TJx35411) (N := 4) hx hb htg inG_Jx35411 hown hK hP 0 rfl rfl 3 (by decide) (htg _ k1436) (fun _ h9 => h9) rfl dJx35411_next_0502b_11 ?_
  refine q_getfN (v := .int (nI (g.2.2 2010))) hx hb (hT.2.2.2.2.1.2.1) hS hown (va_Nw.use rfl (hT.1.1 _ (List.mem_of_getElem? (i := 0) rfl))) (fun _ h9 => h9) dJx35411_next_0502b_14 ?_
  refine lv_icmp_lt (tgt := 28) hx hb dJx35411_next_0502b_17 (by decide) (fun c_1 => ?_) (fun c_1 => absurd (nI_lt hk (Nat.lt_trans hT.2.2.2.2.2.2.2.2.1 (by decide))) c_1)
  refine lv_aload_n hx hb dJx35411_next_0502b_28 rfl (lv_at hl 1 rfl) ?_
  refine va_get (D := g.1) (ci := 0) (v := .ref (g.2.2 2002)) (C := RJx35411) (T := TJx35411) (N := 4) hx hb htg inG_Jx35411 hown hK hP 0 rfl rfl 3 (by decide) (htg _ k1436) (fun _ h9 => h9) rfl dJx35411_next_0502b_29 ?_
  refine vk_getf (v := .ref (g.2.2 2003)) hx hb (hT.2.2.2.2.1.2.2.1) hS hown (htg _ k1308) (fun _ h9 => h9) dJx35411_next_0502b_32 ?_
  refine lv_astore_n (lv' := [(2, .ref (g.2.2 2003)), (1, .int (nI k1)), (0, .ref z0)]) hx hb dJx35411_next_0502b_35 rfl hl (by decide) rfl (fun ls hl => ?_)
  refine lv_iload_n hx hb dJx35411_next_0502b_36 rfl (lv_at hl 1 rfl) ?_
  refine lv_aload_n hx hb dJx35411_next_0502b_37 rfl (lv_at hl 0 rfl) ?_
  refine va_tlen (v := nI (g.2.2 2011)) hx hb (hT.2.2.2.2.1.2.2.2.2) hS rfl dJx35411_next_0502b_38 ?_
  refine lv_icmp_lt (tgt := 50) hx hb dJx35411_next_0502b_39 (by decide) (fun c_2 => ?_) (fun c_2 => absurd (nI_lt (Nat.lt_of_lt_of_le hk hT.2.2.2.2.2.2.2.1) hT.2.2.2.2.2.2.2.2.2.1) c_2)
  refine lv_aload_n hx hb dJx35411_next_0502b_50 rfl (lv_at hl 2 rfl) ?_
  refine lv_iload_n hx hb dJx35411_next_0502b_51 rfl (lv_at hl 1 rfl) ?_
  refine lv_iconst (v := 1) hx hb dJx35411_next_0502b_52 (by decide) ?_
  refine lv_iadd hx hb dJx35411_next_0502b_53 ?_
  refine lv_topi (fun x9 e9 => ?_)
  obtain rfl : x9 = nI (k1 + 1) := e9.trans (nI_1 k1)
  refine va_put (D := g.1) (ci := 0) (v := .int (nI (k1 + 1))) (ty := .int) (C := RJx35411) (T := TJx35411) (N := 4) hx hb htg inG_Jx35411 tyJx35411 tyJx35411_ok nmJx35411 hown hK hP hD hS 0 rfl rfl 0 (by decide) (htg _ k1433) (fun _ h9 => h9) rfl (by decide +kernel) rfl rfl (Nat.le_of_ble_eq_true rfl) dJx35411_next_0502b_54 (fun H locs hP hD hS => ?_)
  have hP : va_P g.1 CLS [(z0, .inr (0, [.int (nI (k1 + 1)), .int n1, .int (nI (g.2.2 2012)), .ref (g.2.2 2002)]))] H := hP
  have hD : va_D A [(z0, .inr (0, [.int (nI (k1 + 1)), .int n1, .int (nI (g.2.2 2012)), .ref (g.2.2 2002)]))] := hD
  refine lv_aload_n hx hb dJx35411_next_0502b_57 rfl (lv_at hl 0 rfl) ?_
  refine lv_aload_n hx hb dJx35411_next_0502b_58 rfl (lv_at hl 2 rfl) ?_
  refine lv_iload_n hx hb dJx35411_next_0502b_59 rfl (lv_at hl 1 rfl) ?_
  refine lv_dup_x1 hx hb dJx35411_next_0502b_60 rfl rfl ?_
  refine va_put (D := g.1) (ci := 0) (v := .int (nI k1)) (ty := .int) (C := RJx35411) (T := TJx35411) (N := 4) hx hb htg inG_Jx35411 tyJx35411 tyJx35411_ok nmJx35411 hown hK hP hD hS 0 rfl rfl 1 (by decide) (htg _ k1434) (fun _ h9 => h9) rfl (by decide +kernel) rfl rfl (Nat.le_of_ble_eq_true rfl) dJx35411_next_0502b_61 (fun H locs hP hD hS => ?_)
  have hP : va_P g.1 CLS [(z0, .inr (0, [.int (nI (k1 + 1)), .int (nI k1), .int (nI (g.2.2 2012)), .ref (g.2.2 2002)]))] H := hP
  have hD : va_D A [(z0, .inr (0, [.int (nI (k1 + 1)), .int (nI k1), .int (nI (g.2.2 2012)), .ref (g.2.2 2002)]))] := hD
  refine vb_tq hx hb (hT.2.2.2.2.1.2.2.2.2) hS (i := nI k1) (vp_in_nI (Nat.lt_of_lt_of_le hk hT.2.2.2.2.2.2.2.1) hT.2.2.2.2.2.2.2.2.2.1) (v := .ref (g.2.2 (3000 + k1))) (by rw [nI_clamp (Nat.lt_trans hk (Nat.lt_trans hT.2.2.2.2.2.2.2.2.1 (by decide)))]; exact if_pos hk) dJx35411_next_0502b_64 ?_
  have hP9 := hP.sub (ws' := [(z0, .inr (0, [.int (nI (k1 + 1)), .int (nI k1), .int (nI (g.2.2 2012)), .ref (g.2.2 2002)]))]) [0] rfl
  have hD9 := hD.sub (ws' := [(z0, .inr (0, [.int (nI (k1 + 1)), .int (nI k1), .int (nI (g.2.2 2012)), .ref (g.2.2 2002)]))]) [0] (by decide) rfl
  refine W.widen (k := 0) (n := 0) (Nat.le_of_ble_eq_true rfl) (Nat.le_of_ble_eq_true rfl) ?_
  exact W.aret (v := .ref (g.2.2 (3000 + k1))) hx hb hr (Or.inl ⟨_, rfl⟩) (Or.inr ⟨_, rfl⟩) (fun t ht hW => ⟨⟨some (g.2.2 (3000 + k1)), [(z0, .inr (0, [.int (nI (k1 + 1)), .int (nI k1), .int (nI (g.2.2 2012)), .ref (g.2.2 2002)]))], rfl, ⟨rfl, rfl⟩, by rw [ht]; exact hP9, va_K.moved hW.alike hK, hD9⟩, hS.F ht⟩) hS.2.2 dJx35411_next_0502b_65

set_option maxHeartbeats 4000000 in
set_option maxRecDepth 100000 in
theorem c_dIsEmpty (l : Launch) (hfl : l.stackTraces = false) (g : GP)   : CI l yX12_isEmpty (wG yX12_isEmpty cX12_isEmpty 1 (Option.some Jvm.ClassFile.FieldType.boolean)) (LV 1 0 0) g [.ref (g.2.2 2005)] ([]) (fun (r : Int32) (u : va_W) => r = 1 ∧ u = []) := by
  intro sz
  refine Met.ofW (cc := cX12_isEmpty) (maxL := 1) (ret := (Option.some Jvm.ClassFile.FieldType.boolean)) (by decide) rfl ?_
  intro p e s m args below meth c s₁ B hml hv
  obtain ⟨rfl, hsz, hP, hK, hD0, hT0⟩ := hv
  have hx := B.exec
  have hb := B.bytes
  have hr := B.returns
  have hts := atoms_spec (ws := (wG yX12_isEmpty cX12_isEmpty 1 (Option.some Jvm.ClassFile.FieldType.boolean))) B.pre
  have htg : ∀ w ∈ G9, w.before _ s = true := fun w h => hts w (List.mem_cons_of_mem _ h)
  have hown : s.vm.findClass "java/util/ArrayDeque" = some m.cls := findClass_of_methodNamed B.named
  have hlocks := B.notSynchronized
  subst hsz
  have hD := hD0.self (sz := s.heap.size)
  have hT := hT0
  clear hT0
  generalize hAe : va_A [] s.heap.size = A at hD hT ⊢
  have hA : ∀ q : Nat, s.heap.size ≤ q → A q := fun q h => by rw [← hAe]; exact Or.inr h
  obtain ⟨H, hH0⟩ : ∃ H, H = s.heap := ⟨_, rfl⟩
  have hS : va_S A s.heap H [] := by rw [hH0]; exact va_S.rf
  have hP : va_P g.1 CLS [] H := by rw [hH0]; exact hP
  rw [← hH0]
  have hl := lv_entry ([.ref (g.2.2 2005)]) (n := 1) (Nat.le_of_ble_eq_true rfl)
  rw [lg_entry_eq]
  generalize (lg_sl ([.ref (g.2.2 2005)]) ++ List.replicate (1 - (lg_sl ([.ref (g.2.2 2005)])).length) Slot.unset).toArray = ls at hl ⊢
  have hl : lv_has ls 1 [(0, .ref (g.2.2 2005))] := hl
  refine lv_aload_n hx hb dX12_isEmpty_0 rfl (lv_at hl 0 rfl) ?_
  refine vk_getf (v := .int (nI (g.2.2 2013))) hx hb (hT.2.2.2.1.2.1) hS hown (htg _ k1331) (fun _ h9 => h9) dX12_isEmpty_1 ?_
  refine lv_aload_n hx hb dX12_isEmpty_4 rfl (lv_at hl 0 rfl) ?_
  refine vk_getf (v := .int (nI (g.2.2 2013))) hx hb (hT.2.2.2.1.2.2.1) hS hown (htg _ k1332) (fun _ h9 => h9) dX12_isEmpty_5 ?_
  refine lv_icmp_ne (tgt := 15) hx hb dX12_isEmpty_8 (by decide) (fun c_1 => absurd (rfl) c_1) (fun c_1 => ?_)
  refine lv_iconst (v := 1) hx hb dX12_isEmpty_11 (by decide) ?_
  refine lv_goto (tgt := 16) hx hb dX12_isEmpty_12 (by decide) ?_
  have hP9 := hP.sub (ws' := []) [] rfl
  have hD9 := hD.sub (ws' := []) [] (by decide) rfl
  refine W.widen (k := 0) (n := 0) (Nat.le_of_ble_eq_true rfl) (Nat.le_of_ble_eq_true rfl) ?_
  exact W.zret (v := 1) hx hb hr rfl (fun t ht hW => ⟨⟨1, [], rfl, ⟨rfl, rfl⟩, by rw [ht]; exact hP9, va_K.moved hW.alike hK, hD9⟩, hS.F ht⟩) hS.2.2 dX12_isEmpty_16

set_option maxHeartbeats 4000000 in
set_option maxRecDepth 100000 in
theorem c_die (l : Launch) (hfl : l.stackTraces = false) (g : GP)   : CIa l yX11_die (wG yX11_die cX11_die 1 (Option.some Jvm.ClassFile.FieldType.int)) (LV 2 0 0) g [.ref (g.2.2 2000)] ([]) (fun (r : Int32) (u : va_W) => r = 10 ∧ u = []) := by
  intro sz
  refine Met.ofW (cc := cX11_die) (maxL := 1) (ret := (Option.some Jvm.ClassFile.FieldType.int)) (by decide) rfl ?_
  intro p e s m args below meth c s₁ B hml hv
  obtain ⟨rfl, ⟨hsz, hP, hK, hD0, hT0⟩, hE⟩ := hv
  have hx := B.exec
  have hb := B.bytes
  have hr := B.returns
  have hts := atoms_spec (ws := (wG yX11_die cX11_die 1 (Option.some Jvm.ClassFile.FieldType.int))) B.pre
  have htg : ∀ w ∈ G9, w.before _ s = true := fun w h => hts w (List.mem_cons_of_mem _ h)
  have hown : s.vm.findClass "HeroTableModel" = some m.cls := findClass_of_methodNamed B.named
  have hlocks := B.notSynchronized
  subst hsz
  have hD := hD0.self (sz := s.heap.size)
  have hT := hT0
  clear hT0
  generalize hAe : va_A [] s.heap.size = A at hD hT hE ⊢
  have hA : ∀ q : Nat, s.heap.size ≤ q → A q := fun q h => by rw [← hAe]; exact Or.inr h
  obtain ⟨H, hH0⟩ : ∃ H, H = s.heap := ⟨_, rfl⟩
  have hS : va_S A s.heap H [] := by rw [hH0]; exact va_S.rf
  have hP : va_P g.1 CLS [] H := by rw [hH0]; exact hP
  rw [← hH0]
  have hl := lv_entry ([.ref (g.2.2 2000)]) (n := 1) (Nat.le_of_ble_eq_true rfl)
  rw [lg_entry_eq]
  generalize (lg_sl ([.ref (g.2.2 2000)]) ++ List.replicate (1 - (lg_sl ([.ref (g.2.2 2000)])).length) Slot.unset).toArray = ls at hl ⊢
  have hl : lv_has ls 1 [(0, .ref (g.2.2 2000))] := hl
  refine lv_aload_n hx hb dX11_die_0 rfl (lv_at hl 0 rfl) ?_
  refine vk_getf (v := .ref (g.2.2 2005)) hx hb (hE.2.2.1) hS hown (htg _ k1343) (fun _ h9 => h9) dX11_die_1 ?_
  have hPc := hP.sub (ws' := []) [] rfl
  have hDc := hD.sub (ws' := []) [] (by decide) rfl
  have hFc := va_free (wc := []) hD hS hA [] rfl
  refine q_ci (wr := []) (va_runV (As := []) (rest := []) ⟨hx, hb, hml, hown, htg⟩ (c_dIsEmpty l hfl g   H.size) ⟨(qB htg k2121 k61 k2118 ok_X12_isEmpty rfl rfl ⟨Nat.le_of_ble_eq_true rfl, Nat.le_of_ble_eq_true rfl⟩), htg _ k2119, htg _ k2120⟩ ⟨(q_pre [.ref (g.2.2 2005)] hPc hDc hK hS hT hFc).1, va_Orecv (hT.2.2.2.1.1) hS, (q_pre [.ref (g.2.2 2005)] hPc hDc hK hS hT hFc).2⟩ rfl rfl hl.1 rfl (lv_room (Nat.le_of_ble_eq_true rfl)) dX11_die_4 ⟨Nat.le_of_ble_eq_true rfl, Nat.le_of_ble_eq_true rfl⟩) hP hD hS hFc [] [] rfl rfl (by decide) (by decide) (fun r9 u9 H locs hw hP hD hS => ?_)
  try dsimp only at hw
  rcases hw with ⟨rfl, rfl⟩
  have hP : va_P g.1 CLS [] H := hP
  have hD : va_D A [] := hD
  refine W.widen (k := 0) (n := 0) (Nat.le_of_ble_eq_true rfl) (Nat.le_of_ble_eq_true rfl) ?_
  refine lv_if_eq (tgt := 15) hx hb dX11_die_7 (by decide) (fun c_1 => absurd c_1 (by decide)) (fun c_1 => ?_)
  refine lv_bipush (v := 10) hx hb dX11_die_10 (by decide) ?_
  refine lv_goto (tgt := 28) hx hb dX11_die_12 (by decide) ?_
  have hP9 := hP.sub (ws' := []) [] rfl
  have hD9 := hD.sub (ws' := []) [] (by decide) rfl
  refine W.widen (k := 0) (n := 0) (Nat.le_of_ble_eq_true rfl) (Nat.le_of_ble_eq_true rfl) ?_
  exact W.iret (v := 10) hx hb hr (fun t ht hW => ⟨⟨10, [], rfl, ⟨rfl, rfl⟩, by rw [ht]; exact hP9, va_K.moved hW.alike hK, hD9⟩, hS.F ht⟩) hS.2.2 dX11_die_28

set_option maxHeartbeats 4000000 in
set_option maxRecDepth 100000 in
theorem c_number_w (l : Launch) (hfl : l.stackTraces = false) (g : GP)   : ZIa l yX11_number (wG yX11_number cX11_number 9 (Option.some Jvm.ClassFile.FieldType.int)) (LV 5 2 7) g [.ref (g.2.2 2000), .ref (g.2.2 2001), .int 119] ([]) 2 (fun (r : Int32) (u : va_W) => r = 2 ∧ u = []) := by
  intro sz
  refine Met.ofW (cc := cX11_number) (maxL := 9) (ret := (Option.some Jvm.ClassFile.FieldType.int)) (by decide) rfl ?_
  intro p e s m args below meth c s₁ B hml hv
  obtain ⟨rfl, ⟨hsz, hP, hK, hD0, hT0⟩, hE⟩ := hv
  have hx := B.exec
  have hb := B.bytes
  have hr := B.returns
  have hts := atoms_spec (ws := (wG yX11_number cX11_number 9 (Option.some Jvm.ClassFile.FieldType.int))) B.pre
  have htg : ∀ w ∈ G9, w.before _ s = true := fun w h => hts w (List.mem_cons_of_mem _ h)
  have hown : s.vm.findClass "HeroTableModel" = some m.cls := findClass_of_methodNamed B.named
  have hlocks := B.notSynchronized
  subst hsz
  have hD := hD0.self (sz := s.heap.size)
  have hT := hT0
  clear hT0
  generalize hAe : va_A [] s.heap.size = A at hD hT hE ⊢
  have hA : ∀ q : Nat, s.heap.size ≤ q → A q := fun q h => by rw [← hAe]; exact Or.inr h
  obtain ⟨H, hH0⟩ : ∃ H, H = s.heap := ⟨_, rfl⟩
  have hS : va_S A s.heap H [] := by rw [hH0]; exact va_S.rf
  have hP : va_P g.1 CLS [] H := by rw [hH0]; exact hP
  rw [← hH0]
  have hl := lv_entry ([.ref (g.2.2 2000), .ref (g.2.2 2001), .int 119]) (n := 9) (Nat.le_of_ble_eq_true rfl)
  rw [lg_entry_eq]
  generalize (lg_sl ([.ref (g.2.2 2000), .ref (g.2.2 2001), .int 119]) ++ List.replicate (9 - (lg_sl ([.ref (g.2.2 2000), .ref (g.2.2 2001), .int 119])).length) Slot.unset).toArray = ls at hl ⊢
  have hl : lv_has ls 9 [(0, .ref (g.2.2 2000)), (1, .ref (g.2.2 2001)), (2, .int 119)] := hl
  refine lv_aload_n hx hb dX11_number_0 rfl (lv_at hl 1 rfl) ?_
  refine q_getfN (v := .ref (g.2.2 2004)) hx hb (hE.2.2.2.2) hS hown (va_Nw.use rfl (hT.1.1 _ (List.mem_of_getElem? (i := 7) rfl))) (fun _ h9 => h9) dX11_number_1 ?_
  refine va_ldcS hx hb hown (hT.2.1 _ (List.mem_of_getElem? (i := 0) rfl)) dX11_number_4 ?_
  refine lv_iload_n hx hb dX11_number_6 rfl (lv_at hl 2 rfl) ?_
  have hPc := hP.sub (ws' := []) [] rfl
  have hDc := hD.sub (ws' := []) [] (by decide) rfl
  have hFc := va_free (wc := []) hD hS hA [] rfl
  refine q_ci (wr := []) (va_runV (As := [.int 119]) (rest := [.ref (g.2.2 2004)]) ⟨hx, hb, hml, hown, htg⟩ (c_idx1_w l hfl g   H.size) ⟨(qB htg k428 k77 k1632 ok_J0_indexOf_0f7a4 rfl rfl ⟨Nat.le_of_ble_eq_true rfl, Nat.le_of_ble_eq_true rfl⟩), htg _ k426, htg _ k427⟩ ⟨(q_pre [.ref (g.2.2 13), .int 119] hPc hDc hK hS hT hFc).1, va_Orecv (hT.2.2.1.2.1) hS, (q_pre [.ref (g.2.2 13), .int 119] hPc hDc hK hS hT hFc).2⟩ rfl rfl hl.1 rfl (lv_room (Nat.le_of_ble_eq_true rfl)) dX11_number_7 ⟨Nat.le_of_ble_eq_true rfl, Nat.le_of_ble_eq_true rfl⟩) hP hD hS hFc [] [] rfl rfl (by decide) (by decide) (fun r9 u9 H locs hw hP hD hS => ?_)
  try dsimp only at hw
  rcases hw with ⟨rfl, rfl⟩
  have hP : va_P g.1 CLS [] H := hP
  have hD : va_D A [] := hD
  refine W.widen (k := 0) (n := 0) (Nat.le_of_ble_eq_true rfl) (Nat.le_of_ble_eq_true rfl) ?_
  refine va_ti hx hb (hT.2.2.2.1.2.2.2) hS (i := 4) (vp_in_iff.mpr (by decide)) (v := .int 2) rfl dX11_number_10 ?_
  refine lv_istore_n (lv' := [(3, .int 2), (0, .ref (g.2.2 2000)), (1, .ref (g.2.2 2001)), (2, .int 119)]) hx hb dX11_number_11 rfl hl (by decide) rfl (fun ls hl => ?_)
  refine lv_iconst (v := 0) hx hb dX11_number_12 (by decide) ?_
  refine lv_istore (lv' := [(4, .int 0), (3, .int 2), (0, .ref (g.2.2 2000)), (1, .ref (g.2.2 2001)), (2, .int 119)]) hx hb dX11_number_13 hl (by decide) rfl (fun ls hl => ?_)
  refine lv_iconst (v := 3) hx hb dX11_number_15 (by decide) ?_
  refine va_newa (atype := .int) (ty := .int) (a0 := (3, .inl (fun _ => 0))) (N' := 3) hx hb (htg _ k156) rfl hK hP hD hS hA (fun _ => rfl) (by decide) (by decide) (by decide) (Nat.le_of_ble_eq_true rfl) (Nat.le_of_ble_eq_true rfl) dX11_number_16 (fun q_1 cA H hK9 hP hD hS => ?_)
  obtain rfl := q_arr hK9 (t0 := 1) rfl (by decide)
  clear hK9
  have hP : va_P g.1 CLS [(q_1, .inl (g.2.1 1, 3, .inl (fun _ => 0)))] H := hP
  have hD : va_D A [(q_1, .inl (g.2.1 1, 3, .inl (fun _ => 0)))] := hD
  refine W.widen (k := 1) (n := 3) (Nat.le_of_ble_eq_true rfl) (Nat.le_of_ble_eq_true rfl) ?_
  refine lv_astore (lv' := [(5, .ref q_1), (4, .int 0), (3, .int 2), (0, .ref (g.2.2 2000)), (1, .ref (g.2.2 2001)), (2, .int 119)]) hx hb dX11_number_18 hl (by decide) rfl (fun ls hl => ?_)
  refine lv_aload_n hx hb dX11_number_20 rfl (lv_at hl 3 rfl) ?_
  refine vk_getf (v := .ref (g.2.2 2002)) hx hb (hE.2.1) hS hown (htg _ k1342) (fun _ h9 => h9) dX11_number_21 ?_
  have hPc := hP.sub (ws' := []) [] rfl
  have hDc := hD.sub (ws' := []) [] (by decide) rfl
  have hFc := va_free (wc := []) hD hS hA [] rfl
  refine q_cFq (wr := [(q_1, .inl (g.2.1 1, 3, .inl (fun _ => 0)))]) (va_runF (As := []) (rest := []) (hK.1 1 _ rfl).2 ⟨hx, hb, hml, hown, htg⟩ (c_iterator l hfl g   H.size) (qI5 htg k1426 k60 k1419 k1422 k1424 (hT.1.2.2.1) okx_iterator rfl rfl ⟨Nat.le_of_ble_eq_true rfl, Nat.le_of_ble_eq_true rfl⟩) ⟨(q_pre [.ref (g.2.2 2002)] hPc hDc hK hS hT hFc).1, va_Orecv (hT.2.2.2.2.1.1) hS, (q_pre [.ref (g.2.2 2002)] hPc hDc hK hS hT hFc).2⟩ rfl rfl hl.1 rfl (lv_room (Nat.le_of_ble_eq_true rfl)) dX11_number_24 ⟨Nat.le_of_ble_eq_true rfl, Nat.le_of_ble_eq_true rfl⟩) hP hD hS hFc [] [0] rfl rfl (by decide) (by decide) (fun r9 u9 H locs hw hP hD hS => ?_)
  try dsimp only at hw
  rcases hw with ⟨q_2, rfl, rfl⟩
  have hP : va_P g.1 CLS [(q_1, .inl (g.2.1 1, 3, .inl (fun _ => 0))), (q_2, .inr (0, [.int 0, .int (-1), .int (nI (g.2.2 2012)), .ref (g.2.2 2002)]))] H := hP
  have hD : va_D A [(q_1, .inl (g.2.1 1, 3, .inl (fun _ => 0))), (q_2, .inr (0, [.int 0, .int (-1), .int (nI (g.2.2 2012)), .ref (g.2.2 2002)]))] := hD
  refine W.widen (k := 2) (n := 7) (Nat.le_of_ble_eq_true rfl) (Nat.le_of_ble_eq_true rfl) ?_
  refine lv_astore (lv' := [(6, .ref q_2), (5, .ref q_1), (4, .int 0), (3, .int 2), (0, .ref (g.2.2 2000)), (1, .ref (g.2.2 2001)), (2, .int 119)]) hx hb dX11_number_29 hl (by decide) rfl (fun ls hl => ?_)
  refine q_loop (g.2.2 2010) (fun i9 f9 H locs ls => va_P g.1 CLS [(q_1, .inl (g.2.1 1, 3, .inl (fun _ => 0))), (q_2, .inr (0, [.int (nI i9), .int (f9 0), .int (nI (g.2.2 2012)), .ref (g.2.2 2002)]))] H ∧ va_D A [(q_1, .inl (g.2.1 1, 3, .inl (fun _ => 0))), (q_2, .inr (0, [.int (nI i9), .int (f9 0), .int (nI (g.2.2 2012)), .ref (g.2.2 2002)]))] ∧ va_S A s.heap H locs ∧ lv_has ls 9 [(6, .ref q_2), (5, .ref q_1), (4, .int 0), (3, .int 2), (0, .ref (g.2.2 2000)), (1, .ref (g.2.2 2001)), (2, .int 119)]) (fun i9 f9 H locs ls hk hp ih => ?_) (fun f9 H locs ls hp => ?_) (fun _ => -1) ⟨hP, hD, hS, hl⟩
  · obtain ⟨hP, hD, hS, hl⟩ := hp
    refine lv_aload hx hb dX11_number_31 (lv_at hl 0 rfl) ?_
    have hPc := hP.sub (ws' := [(q_2, .inr (0, [.int (nI i9), .int (f9 0), .int (nI (g.2.2 2012)), .ref (g.2.2 2002)]))]) [1] rfl
    have hDc := hD.sub (ws' := [(q_2, .inr (0, [.int (nI i9), .int (f9 0), .int (nI (g.2.2 2012)), .ref (g.2.2 2002)]))]) [1] (by decide) rfl
    have hFc := va_free (wc := [(q_2, .inr (0, [.int (nI i9), .int (f9 0), .int (nI (g.2.2 2012)), .ref (g.2.2 2002)]))]) hD hS hA [1] rfl
    refine q_cFi (wr := [(q_1, .inl (g.2.1 1, 3, .inl (fun _ => 0)))]) (va_runF (As := []) (rest := []) (hK.1 0 _ rfl).2 ⟨hx, hb, hml, hown, htg⟩ (c_hasNext1 l hfl g q_2 i9 (f9 0) (hk) H.size) (qI5 htg k1455 k73 k1447 k1451 k1453 (hT.1.2.2.2.1) okx_hasNext rfl rfl ⟨Nat.le_of_ble_eq_true rfl, Nat.le_of_ble_eq_true rfl⟩) ⟨(q_pre [.ref q_2] hPc hDc hK hS hT hFc).1, va_recv hK hP (ci := 0) (q0 := 1) rfl rfl, (q_pre [.ref q_2] hPc hDc hK hS hT hFc).2⟩ rfl rfl hl.1 rfl (lv_room (Nat.le_of_ble_eq_true rfl)) dX11_number_33 ⟨Nat.le_of_ble_eq_true rfl, Nat.le_of_ble_eq_true rfl⟩) hP hD hS hFc [1] [0] rfl rfl (by decide) (by decide) (fun r9 u9 H locs hw hP hD hS => ?_)
    try dsimp only at hw
    rcases hw with ⟨rfl, rfl⟩
    have hP : va_P g.1 CLS [(q_1, .inl (g.2.1 1, 3, .inl (fun _ => 0))), (q_2, .inr (0, [.int (nI i9), .int (f9 0), .int (nI (g.2.2 2012)), .ref (g.2.2 2002)]))] H := hP
    have hD : va_D A [(q_1, .inl (g.2.1 1, 3, .inl (fun _ => 0))), (q_2, .inr (0, [.int (nI i9), .int (f9 0), .int (nI (g.2.2 2012)), .ref (g.2.2 2002)]))] := hD
    refine W.widen (k := 2) (n := 7) (Nat.le_of_ble_eq_true rfl) (Nat.le_of_ble_eq_true rfl) ?_
    refine lv_if_eq (tgt := 193) hx hb dX11_number_38 (by decide) (fun c_3 => absurd c_3 (by decide)) (fun c_3 => ?_)
    refine lv_aload hx hb dX11_number_41 (lv_at hl 0 rfl) ?_
    have hPc := hP.sub (ws' := [(q_2, .inr (0, [.int (nI i9), .int (f9 0), .int (nI (g.2.2 2012)), .ref (g.2.2 2002)]))]) [1] rfl
    have hDc := hD.sub (ws' := [(q_2, .inr (0, [.int (nI i9), .int (f9 0), .int (nI (g.2.2 2012)), .ref (g.2.2 2002)]))]) [1] (by decide) rfl
    have hFc := va_free (wc := [(q_2, .inr (0, [.int (nI i9), .int (f9 0), .int (nI (g.2.2 2012)), .ref (g.2.2 2002)]))]) hD hS hA [1] rfl
    refine q_cFq (wr := [(q_1, .inl (g.2.1 1, 3, .inl (fun _ => 0)))]) (va_runF (As := []) (rest := []) (hK.1 0 _ rfl).2 ⟨hx, hb, hml, hown, htg⟩ (c_next l hfl g q_2 i9 (f9 0) (hk) H.size) (qI5 htg k1464 k73 k1457 k1460 k1462 (hT.1.2.2.2.2.1) okx_next rfl rfl ⟨Nat.le_of_ble_eq_true rfl, Nat.le_of_ble_eq_true rfl⟩) ⟨(q_pre [.ref q_2] hPc hDc hK hS hT hFc).1, va_recv hK hP (ci := 0) (q0 := 1) rfl rfl, (q_pre [.ref q_2] hPc hDc hK hS hT hFc).2⟩ rfl rfl hl.1 rfl (lv_room (Nat.le_of_ble_eq_true rfl)) dX11_number_43 ⟨Nat.le_of_ble_eq_true rfl, Nat.le_of_ble_eq_true rfl⟩) hP hD hS hFc [1] [0] rfl rfl (by decide) (by decide) (fun r9 u9 H locs hw hP hD hS => ?_)
    try dsimp only at hw
    rcases hw with ⟨rfl, rfl⟩
    have hP : va_P g.1 CLS [(q_1, .inl (g.2.1 1, 3, .inl (fun _ => 0))), (q_2, .inr (0, [.int (nI (i9 + 1)), .int (nI i9), .int (nI (g.2.2 2012)), .ref (g.2.2 2002)]))] H := hP
    have hD : va_D A [(q_1, .inl (g.2.1 1, 3, .inl (fun _ => 0))), (q_2, .inr (0, [.int (nI (i9 + 1)), .int (nI i9), .int (nI (g.2.2 2012)), .ref (g.2.2 2002)]))] := hD
    refine W.widen (k := 2) (n := 7) (Nat.le_of_ble_eq_true rfl) (Nat.le_of_ble_eq_true rfl) ?_
    refine va_castE hx hb hown (htg _ k1673) (va_Orecv ((hT.2.2.2.2.2.2.1 i9 hk).2.1) hS) dX11_number_48 ?_
    refine lv_astore (lv' := [(7, .ref (g.2.2 (3000 + i9))), (6, .ref q_2), (5, .ref q_1), (4, .int 0), (3, .int 2), (0, .ref (g.2.2 2000)), (1, .ref (g.2.2 2001)), (2, .int 119)]) hx hb dX11_number_51 hl (by decide) rfl (fun ls hl => ?_)
    refine lv_aload hx hb dX11_number_53 (lv_at hl 0 rfl) ?_
    refine q_getfN (v := .int 1) hx hb ((hT.2.2.2.2.2.2.1 i9 hk).2.2.1) hS hown (va_Nw.use rfl (hT.1.1 _ (List.mem_of_getElem? (i := 24) rfl))) (fun _ h9 => h9) dX11_number_55 ?_
    refine lv_if_eq (tgt := 190) hx hb dX11_number_58 (by decide) (fun c_4 => absurd c_4 (by decide)) (fun c_4 => ?_)
    refine lv_aload hx hb dX11_number_61 (lv_at hl 0 rfl) ?_
    refine q_getfN (v := .int 0) hx hb ((hT.2.2.2.2.2.2.1 i9 hk).2.2.2.1) hS hown (va_Nw.use rfl (hT.1.1 _ (List.mem_of_getElem? (i := 17) rfl))) (fun _ h9 => h9) dX11_number_63 ?_
    refine lv_aload_n hx hb dX11_number_66 rfl (lv_at hl 6 rfl) ?_
    refine q_getfN (v := .int 0) hx hb (hE.2.2.2.1) hS hown (va_Nw.use rfl (hT.1.1 _ (List.mem_of_getElem? (i := 3) rfl))) (fun _ h9 => h9) dX11_number_67 ?_
    refine lv_icmp_ne (tgt := 190) hx hb dX11_number_70 (by decide) (fun c_5 => absurd (by decide) c_5) (fun c_5 => ?_)
    refine lv_aload hx hb dX11_number_73 (lv_at hl 0 rfl) ?_
    refine q_getfN (v := .int 112) hx hb ((hT.2.2.2.2.2.2.1 i9 hk).2.2.2.2.1) hS hown (va_Nw.use rfl (hT.1.1 _ (List.mem_of_getElem? (i := 18) rfl))) (fun _ h9 => h9) dX11_number_75 ?_
    refine lv_iload_n hx hb dX11_number_78 rfl (lv_at hl 7 rfl) ?_
    refine lv_icmp_ne (tgt := 190) hx hb dX11_number_79 (by decide) (fun c_6 => ?_) (fun c_6 => absurd c_6 (by decide))
    refine lv_goto (tgt := 31) hx hb dX11_number_190 (by decide) ?_
    exact ih (fun _ => nI i9) H locs ls ⟨hP, hD, hS, lv_sub hl [1, 2, 3, 4, 5, 6, 7] rfl⟩
  · obtain ⟨hP, hD, hS, hl⟩ := hp
    refine lv_aload hx hb dX11_number_31 (lv_at hl 0 rfl) ?_
    have hPc := hP.sub (ws' := [(q_2, .inr (0, [.int (nI (g.2.2 2010)), .int (f9 0), .int (nI (g.2.2 2012)), .ref (g.2.2 2002)]))]) [1] rfl
    have hDc := hD.sub (ws' := [(q_2, .inr (0, [.int (nI (g.2.2 2010)), .int (f9 0), .int (nI (g.2.2 2012)), .ref (g.2.2 2002)]))]) [1] (by decide) rfl
    have hFc := va_free (wc := [(q_2, .inr (0, [.int (nI (g.2.2 2010)), .int (f9 0), .int (nI (g.2.2 2012)), .ref (g.2.2 2002)]))]) hD hS hA [1] rfl
    refine q_cFi (wr := [(q_1, .inl (g.2.1 1, 3, .inl (fun _ => 0)))]) (va_runF (As := []) (rest := []) (hK.1 0 _ rfl).2 ⟨hx, hb, hml, hown, htg⟩ (c_hasNext0 l hfl g q_2 (f9 0)  H.size) (qI5 htg k1455 k73 k1447 k1451 k1453 (hT.1.2.2.2.1) okx_hasNext rfl rfl ⟨Nat.le_of_ble_eq_true rfl, Nat.le_of_ble_eq_true rfl⟩) ⟨(q_pre [.ref q_2] hPc hDc hK hS hT hFc).1, va_recv hK hP (ci := 0) (q0 := 1) rfl rfl, (q_pre [.ref q_2] hPc hDc hK hS hT hFc).2⟩ rfl rfl hl.1 rfl (lv_room (Nat.le_of_ble_eq_true rfl)) dX11_number_33 ⟨Nat.le_of_ble_eq_true rfl, Nat.le_of_ble_eq_true rfl⟩) hP hD hS hFc [1] [0] rfl rfl (by decide) (by decide) (fun r9 u9 H locs hw hP hD hS => ?_)
    try dsimp only at hw
    rcases hw with ⟨rfl, rfl⟩
    have hP : va_P g.1 CLS [(q_1, .inl (g.2.1 1, 3, .inl (fun _ => 0))), (q_2, .inr (0, [.int (nI (g.2.2 2010)), .int (f9 0), .int (nI (g.2.2 2012)), .ref (g.2.2 2002)]))] H := hP
    have hD : va_D A [(q_1, .inl (g.2.1 1, 3, .inl (fun _ => 0))), (q_2, .inr (0, [.int (nI (g.2.2 2010)), .int (f9 0), .int (nI (g.2.2 2012)), .ref (g.2.2 2002)]))] := hD
    refine W.widen (k := 2) (n := 7) (Nat.le_of_ble_eq_true rfl) (Nat.le_of_ble_eq_true rfl) ?_
    refine lv_if_eq (tgt := 193) hx hb dX11_number_38 (by decide) (fun c_7 => ?_) (fun c_7 => absurd (by decide) c_7)
    refine lv_iload_n hx hb dX11_number_193 rfl (lv_at hl 3 rfl) ?_
    refine lv_iload hx hb dX11_number_194 (lv_at hl 2 rfl) ?_
    refine lv_iadd hx hb dX11_number_196 ?_
    refine lv_topi (fun x_8 ex_8 => ?_)
    obtain rfl : x_8 = 2 := ex_8.trans (by decide)
    refine lv_aload hx hb dX11_number_197 (lv_at hl 1 rfl) ?_
    refine lv_iconst (v := 0) hx hb dX11_number_199 (by decide) ?_
    refine va_iald hx hb hK hP 0 1 rfl rfl (i := 0) (vp_in_iff.mpr (by decide)) dX11_number_200 ?_
    refine lv_topi (fun x_9 ex_9 => ?_)
    obtain rfl : x_9 = 0 := ex_9.trans rfl
    refine lv_iadd hx hb dX11_number_201 ?_
    refine lv_topi (fun x_10 ex_10 => ?_)
    obtain rfl : x_10 = 2 := ex_10.trans (by decide)
    refine lv_aload hx hb dX11_number_202 (lv_at hl 1 rfl) ?_
    refine lv_iconst (v := 1) hx hb dX11_number_204 (by decide) ?_
    refine va_iald hx hb hK hP 0 1 rfl rfl (i := 1) (vp_in_iff.mpr (by decide)) dX11_number_205 ?_
    refine lv_topi (fun x_11 ex_11 => ?_)
    obtain rfl : x_11 = 0 := ex_11.trans rfl
    refine lv_iadd hx hb dX11_number_206 ?_
    refine lv_topi (fun x_12 ex_12 => ?_)
    obtain rfl : x_12 = 2 := ex_12.trans (by decide)
    refine lv_aload hx hb dX11_number_207 (lv_at hl 1 rfl) ?_
    refine lv_iconst (v := 2) hx hb dX11_number_209 (by decide) ?_
    refine va_iald hx hb hK hP 0 1 rfl rfl (i := 2) (vp_in_iff.mpr (by decide)) dX11_number_210 ?_
    refine lv_topi (fun x_13 ex_13 => ?_)
    obtain rfl : x_13 = 0 := ex_13.trans rfl
    refine lv_iadd hx hb dX11_number_211 ?_
    refine lv_topi (fun x_14 ex_14 => ?_)
    obtain rfl : x_14 = 2 := ex_14.trans (by decide)
    have hz := two_new hAe hP hD
    have hP9 := hP.sub (ws' := []) [] rfl
    have hD9 := hD.sub (ws' := []) [] (by decide) rfl
    refine W.widen (k := 2) (n := 7) (Nat.le_of_ble_eq_true rfl) (Nat.le_of_ble_eq_true rfl) ?_
    exact W.iret (v := 2) hx hb hr (fun t ht hW => ⟨⟨2, [], rfl, ⟨rfl, rfl⟩, ⟨by rw [ht]; exact hP9, va_K.moved hW.alike hK, hD9⟩, by rw [ht, hH0]; exact hz⟩, hS.F ht⟩) hS.2.2 dX11_number_212

set_option maxHeartbeats 4000000 in
set_option maxRecDepth 100000 in
theorem c_number_s (l : Launch) (hfl : l.stackTraces = false) (g : GP)   : ZIa l yX11_number (wG yX11_number cX11_number 9 (Option.some Jvm.ClassFile.FieldType.int)) (LV 5 2 7) g [.ref (g.2.2 2000), .ref (g.2.2 2001), .int 115] ([]) 2 (fun (r : Int32) (u : va_W) => r = 4 ∧ u = []) := by
  intro sz
  refine Met.ofW (cc := cX11_number) (maxL := 9) (ret := (Option.some Jvm.ClassFile.FieldType.int)) (by decide) rfl ?_
  intro p e s m args below meth c s₁ B hml hv
  obtain ⟨rfl, ⟨hsz, hP, hK, hD0, hT0⟩, hE⟩ := hv
  have hx := B.exec
  have hb := B.bytes
  have hr := B.returns
  have hts := atoms_spec (ws := (wG yX11_number cX11_number 9 (Option.some Jvm.ClassFile.FieldType.int))) B.pre
  have htg : ∀ w ∈ G9, w.before _ s = true := fun w h => hts w (List.mem_cons_of_mem _ h)
  have hown : s.vm.findClass "HeroTableModel" = some m.cls := findClass_of_methodNamed B.named
  have hlocks := B.notSynchronized
  subst hsz
  have hD := hD0.self (sz := s.heap.size)
  have hT := hT0
  clear hT0
  generalize hAe : va_A [] s.heap.size = A at hD hT hE ⊢
  have hA : ∀ q : Nat, s.heap.size ≤ q → A q := fun q h => by rw [← hAe]; exact Or.inr h
  obtain ⟨H, hH0⟩ : ∃ H, H = s.heap := ⟨_, rfl⟩
  have hS : va_S A s.heap H [] := by rw [hH0]; exact va_S.rf
  have hP : va_P g.1 CLS [] H := by rw [hH0]; exact hP
  rw [← hH0]
  have hl := lv_entry ([.ref (g.2.2 2000), .ref (g.2.2 2001), .int 115]) (n := 9) (Nat.le_of_ble_eq_true rfl)
  rw [lg_entry_eq]
  generalize (lg_sl ([.ref (g.2.2 2000), .ref (g.2.2 2001), .int 115]) ++ List.replicate (9 - (lg_sl ([.ref (g.2.2 2000), .ref (g.2.2 2001), .int 115])).length) Slot.unset).toArray = ls at hl ⊢
  have hl : lv_has ls 9 [(0, .ref (g.2.2 2000)), (1, .ref (g.2.2 2001)), (2, .int 115)] := hl
  refine lv_aload_n hx hb dX11_number_0 rfl (lv_at hl 1 rfl) ?_
  refine q_getfN (v := .ref (g.2.2 2004)) hx hb (hE.2.2.2.2) hS hown (va_Nw.use rfl (hT.1.1 _ (List.mem_of_getElem? (i := 7) rfl))) (fun _ h9 => h9) dX11_number_1 ?_
  refine va_ldcS hx hb hown (hT.2.1 _ (List.mem_of_getElem? (i := 0) rfl)) dX11_number_4 ?_
  refine lv_iload_n hx hb dX11_number_6 rfl (lv_at hl 2 rfl) ?_
  have hPc := hP.sub (ws' := []) [] rfl
  have hDc := hD.sub (ws' := []) [] (by decide) rfl
  have hFc := va_free (wc := []) hD hS hA [] rfl
  refine q_ci (wr := []) (va_runV (As := [.int 115]) (rest := [.ref (g.2.2 2004)]) ⟨hx, hb, hml, hown, htg⟩ (c_idx1_s l hfl g   H.size) ⟨(qB htg k428 k77 k1632 ok_J0_indexOf_0f7a4 rfl rfl ⟨Nat.le_of_ble_eq_true rfl, Nat.le_of_ble_eq_true rfl⟩), htg _ k426, htg _ k427⟩ ⟨(q_pre [.ref (g.2.2 13), .int 115] hPc hDc hK hS hT hFc).1, va_Orecv (hT.2.2.1.2.1) hS, (q_pre [.ref (g.2.2 13), .int 115] hPc hDc hK hS hT hFc).2⟩ rfl rfl hl.1 rfl (lv_room (Nat.le_of_ble_eq_true rfl)) dX11_number_7 ⟨Nat.le_of_ble_eq_true rfl, Nat.le_of_ble_eq_true rfl⟩) hP hD hS hFc [] [] rfl rfl (by decide) (by decide) (fun r9 u9 H locs hw hP hD hS => ?_)
  try dsimp only at hw
  rcases hw with ⟨rfl, rfl⟩
  have hP : va_P g.1 CLS [] H := hP
  have hD : va_D A [] := hD
  refine W.widen (k := 0) (n := 0) (Nat.le_of_ble_eq_true rfl) (Nat.le_of_ble_eq_true rfl) ?_
  refine va_ti hx hb (hT.2.2.2.1.2.2.2) hS (i := 3) (vp_in_iff.mpr (by decide)) (v := .int 4) rfl dX11_number_10 ?_
  refine lv_istore_n (lv' := [(3, .int 4), (0, .ref (g.2.2 2000)), (1, .ref (g.2.2 2001)), (2, .int 115)]) hx hb dX11_number_11 rfl hl (by decide) rfl (fun ls hl => ?_)
  refine lv_iconst (v := 0) hx hb dX11_number_12 (by decide) ?_
  refine lv_istore (lv' := [(4, .int 0), (3, .int 4), (0, .ref (g.2.2 2000)), (1, .ref (g.2.2 2001)), (2, .int 115)]) hx hb dX11_number_13 hl (by decide) rfl (fun ls hl => ?_)
  refine lv_iconst (v := 3) hx hb dX11_number_15 (by decide) ?_
  refine va_newa (atype := .int) (ty := .int) (a0 := (3, .inl (fun _ => 0))) (N' := 3) hx hb (htg _ k156) rfl hK hP hD hS hA (fun _ => rfl) (by decide) (by decide) (by decide) (Nat.le_of_ble_eq_true rfl) (Nat.le_of_ble_eq_true rfl) dX11_number_16 (fun q_1 cA H hK9 hP hD hS => ?_)
  obtain rfl := q_arr hK9 (t0 := 1) rfl (by decide)
  clear hK9
  have hP : va_P g.1 CLS [(q_1, .inl (g.2.1 1, 3, .inl (fun _ => 0)))] H := hP
  have hD : va_D A [(q_1, .inl (g.2.1 1, 3, .inl (fun _ => 0)))] := hD
  refine W.widen (k := 1) (n := 3) (Nat.le_of_ble_eq_true rfl) (Nat.le_of_ble_eq_true rfl) ?_
  refine lv_astore (lv' := [(5, .ref q_1), (4, .int 0), (3, .int 4), (0, .ref (g.2.2 2000)), (1, .ref (g.2.2 2001)), (2, .int 115)]) hx hb dX11_number_18 hl (by decide) rfl (fun ls hl => ?_)
  refine lv_aload_n hx hb dX11_number_20 rfl (lv_at hl 3 rfl) ?_
  refine vk_getf (v := .ref (g.2.2 2002)) hx hb (hE.2.1) hS hown (htg _ k1342) (fun _ h9 => h9) dX11_number_21 ?_
  have hPc := hP.sub (ws' := []) [] rfl
  have hDc := hD.sub (ws' := []) [] (by decide) rfl
  have hFc := va_free (wc := []) hD hS hA [] rfl
  refine q_cFq (wr := [(q_1, .inl (g.2.1 1, 3, .inl (fun _ => 0)))]) (va_runF (As := []) (rest := []) (hK.1 1 _ rfl).2 ⟨hx, hb, hml, hown, htg⟩ (c_iterator l hfl g   H.size) (qI5 htg k1426 k60 k1419 k1422 k1424 (hT.1.2.2.1) okx_iterator rfl rfl ⟨Nat.le_of_ble_eq_true rfl, Nat.le_of_ble_eq_true rfl⟩) ⟨(q_pre [.ref (g.2.2 2002)] hPc hDc hK hS hT hFc).1, va_Orecv (hT.2.2.2.2.1.1) hS, (q_pre [.ref (g.2.2 2002)] hPc hDc hK hS hT hFc).2⟩ rfl rfl hl.1 rfl (lv_room (Nat.le_of_ble_eq_true rfl)) dX11_number_24 ⟨Nat.le_of_ble_eq_true rfl, Nat.le_of_ble_eq_true rfl⟩) hP hD hS hFc [] [0] rfl rfl (by decide) (by decide) (fun r9 u9 H locs hw hP hD hS => ?_)
  try dsimp only at hw
  rcases hw with ⟨q_2, rfl, rfl⟩
  have hP : va_P g.1 CLS [(q_1, .inl (g.2.1 1, 3, .inl (fun _ => 0))), (q_2, .inr (0, [.int 0, .int (-1), .int (nI (g.2.2 2012)), .ref (g.2.2 2002)]))] H := hP
  have hD : va_D A [(q_1, .inl (g.2.1 1, 3, .inl (fun _ => 0))), (q_2, .inr (0, [.int 0, .int (-1), .int (nI (g.2.2 2012)), .ref (g.2.2 2002)]))] := hD
  refine W.widen (k := 2) (n := 7) (Nat.le_of_ble_eq_true rfl) (Nat.le_of_ble_eq_true rfl) ?_
  refine lv_astore (lv' := [(6, .ref q_2), (5, .ref q_1), (4, .int 0), (3, .int 4), (0, .ref (g.2.2 2000)), (1, .ref (g.2.2 2001)), (2, .int 115)]) hx hb dX11_number_29 hl (by decide) rfl (fun ls hl => ?_)
  refine q_loop (g.2.2 2010) (fun i9 f9 H locs ls => va_P g.1 CLS [(q_1, .inl (g.2.1 1, 3, .inl (fun _ => 0))), (q_2, .inr (0, [.int (nI i9), .int (f9 0), .int (nI (g.2.2 2012)), .ref (g.2.2 2002)]))] H ∧ va_D A [(q_1, .inl (g.2.1 1, 3, .inl (fun _ => 0))), (q_2, .inr (0, [.int (nI i9), .int (f9 0), .int (nI (g.2.2 2012)), .ref (g.2.2 2002)]))] ∧ va_S A s.heap H locs ∧ lv_has ls 9 [(6, .ref q_2), (5, .ref q_1), (4, .int 0), (3, .int 4), (0, .ref (g.2.2 2000)), (1, .ref (g.2.2 2001)), (2, .int 115)]) (fun i9 f9 H locs ls hk hp ih => ?_) (fun f9 H locs ls hp => ?_) (fun _ => -1) ⟨hP, hD, hS, hl⟩
  · obtain ⟨hP, hD, hS, hl⟩ := hp
    refine lv_aload hx hb dX11_number_31 (lv_at hl 0 rfl) ?_
    have hPc := hP.sub (ws' := [(q_2, .inr (0, [.int (nI i9), .int (f9 0), .int (nI (g.2.2 2012)), .ref (g.2.2 2002)]))]) [1] rfl
    have hDc := hD.sub (ws' := [(q_2, .inr (0, [.int (nI i9), .int (f9 0), .int (nI (g.2.2 2012)), .ref (g.2.2 2002)]))]) [1] (by decide) rfl
    have hFc := va_free (wc := [(q_2, .inr (0, [.int (nI i9), .int (f9 0), .int (nI (g.2.2 2012)), .ref (g.2.2 2002)]))]) hD hS hA [1] rfl
    refine q_cFi (wr := [(q_1, .inl (g.2.1 1, 3, .inl (fun _ => 0)))]) (va_runF (As := []) (rest := []) (hK.1 0 _ rfl).2 ⟨hx, hb, hml, hown, htg⟩ (c_hasNext1 l hfl g q_2 i9 (f9 0) (hk) H.size) (qI5 htg k1455 k73 k1447 k1451 k1453 (hT.1.2.2.2.1) okx_hasNext rfl rfl ⟨Nat.le_of_ble_eq_true rfl, Nat.le_of_ble_eq_true rfl⟩) ⟨(q_pre [.ref q_2] hPc hDc hK hS hT hFc).1, va_recv hK hP (ci := 0) (q0 := 1) rfl rfl, (q_pre [.ref q_2] hPc hDc hK hS hT hFc).2⟩ rfl rfl hl.1 rfl (lv_room (Nat.le_of_ble_eq_true rfl)) dX11_number_33 ⟨Nat.le_of_ble_eq_true rfl, Nat.le_of_ble_eq_true rfl⟩) hP hD hS hFc [1] [0] rfl rfl (by decide) (by decide) (fun r9 u9 H locs hw hP hD hS => ?_)
    try dsimp only at hw
    rcases hw with ⟨rfl, rfl⟩
    have hP : va_P g.1 CLS [(q_1, .inl (g.2.1 1, 3, .inl (fun _ => 0))), (q_2, .inr (0, [.int (nI i9), .int (f9 0), .int (nI (g.2.2 2012)), .ref (g.2.2 2002)]))] H := hP
    have hD : va_D A [(q_1, .inl (g.2.1 1, 3, .inl (fun _ => 0))), (q_2, .inr (0, [.int (nI i9), .int (f9 0), .int (nI (g.2.2 2012)), .ref (g.2.2 2002)]))] := hD
    refine W.widen (k := 2) (n := 7) (Nat.le_of_ble_eq_true rfl) (Nat.le_of_ble_eq_true rfl) ?_
    refine lv_if_eq (tgt := 193) hx hb dX11_number_38 (by decide) (fun c_3 => absurd c_3 (by decide)) (fun c_3 => ?_)
    refine lv_aload hx hb dX11_number_41 (lv_at hl 0 rfl) ?_
    have hPc := hP.sub (ws' := [(q_2, .inr (0, [.int (nI i9), .int (f9 0), .int (nI (g.2.2 2012)), .ref (g.2.2 2002)]))]) [1] rfl
    have hDc := hD.sub (ws' := [(q_2, .inr (0, [.int (nI i9), .int (f9 0), .int (nI (g.2.2 2012)), .ref (g.2.2 2002)]))]) [1] (by decide) rfl
    have hFc := va_free (wc := [(q_2, .inr (0, [.int (nI i9), .int (f9 0), .int (nI (g.2.2 2012)), .ref (g.2.2 2002)]))]) hD hS hA [1] rfl
    refine q_cFq (wr := [(q_1, .inl (g.2.1 1, 3, .inl (fun _ => 0)))]) (va_runF (As := []) (rest := []) (hK.1 0 _ rfl).2 ⟨hx, hb, hml, hown, htg⟩ (c_next l hfl g q_2 i9 (f9 0) (hk) H.size) (qI5 htg k1464 k73 k1457 k1460 k1462 (hT.1.2.2.2.2.1) okx_next rfl rfl ⟨Nat.le_of_ble_eq_true rfl, Nat.le_of_ble_eq_true rfl⟩) ⟨(q_pre [.ref q_2] hPc hDc hK hS hT hFc).1, va_recv hK hP (ci := 0) (q0 := 1) rfl rfl, (q_pre [.ref q_2] hPc hDc hK hS hT hFc).2⟩ rfl rfl hl.1 rfl (lv_room (Nat.le_of_ble_eq_true rfl)) dX11_number_43 ⟨Nat.le_of_ble_eq_true rfl, Nat.le_of_ble_eq_true rfl⟩) hP hD hS hFc [1] [0] rfl rfl (by decide) (by decide) (fun r9 u9 H locs hw hP hD hS => ?_)
    try dsimp only at hw
    rcases hw with ⟨rfl, rfl⟩
    have hP : va_P g.1 CLS [(q_1, .inl (g.2.1 1, 3, .inl (fun _ => 0))), (q_2, .inr (0, [.int (nI (i9 + 1)), .int (nI i9), .int (nI (g.2.2 2012)), .ref (g.2.2 2002)]))] H := hP
    have hD : va_D A [(q_1, .inl (g.2.1 1, 3, .inl (fun _ => 0))), (q_2, .inr (0, [.int (nI (i9 + 1)), .int (nI i9), .int (nI (g.2.2 2012)), .ref (g.2.2 2002)]))] := hD
    refine W.widen (k := 2) (n := 7) (Nat.le_of_ble_eq_true rfl) (Nat.le_of_ble_eq_true rfl) ?_
    refine va_castE hx hb hown (htg _ k1673) (va_Orecv ((hT.2.2.2.2.2.2.1 i9 hk).2.1) hS) dX11_number_48 ?_
    refine lv_astore (lv' := [(7, .ref (g.2.2 (3000 + i9))), (6, .ref q_2), (5, .ref q_1), (4, .int 0), (3, .int 4), (0, .ref (g.2.2 2000)), (1, .ref (g.2.2 2001)), (2, .int 115)]) hx hb dX11_number_51 hl (by decide) rfl (fun ls hl => ?_)
    refine lv_aload hx hb dX11_number_53 (lv_at hl 0 rfl) ?_
    refine q_getfN (v := .int 1) hx hb ((hT.2.2.2.2.2.2.1 i9 hk).2.2.1) hS hown (va_Nw.use rfl (hT.1.1 _ (List.mem_of_getElem? (i := 24) rfl))) (fun _ h9 => h9) dX11_number_55 ?_
    refine lv_if_eq (tgt := 190) hx hb dX11_number_58 (by decide) (fun c_4 => absurd c_4 (by decide)) (fun c_4 => ?_)
    refine lv_aload hx hb dX11_number_61 (lv_at hl 0 rfl) ?_
    refine q_getfN (v := .int 0) hx hb ((hT.2.2.2.2.2.2.1 i9 hk).2.2.2.1) hS hown (va_Nw.use rfl (hT.1.1 _ (List.mem_of_getElem? (i := 17) rfl))) (fun _ h9 => h9) dX11_number_63 ?_
    refine lv_aload_n hx hb dX11_number_66 rfl (lv_at hl 6 rfl) ?_
    refine q_getfN (v := .int 0) hx hb (hE.2.2.2.1) hS hown (va_Nw.use rfl (hT.1.1 _ (List.mem_of_getElem? (i := 3) rfl))) (fun _ h9 => h9) dX11_number_67 ?_
    refine lv_icmp_ne (tgt := 190) hx hb dX11_number_70 (by decide) (fun c_5 => absurd (by decide) c_5) (fun c_5 => ?_)
    refine lv_aload hx hb dX11_number_73 (lv_at hl 0 rfl) ?_
    refine q_getfN (v := .int 112) hx hb ((hT.2.2.2.2.2.2.1 i9 hk).2.2.2.2.1) hS hown (va_Nw.use rfl (hT.1.1 _ (List.mem_of_getElem? (i := 18) rfl))) (fun _ h9 => h9) dX11_number_75 ?_
    refine lv_iload_n hx hb dX11_number_78 rfl (lv_at hl 7 rfl) ?_
    refine lv_icmp_ne (tgt := 190) hx hb dX11_number_79 (by decide) (fun c_6 => ?_) (fun c_6 => absurd c_6 (by decide))
    refine lv_goto (tgt := 31) hx hb dX11_number_190 (by decide) ?_
    exact ih (fun _ => nI i9) H locs ls ⟨hP, hD, hS, lv_sub hl [1, 2, 3, 4, 5, 6, 7] rfl⟩
  · obtain ⟨hP, hD, hS, hl⟩ := hp
    refine lv_aload hx hb dX11_number_31 (lv_at hl 0 rfl) ?_
    have hPc := hP.sub (ws' := [(q_2, .inr (0, [.int (nI (g.2.2 2010)), .int (f9 0), .int (nI (g.2.2 2012)), .ref (g.2.2 2002)]))]) [1] rfl
    have hDc := hD.sub (ws' := [(q_2, .inr (0, [.int (nI (g.2.2 2010)), .int (f9 0), .int (nI (g.2.2 2012)), .ref (g.2.2 2002)]))]) [1] (by decide) rfl
    have hFc := va_free (wc := [(q_2, .inr (0, [.int (nI (g.2.2 2010)), .int (f9 0), .int (nI (g.2.2 2012)), .ref (g.2.2 2002)]))]) hD hS hA [1] rfl
    refine q_cFi (wr := [(q_1, .inl (g.2.1 1, 3, .inl (fun _ => 0)))]) (va_runF (As := []) (rest := []) (hK.1 0 _ rfl).2 ⟨hx, hb, hml, hown, htg⟩ (c_hasNext0 l hfl g q_2 (f9 0)  H.size) (qI5 htg k1455 k73 k1447 k1451 k1453 (hT.1.2.2.2.1) okx_hasNext rfl rfl ⟨Nat.le_of_ble_eq_true rfl, Nat.le_of_ble_eq_true rfl⟩) ⟨(q_pre [.ref q_2] hPc hDc hK hS hT hFc).1, va_recv hK hP (ci := 0) (q0 := 1) rfl rfl, (q_pre [.ref q_2] hPc hDc hK hS hT hFc).2⟩ rfl rfl hl.1 rfl (lv_room (Nat.le_of_ble_eq_true rfl)) dX11_number_33 ⟨Nat.le_of_ble_eq_true rfl, Nat.le_of_ble_eq_true rfl⟩) hP hD hS hFc [1] [0] rfl rfl (by decide) (by decide) (fun r9 u9 H locs hw hP hD hS => ?_)
    try dsimp only at hw
    rcases hw with ⟨rfl, rfl⟩
    have hP : va_P g.1 CLS [(q_1, .inl (g.2.1 1, 3, .inl (fun _ => 0))), (q_2, .inr (0, [.int (nI (g.2.2 2010)), .int (f9 0), .int (nI (g.2.2 2012)), .ref (g.2.2 2002)]))] H := hP
    have hD : va_D A [(q_1, .inl (g.2.1 1, 3, .inl (fun _ => 0))), (q_2, .inr (0, [.int (nI (g.2.2 2010)), .int (f9 0), .int (nI (g.2.2 2012)), .ref (g.2.2 2002)]))] := hD
    refine W.widen (k := 2) (n := 7) (Nat.le_of_ble_eq_true rfl) (Nat.le_of_ble_eq_true rfl) ?_
    refine lv_if_eq (tgt := 193) hx hb dX11_number_38 (by decide) (fun c_7 => ?_) (fun c_7 => absurd (by decide) c_7)
    refine lv_iload_n hx hb dX11_number_193 rfl (lv_at hl 3 rfl) ?_
    refine lv_iload hx hb dX11_number_194 (lv_at hl 2 rfl) ?_
    refine lv_iadd hx hb dX11_number_196 ?_
    refine lv_topi (fun x_8 ex_8 => ?_)
    obtain rfl : x_8 = 4 := ex_8.trans (by decide)
    refine lv_aload hx hb dX11_number_197 (lv_at hl 1 rfl) ?_
    refine lv_iconst (v := 0) hx hb dX11_number_199 (by decide) ?_
    refine va_iald hx hb hK hP 0 1 rfl rfl (i := 0) (vp_in_iff.mpr (by decide)) dX11_number_200 ?_
    refine lv_topi (fun x_9 ex_9 => ?_)
    obtain rfl : x_9 = 0 := ex_9.trans rfl
    refine lv_iadd hx hb dX11_number_201 ?_
    refine lv_topi (fun x_10 ex_10 => ?_)
    obtain rfl : x_10 = 4 := ex_10.trans (by decide)
    refine lv_aload hx hb dX11_number_202 (lv_at hl 1 rfl) ?_
    refine lv_iconst (v := 1) hx hb dX11_number_204 (by decide) ?_
    refine va_iald hx hb hK hP 0 1 rfl rfl (i := 1) (vp_in_iff.mpr (by decide)) dX11_number_205 ?_
    refine lv_topi (fun x_11 ex_11 => ?_)
    obtain rfl : x_11 = 0 := ex_11.trans rfl
    refine lv_iadd hx hb dX11_number_206 ?_
    refine lv_topi (fun x_12 ex_12 => ?_)
    obtain rfl : x_12 = 4 := ex_12.trans (by decide)
    refine lv_aload hx hb dX11_number_207 (lv_at hl 1 rfl) ?_
    refine lv_iconst (v := 2) hx hb dX11_number_209 (by decide) ?_
    refine va_iald hx hb hK hP 0 1 rfl rfl (i := 2) (vp_in_iff.mpr (by decide)) dX11_number_210 ?_
    refine lv_topi (fun x_13 ex_13 => ?_)
    obtain rfl : x_13 = 0 := ex_13.trans rfl
    refine lv_iadd hx hb dX11_number_211 ?_
    refine lv_topi (fun x_14 ex_14 => ?_)
    obtain rfl : x_14 = 4 := ex_14.trans (by decide)
    have hz := two_new hAe hP hD
    have hP9 := hP.sub (ws' := []) [] rfl
    have hD9 := hD.sub (ws' := []) [] (by decide) rfl
    refine W.widen (k := 2) (n := 7) (Nat.le_of_ble_eq_true rfl) (Nat.le_of_ble_eq_true rfl) ?_
    exact W.iret (v := 4) hx hb hr (fun t ht hW => ⟨⟨4, [], rfl, ⟨rfl, rfl⟩, ⟨by rw [ht]; exact hP9, va_K.moved hW.alike hK, hD9⟩, by rw [ht, hH0]; exact hz⟩, hS.F ht⟩) hS.2.2 dX11_number_212

set_option maxHeartbeats 4000000 in
set_option maxRecDepth 100000 in
theorem c_check (l : Launch) (hfl : l.stackTraces = false) (g : GP)   : ZIa l yX11_check (wG yX11_check cX11_check 2 (Option.some Jvm.ClassFile.FieldType.int)) (LV 6 2 7) g [.ref (g.2.2 2000), .ref (g.2.2 2001)] ([]) 2 (fun (r : Int32) (u : va_W) => r = 12 ∧ u = []) := by
  intro sz
  refine Met.ofW (cc := cX11_check) (maxL := 2) (ret := (Option.some Jvm.ClassFile.FieldType.int)) (by decide) rfl ?_
  intro p e s m args below meth c s₁ B hml hv
  obtain ⟨rfl, ⟨hsz, hP, hK, hD0, hT0⟩, hE⟩ := hv
  have hx := B.exec
  have hb := B.bytes
  have hr := B.returns
  have hts := atoms_spec (ws := (wG yX11_check cX11_check 2 (Option.some Jvm.ClassFile.FieldType.int))) B.pre
  have htg : ∀ w ∈ G9, w.before _ s = true := fun w h => hts w (List.mem_cons_of_mem _ h)
  have hown : s.vm.findClass "HeroTableModel" = some m.cls := findClass_of_methodNamed B.named
  have hlocks := B.notSynchronized
  subst hsz
  have hD := hD0.self (sz := s.heap.size)
  have hT := hT0
  clear hT0
  generalize hAe : va_A [] s.heap.size = A at hD hT hE ⊢
  have hA : ∀ q : Nat, s.heap.size ≤ q → A q := fun q h => by rw [← hAe]; exact Or.inr h
  obtain ⟨H, hH0⟩ : ∃ H, H = s.heap := ⟨_, rfl⟩
  have hS : va_S A s.heap H [] := by rw [hH0]; exact va_S.rf
  have hP : va_P g.1 CLS [] H := by rw [hH0]; exact hP
  rw [← hH0]
  have hl := lv_entry ([.ref (g.2.2 2000), .ref (g.2.2 2001)]) (n := 2) (Nat.le_of_ble_eq_true rfl)
  rw [lg_entry_eq]
  generalize (lg_sl ([.ref (g.2.2 2000), .ref (g.2.2 2001)]) ++ List.replicate (2 - (lg_sl ([.ref (g.2.2 2000), .ref (g.2.2 2001)])).length) Slot.unset).toArray = ls at hl ⊢
  have hl : lv_has ls 2 [(0, .ref (g.2.2 2000)), (1, .ref (g.2.2 2001))] := hl
  refine lv_aload_n hx hb dX11_check_0 rfl (lv_at hl 0 rfl) ?_
  have hPc := hP.sub (ws' := []) [] rfl
  have hDc := hD.sub (ws' := []) [] (by decide) rfl
  have hFc := va_free (wc := []) hD hS hA [] rfl
  refine q_ci (wr := []) (va_runV (As := []) (rest := []) ⟨hx, hb, hml, hown, htg⟩ (c_die l hfl g   H.size) ⟨(qB htg k2117 k57 k2114 ok_X11_die rfl rfl ⟨Nat.le_of_ble_eq_true rfl, Nat.le_of_ble_eq_true rfl⟩), htg _ k2116, htg _ k36⟩ ⟨(q_prea [.ref (g.2.2 2000)] hPc hDc hK hS hT hE hFc).1, va_Orecv (hE.1) hS, (q_prea [.ref (g.2.2 2000)] hPc hDc hK hS hT hE hFc).2⟩ rfl rfl hl.1 rfl (lv_room (Nat.le_of_ble_eq_true rfl)) dX11_check_1 ⟨Nat.le_of_ble_eq_true rfl, Nat.le_of_ble_eq_true rfl⟩) hP hD hS hFc [] [] rfl rfl (by decide) (by decide) (fun r9 u9 H locs hw hP hD hS => ?_)
  try dsimp only at hw
  rcases hw with ⟨rfl, rfl⟩
  have hP : va_P g.1 CLS [] H := hP
  have hD : va_D A [] := hD
  refine W.widen (k := 0) (n := 0) (Nat.le_of_ble_eq_true rfl) (Nat.le_of_ble_eq_true rfl) ?_
  refine lv_aload_n hx hb dX11_check_4 rfl (lv_at hl 0 rfl) ?_
  refine lv_aload_n hx hb dX11_check_5 rfl (lv_at hl 1 rfl) ?_
  refine lv_bipush (v := 119) hx hb dX11_check_6 (by decide) ?_
  have hPc := hP.sub (ws' := []) [] rfl
  have hDc := hD.sub (ws' := []) [] (by decide) rfl
  have hFc := va_free (wc := []) hD hS hA [] rfl
  have hz0 := hS.1
  refine q_ciZ (wr := []) (va_runV (As := [.ref (g.2.2 2001), .int 119]) (rest := [.int 10]) ⟨hx, hb, hml, hown, htg⟩ (c_number_w l hfl g   H.size) ⟨(qB htg k1791 k57 k1788 ok_X11_number rfl rfl ⟨Nat.le_of_ble_eq_true rfl, Nat.le_of_ble_eq_true rfl⟩), htg _ k1790, htg _ k28⟩ ⟨(q_prea [.ref (g.2.2 2000), .ref (g.2.2 2001), .int 119] hPc hDc hK hS hT hE hFc).1, va_Orecv (hE.1) hS, (q_prea [.ref (g.2.2 2000), .ref (g.2.2 2001), .int 119] hPc hDc hK hS hT hE hFc).2⟩ rfl rfl hl.1 rfl (lv_room (Nat.le_of_ble_eq_true rfl)) dX11_check_8 ⟨Nat.le_of_ble_eq_true rfl, Nat.le_of_ble_eq_true rfl⟩) hP hD hS hFc [] [] rfl rfl (by decide) (by decide) (fun r9 u9 H locs hZ hw hP hD hS => ?_)
  have hz := Nat.le_trans (Nat.add_le_add_right hz0 2) hZ
  try dsimp only at hw
  rcases hw with ⟨rfl, rfl⟩
  have hP : va_P g.1 CLS [] H := hP
  have hD : va_D A [] := hD
  refine W.widen (k := 2) (n := 7) (Nat.le_of_ble_eq_true rfl) (Nat.le_of_ble_eq_true rfl) ?_
  refine lv_iadd hx hb dX11_check_11 ?_
  refine lv_topi (fun x_1 ex_1 => ?_)
  obtain rfl : x_1 = 12 := ex_1.trans (by decide)
  have hP9 := hP.sub (ws' := []) [] rfl
  have hD9 := hD.sub (ws' := []) [] (by decide) rfl
  refine W.widen (k := 2) (n := 7) (Nat.le_of_ble_eq_true rfl) (Nat.le_of_ble_eq_true rfl) ?_
  exact W.iret (v := 12) hx hb hr (fun t ht hW => ⟨⟨12, [], rfl, ⟨rfl, rfl⟩, ⟨by rw [ht]; exact hP9, va_K.moved hW.alike hK, hD9⟩, by rw [ht, hH0]; exact hz⟩, hS.F ht⟩) hS.2.2 dX11_check_12
end
section
theorem k1354 : (Jvm.Cond.laysFinal "HeroTableModel" "HeroTableModel" "heroes" "Ljava/util/List;") ∈ G9 := g9 1354 (by decide +kernel) rfl
theorem k1356 : (Jvm.Cond.laysFinal "HeroTableModel" "HeroTableModel" "ground" "[C") ∈ G9 := g9 1356 (by decide +kernel) rfl
theorem k1358 : (Jvm.Cond.laysFinal "HeroTableModel" "HeroTableModel" "sources" "Ljava/util/List;") ∈ G9 := g9 1358 (by decide +kernel) rfl
theorem k1360 : (Jvm.Cond.laysFinal "HeroTableModel" "HeroTableModel" "dice" "Ljava/util/ArrayDeque;") ∈ G9 := g9 1360 (by decide +kernel) rfl
theorem k1362 : (Jvm.Cond.laysFinal "HeroTableModel" "HeroTableModel" "calls" "Ljava/util/List;") ∈ G9 := g9 1362 (by decide +kernel) rfl
theorem k1364 : (Jvm.Cond.laysFinal "HeroTableModel" "HeroTableModel" "order" "Ljava/util/List;") ∈ G9 := g9 1364 (by decide +kernel) rfl
theorem k1366 : (Jvm.Cond.lays "HeroTableModel" "HeroTableModel" "at" "I") ∈ G9 := g9 1366 (by decide +kernel) rfl
theorem k1368 : (Jvm.Cond.lays "HeroTableModel" "HeroTableModel" "round" "I") ∈ G9 := g9 1368 (by decide +kernel) rfl
theorem k1370 : (Jvm.Cond.lays "HeroTableModel" "HeroTableModel" "steps" "I") ∈ G9 := g9 1370 (by decide +kernel) rfl
theorem k1372 : (Jvm.Cond.lays "HeroTableModel" "HeroTableModel" "hasAction" "Z") ∈ G9 := g9 1372 (by decide +kernel) rfl
theorem k1374 : (Jvm.Cond.lays "HeroTableModel" "HeroTableModel" "harmDone" "J") ∈ G9 := g9 1374 (by decide +kernel) rfl
theorem k1376 : (Jvm.Cond.lays "HeroTableModel" "HeroTableModel" "attacks" "I") ∈ G9 := g9 1376 (by decide +kernel) rfl
theorem k1378 : (Jvm.Cond.lays "HeroTableModel" "HeroTableModel" "hits" "I") ∈ G9 := g9 1378 (by decide +kernel) rfl
theorem k1380 : (Jvm.Cond.lays "HeroTableModel" "HeroTableModel" "thrown" "I") ∈ G9 := g9 1380 (by decide +kernel) rfl
theorem inG_X11 : ∀ w ∈ u_ws RX11 TX11 14, w ∈ G9 := by
  intro w h
  have h : w ∈ [u_lay RX11 TX11 0, u_lay RX11 TX11 1, u_lay RX11 TX11 2, u_lay RX11 TX11 3, u_lay RX11 TX11 4, u_lay RX11 TX11 5, u_lay RX11 TX11 6, u_lay RX11 TX11 7, u_lay RX11 TX11 8, u_lay RX11 TX11 9, u_lay RX11 TX11 10, u_lay RX11 TX11 11, u_lay RX11 TX11 12, u_lay RX11 TX11 13] := h
  simp only [List.mem_cons, List.not_mem_nil, or_false] at h
  rcases h with rfl | rfl | rfl | rfl | rfl | rfl | rfl | rfl | rfl | rfl | rfl | rfl | rfl | rfl
  · exact k1354
  · exact k1356
  · exact k1358
  · exact k1360
  · exact k1362
  · exact k1364
  · exact k1366
  · exact k1368
  · exact k1370
  · exact k1372
  · exact k1374
  · exact k1376
  · exact k1378
  · exact k1380
theorem k1598 : (Jvm.Cond.laysFinal "HeroTableModel$Hero" "HeroTableModel$Hero" "number" "I") ∈ G9 := g9 1598 (by decide +kernel) rfl
theorem k1600 : (Jvm.Cond.laysFinal "HeroTableModel$Hero" "HeroTableModel$Hero" "side" "I") ∈ G9 := g9 1600 (by decide +kernel) rfl
theorem k1602 : (Jvm.Cond.laysFinal "HeroTableModel$Hero" "HeroTableModel$Hero" "most" "I") ∈ G9 := g9 1602 (by decide +kernel) rfl
theorem k1604 : (Jvm.Cond.laysFinal "HeroTableModel$Hero" "HeroTableModel$Hero" "initiative" "I") ∈ G9 := g9 1604 (by decide +kernel) rfl
theorem k1606 : (Jvm.Cond.laysFinal "HeroTableModel$Hero" "HeroTableModel$Hero" "bases" "[I") ∈ G9 := g9 1606 (by decide +kernel) rfl
theorem k1608 : (Jvm.Cond.lays "HeroTableModel$Hero" "HeroTableModel$Hero" "life" "I") ∈ G9 := g9 1608 (by decide +kernel) rfl
theorem k1610 : (Jvm.Cond.lays "HeroTableModel$Hero" "HeroTableModel$Hero" "spare" "I") ∈ G9 := g9 1610 (by decide +kernel) rfl
theorem k1612 : (Jvm.Cond.lays "HeroTableModel$Hero" "HeroTableModel$Hero" "x" "I") ∈ G9 := g9 1612 (by decide +kernel) rfl
theorem k1614 : (Jvm.Cond.lays "HeroTableModel$Hero" "HeroTableModel$Hero" "y" "I") ∈ G9 := g9 1614 (by decide +kernel) rfl
theorem k1616 : (Jvm.Cond.lays "HeroTableModel$Hero" "HeroTableModel$Hero" "immune" "I") ∈ G9 := g9 1616 (by decide +kernel) rfl
theorem k1618 : (Jvm.Cond.lays "HeroTableModel$Hero" "HeroTableModel$Hero" "slots" "I") ∈ G9 := g9 1618 (by decide +kernel) rfl
theorem k1620 : (Jvm.Cond.lays "HeroTableModel$Hero" "HeroTableModel$Hero" "hasReaction" "Z") ∈ G9 := g9 1620 (by decide +kernel) rfl
theorem k1622 : (Jvm.Cond.lays "HeroTableModel$Hero" "HeroTableModel$Hero" "trigger" "C") ∈ G9 := g9 1622 (by decide +kernel) rfl
theorem k1624 : (Jvm.Cond.lays "HeroTableModel$Hero" "HeroTableModel$Hero" "reaction" "C") ∈ G9 := g9 1624 (by decide +kernel) rfl
theorem inG_X9 : ∀ w ∈ u_ws RX9 TX9 14, w ∈ G9 := by
  intro w h
  have h : w ∈ [u_lay RX9 TX9 0, u_lay RX9 TX9 1, u_lay RX9 TX9 2, u_lay RX9 TX9 3, u_lay RX9 TX9 4, u_lay RX9 TX9 5, u_lay RX9 TX9 6, u_lay RX9 TX9 7, u_lay RX9 TX9 8, u_lay RX9 TX9 9, u_lay RX9 TX9 10, u_lay RX9 TX9 11, u_lay RX9 TX9 12, u_lay RX9 TX9 13] := h
  simp only [List.mem_cons, List.not_mem_nil, or_false] at h
  rcases h with rfl | rfl | rfl | rfl | rfl | rfl | rfl | rfl | rfl | rfl | rfl | rfl | rfl | rfl
  · exact k1598
  · exact k1600
  · exact k1602
  · exact k1604
  · exact k1606
  · exact k1608
  · exact k1610
  · exact k1612
  · exact k1614
  · exact k1616
  · exact k1618
  · exact k1620
  · exact k1622
  · exact k1624
theorem k1747 : (Jvm.Cond.laysFinal "HeroTableModel$Source" "HeroTableModel$Source" "hero" "I") ∈ G9 := g9 1747 (by decide +kernel) rfl
theorem k1749 : (Jvm.Cond.laysFinal "HeroTableModel$Source" "HeroTableModel$Source" "letter" "C") ∈ G9 := g9 1749 (by decide +kernel) rfl
theorem k1751 : (Jvm.Cond.laysFinal "HeroTableModel$Source" "HeroTableModel$Source" "type" "C") ∈ G9 := g9 1751 (by decide +kernel) rfl
theorem k1753 : (Jvm.Cond.laysFinal "HeroTableModel$Source" "HeroTableModel$Source" "amount" "I") ∈ G9 := g9 1753 (by decide +kernel) rfl
theorem k1755 : (Jvm.Cond.laysFinal "HeroTableModel$Source" "HeroTableModel$Source" "whose" "I") ∈ G9 := g9 1755 (by decide +kernel) rfl
theorem k1757 : (Jvm.Cond.laysFinal "HeroTableModel$Source" "HeroTableModel$Source" "hasRounds" "Z") ∈ G9 := g9 1757 (by decide +kernel) rfl
theorem k1759 : (Jvm.Cond.lays "HeroTableModel$Source" "HeroTableModel$Source" "rounds" "I") ∈ G9 := g9 1759 (by decide +kernel) rfl
theorem k1761 : (Jvm.Cond.lays "HeroTableModel$Source" "HeroTableModel$Source" "isLive" "Z") ∈ G9 := g9 1761 (by decide +kernel) rfl
theorem k1763 : (Jvm.Cond.lays "HeroTableModel$Source" "HeroTableModel$Source" "minder" "I") ∈ G9 := g9 1763 (by decide +kernel) rfl
theorem k1765 : (Jvm.Cond.lays "HeroTableModel$Source" "HeroTableModel$Source" "isOfHarm" "Z") ∈ G9 := g9 1765 (by decide +kernel) rfl
theorem inG_X10 : ∀ w ∈ u_ws RX10 TX10 10, w ∈ G9 := by
  intro w h
  have h : w ∈ [u_lay RX10 TX10 0, u_lay RX10 TX10 1, u_lay RX10 TX10 2, u_lay RX10 TX10 3, u_lay RX10 TX10 4, u_lay RX10 TX10 5, u_lay RX10 TX10 6, u_lay RX10 TX10 7, u_lay RX10 TX10 8, u_lay RX10 TX10 9] := h
  simp only [List.mem_cons, List.not_mem_nil, or_false] at h
  rcases h with rfl | rfl | rfl | rfl | rfl | rfl | rfl | rfl | rfl | rfl
  · exact k1747
  · exact k1749
  · exact k1751
  · exact k1753
  · exact k1755
  · exact k1757
  · exact k1759
  · exact k1761
  · exact k1763
  · exact k1765
theorem k1319 : (Jvm.Cond.lays "java/util/ArrayList" "java/util/AbstractList" "modCount" "I") ∈ G9 := g9 1319 (by decide +kernel) rfl
theorem k1315 : (Jvm.Cond.lays "java/util/ArrayList" "java/util/ArrayList" "elementData" "[Ljava/lang/Object;") ∈ G9 := g9 1315 (by decide +kernel) rfl
theorem k1317 : (Jvm.Cond.lays "java/util/ArrayList" "java/util/ArrayList" "size" "I") ∈ G9 := g9 1317 (by decide +kernel) rfl
theorem inG_Jx4a65c : ∀ w ∈ u_ws RJx4a65c TJx4a65c 3, w ∈ G9 := by
  intro w h
  have h : w ∈ [u_lay RJx4a65c TJx4a65c 0, u_lay RJx4a65c TJx4a65c 1, u_lay RJx4a65c TJx4a65c 2] := h
  simp only [List.mem_cons, List.not_mem_nil, or_false] at h
  rcases h with rfl | rfl | rfl
  · exact k1319
  · exact k1315
  · exact k1317
theorem k1310 : (Jvm.Cond.fieldLink "java/util/ArrayList" (48 : Nat) "java/util/ArrayList" "size" "I") ∈ G9 := g9 1310 (by decide +kernel) rfl
theorem k1313 : (Jvm.Cond.sameField "java/util/ArrayList" "java/util/AbstractList" "modCount" "I") ∈ G9 := g9 1313 (by decide +kernel) rfl
theorem k1314 : (Jvm.Cond.fieldLink "java/util/ArrayList" (63 : Nat) "java/util/ArrayList" "modCount" "I") ∈ G9 := g9 1314 (by decide +kernel) rfl
theorem k1307 : (Jvm.Cond.fieldLink "java/util/ArrayList" (9 : Nat) "java/util/ArrayList" "elementData" "[Ljava/lang/Object;") ∈ G9 := g9 1307 (by decide +kernel) rfl
theorem k1512 : (Jvm.Cond.code ({ cls := "java/util/ArrayList", name := "add", desc := "(Ljava/lang/Object;[Ljava/lang/Object;I)V" } : Jvm.MethodName) prog_45_method_24_code (4 : Nat) (Option.none : Option Jvm.ClassFile.FieldType)) ∈ G9 := g9 1512 (by decide +kernel) rfl
theorem k1509 : (Jvm.Cond.methodLink "java/util/ArrayList" (131 : Nat) ({ cls := "java/util/ArrayList", name := "add", desc := "(Ljava/lang/Object;[Ljava/lang/Object;I)V" } : Jvm.MethodName)) ∈ G9 := g9 1509 (by decide +kernel) rfl
theorem ok_Jx4a65c_add_72be8 : okN yJx4a65c_add_72be8 3 := by decide +kernel
theorem k1511 : (Jvm.Cond.instanceMethod ({ cls := "java/util/ArrayList", name := "add", desc := "(Ljava/lang/Object;[Ljava/lang/Object;I)V" } : Jvm.MethodName)) ∈ G9 := g9 1511 (by decide +kernel) rfl
theorem k20 : (Jvm.Cond.selects "java/util/ArrayList" ({ cls := "java/util/ArrayList", name := "add", desc := "(Ljava/lang/Object;[Ljava/lang/Object;I)V" } : Jvm.MethodName) ({ cls := "java/util/ArrayList", name := "add", desc := "(Ljava/lang/Object;[Ljava/lang/Object;I)V" } : Jvm.MethodName)) ∈ G9 := g9 20 (by decide +kernel) rfl
theorem k1490 : (Jvm.Cond.methodLink "HeroTableModel$Call" (1 : Nat) ({ cls := "java/lang/Object", name := "<init>", desc := "()V" } : Jvm.MethodName)) ∈ G9 := g9 1490 (by decide +kernel) rfl
theorem k1495 : (Jvm.Cond.laysFinal "HeroTableModel$Call" "HeroTableModel$Call" "what" "C") ∈ G9 := g9 1495 (by decide +kernel) rfl
theorem k1497 : (Jvm.Cond.laysFinal "HeroTableModel$Call" "HeroTableModel$Call" "numbers" "[I") ∈ G9 := g9 1497 (by decide +kernel) rfl
theorem inG_X8 : ∀ w ∈ u_ws RX8 TX8 2, w ∈ G9 := by
  intro w h
  have h : w ∈ [u_lay RX8 TX8 0, u_lay RX8 TX8 1] := h
  simp only [List.mem_cons, List.not_mem_nil, or_false] at h
  rcases h with rfl | rfl
  · exact k1495
  · exact k1497
theorem k1491 : (Jvm.Cond.fieldLink "HeroTableModel$Call" (7 : Nat) "HeroTableModel$Call" "what" "C") ∈ G9 := g9 1491 (by decide +kernel) rfl
theorem k1493 : (Jvm.Cond.fieldLink "HeroTableModel$Call" (13 : Nat) "HeroTableModel$Call" "numbers" "[I") ∈ G9 := g9 1493 (by decide +kernel) rfl
theorem k1344 : (Jvm.Cond.fieldLink "HeroTableModel" (30 : Nat) "HeroTableModel" "calls" "Ljava/util/List;") ∈ G9 := g9 1344 (by decide +kernel) rfl
theorem k1485 : (Jvm.Cond.classLink "HeroTableModel" (61 : Nat) "HeroTableModel$Call") ∈ G9 := g9 1485 (by decide +kernel) rfl
theorem k1486 : (Jvm.Cond.instantiable "HeroTableModel$Call" (2 : Nat)) ∈ G9 := g9 1486 (by decide +kernel) rfl
theorem k74 : (Jvm.Cond.initialized "HeroTableModel$Call") ∈ G9 := g9 74 (by decide +kernel) rfl
theorem k1489 : (Jvm.Cond.code ({ cls := "HeroTableModel$Call", name := "<init>", desc := "(C[I)V" } : Jvm.MethodName) prog_11_method_1_code (3 : Nat) (Option.none : Option Jvm.ClassFile.FieldType)) ∈ G9 := g9 1489 (by decide +kernel) rfl
theorem k1487 : (Jvm.Cond.methodLink "HeroTableModel" (63 : Nat) ({ cls := "HeroTableModel$Call", name := "<init>", desc := "(C[I)V" } : Jvm.MethodName)) ∈ G9 := g9 1487 (by decide +kernel) rfl
theorem ok_X8_init : okN yX8_init 2 := by decide +kernel
theorem k1488 : (Jvm.Cond.instanceMethod ({ cls := "HeroTableModel$Call", name := "<init>", desc := "(C[I)V" } : Jvm.MethodName)) ∈ G9 := g9 1488 (by decide +kernel) rfl
theorem k1508 : (Jvm.Cond.code ({ cls := "java/util/ArrayList", name := "add", desc := "(Ljava/lang/Object;)Z" } : Jvm.MethodName) prog_45_method_25_code (2 : Nat) (Option.some Jvm.ClassFile.FieldType.boolean)) ∈ G9 := g9 1508 (by decide +kernel) rfl
theorem k1501 : (Jvm.Cond.methodLink "HeroTableModel" (66 : Nat) ({ cls := "java/util/List", name := "add", desc := "(Ljava/lang/Object;)Z" } : Jvm.MethodName)) ∈ G9 := g9 1501 (by decide +kernel) rfl
theorem k1504 : (Jvm.Cond.selects "java/util/ArrayList" ({ cls := "java/util/List", name := "add", desc := "(Ljava/lang/Object;)Z" } : Jvm.MethodName) ({ cls := "java/util/ArrayList", name := "add", desc := "(Ljava/lang/Object;)Z" } : Jvm.MethodName)) ∈ G9 := g9 1504 (by decide +kernel) rfl
theorem k1506 : (Jvm.Cond.instanceMethod ({ cls := "java/util/ArrayList", name := "add", desc := "(Ljava/lang/Object;)Z" } : Jvm.MethodName)) ∈ G9 := g9 1506 (by decide +kernel) rfl
theorem okx_add : okN yI_add 1 := by decide +kernel
theorem k1346 : (Jvm.Cond.fieldLink "HeroTableModel" (36 : Nat) "HeroTableModel" "at" "I") ∈ G9 := g9 1346 (by decide +kernel) rfl
theorem k1658 : (Jvm.Cond.code ({ cls := "jdk/internal/util/Preconditions", name := "checkIndex", desc := "(IILjava/util/function/BiFunction;)I" } : Jvm.MethodName) prog_58_method_11_code (3 : Nat) (Option.some Jvm.ClassFile.FieldType.int)) ∈ G9 := g9 1658 (by decide +kernel) rfl
theorem k80 : (Jvm.Cond.initialized "jdk/internal/util/Preconditions") ∈ G9 := g9 80 (by decide +kernel) rfl
theorem k1656 : (Jvm.Cond.methodLink "java/util/Objects" (105 : Nat) ({ cls := "jdk/internal/util/Preconditions", name := "checkIndex", desc := "(IILjava/util/function/BiFunction;)I" } : Jvm.MethodName)) ∈ G9 := g9 1656 (by decide +kernel) rfl
theorem ok_J3_checkIndex_8e157 : okN yJ3_checkIndex_8e157 3 := by decide +kernel
theorem k1657 : (Jvm.Cond.static ({ cls := "jdk/internal/util/Preconditions", name := "checkIndex", desc := "(IILjava/util/function/BiFunction;)I" } : Jvm.MethodName)) ∈ G9 := g9 1657 (by decide +kernel) rfl
theorem k1655 : (Jvm.Cond.code ({ cls := "java/util/Objects", name := "checkIndex", desc := "(II)I" } : Jvm.MethodName) prog_53_method_17_code (2 : Nat) (Option.some Jvm.ClassFile.FieldType.int)) ∈ G9 := g9 1655 (by decide +kernel) rfl
theorem k83 : (Jvm.Cond.initialized "java/util/Objects") ∈ G9 := g9 83 (by decide +kernel) rfl
theorem k1653 : (Jvm.Cond.methodLink "java/util/ArrayList" (118 : Nat) ({ cls := "java/util/Objects", name := "checkIndex", desc := "(II)I" } : Jvm.MethodName)) ∈ G9 := g9 1653 (by decide +kernel) rfl
theorem ok_J15_checkIndex_7cf53 : okN yJ15_checkIndex_7cf53 2 := by decide +kernel
theorem k1654 : (Jvm.Cond.static ({ cls := "java/util/Objects", name := "checkIndex", desc := "(II)I" } : Jvm.MethodName)) ∈ G9 := g9 1654 (by decide +kernel) rfl
theorem k1662 : (Jvm.Cond.code ({ cls := "java/util/ArrayList", name := "elementData", desc := "(I)Ljava/lang/Object;" } : Jvm.MethodName) prog_45_method_18_code (2 : Nat) (Option.some (Jvm.ClassFile.FieldType.object "java/lang/Object"))) ∈ G9 := g9 1662 (by decide +kernel) rfl
theorem k1659 : (Jvm.Cond.methodLink "java/util/ArrayList" (123 : Nat) ({ cls := "java/util/ArrayList", name := "elementData", desc := "(I)Ljava/lang/Object;" } : Jvm.MethodName)) ∈ G9 := g9 1659 (by decide +kernel) rfl
theorem ok_Jx4a65c_elementData_915e3 : okN yJx4a65c_elementData_915e3 1 := by decide +kernel
theorem k1660 : (Jvm.Cond.instanceMethod ({ cls := "java/util/ArrayList", name := "elementData", desc := "(I)Ljava/lang/Object;" } : Jvm.MethodName)) ∈ G9 := g9 1660 (by decide +kernel) rfl
theorem k1661 : (Jvm.Cond.selects "java/util/ArrayList" ({ cls := "java/util/ArrayList", name := "elementData", desc := "(I)Ljava/lang/Object;" } : Jvm.MethodName) ({ cls := "java/util/ArrayList", name := "elementData", desc := "(I)Ljava/lang/Object;" } : Jvm.MethodName)) ∈ G9 := g9 1661 (by decide +kernel) rfl
theorem k1345 : (Jvm.Cond.fieldLink "HeroTableModel" (33 : Nat) "HeroTableModel" "order" "Ljava/util/List;") ∈ G9 := g9 1345 (by decide +kernel) rfl
theorem k1652 : (Jvm.Cond.code ({ cls := "java/util/ArrayList", name := "get", desc := "(I)Ljava/lang/Object;" } : Jvm.MethodName) prog_45_method_20_code (2 : Nat) (Option.some (Jvm.ClassFile.FieldType.object "java/lang/Object"))) ∈ G9 := g9 1652 (by decide +kernel) rfl
theorem k1645 : (Jvm.Cond.methodLink "HeroTableModel" (55 : Nat) ({ cls := "java/util/List", name := "get", desc := "(I)Ljava/lang/Object;" } : Jvm.MethodName)) ∈ G9 := g9 1645 (by decide +kernel) rfl
theorem k1648 : (Jvm.Cond.selects "java/util/ArrayList" ({ cls := "java/util/List", name := "get", desc := "(I)Ljava/lang/Object;" } : Jvm.MethodName) ({ cls := "java/util/ArrayList", name := "get", desc := "(I)Ljava/lang/Object;" } : Jvm.MethodName)) ∈ G9 := g9 1648 (by decide +kernel) rfl
theorem k1650 : (Jvm.Cond.instanceMethod ({ cls := "java/util/ArrayList", name := "get", desc := "(I)Ljava/lang/Object;" } : Jvm.MethodName)) ∈ G9 := g9 1650 (by decide +kernel) rfl
theorem okx_get : okN yI_get 1 := by decide +kernel
theorem k1480 : (Jvm.Cond.classLink "HeroTableModel" (59 : Nat) "HeroTableModel$Hero") ∈ G9 := g9 1480 (by decide +kernel) rfl
theorem k2105 : (Jvm.Cond.code ({ cls := "HeroTableModel", name := "now", desc := "()LHeroTableModel$Hero;" } : Jvm.MethodName) prog_10_method_7_code (1 : Nat) (Option.some (Jvm.ClassFile.FieldType.object "HeroTableModel$Hero"))) ∈ G9 := g9 2105 (by decide +kernel) rfl
theorem k2102 : (Jvm.Cond.methodLink "HeroTableModel" (253 : Nat) ({ cls := "HeroTableModel", name := "now", desc := "()LHeroTableModel$Hero;" } : Jvm.MethodName)) ∈ G9 := g9 2102 (by decide +kernel) rfl
theorem ok_X11_now : okN yX11_now 0 := by decide +kernel
theorem k2104 : (Jvm.Cond.instanceMethod ({ cls := "HeroTableModel", name := "now", desc := "()LHeroTableModel$Hero;" } : Jvm.MethodName)) ∈ G9 := g9 2104 (by decide +kernel) rfl
theorem k34 : (Jvm.Cond.selects "HeroTableModel" ({ cls := "HeroTableModel", name := "now", desc := "()LHeroTableModel$Hero;" } : Jvm.MethodName) ({ cls := "HeroTableModel", name := "now", desc := "()LHeroTableModel$Hero;" } : Jvm.MethodName)) ∈ G9 := g9 34 (by decide +kernel) rfl
theorem k1349 : (Jvm.Cond.fieldLink "HeroTableModel" (272 : Nat) "HeroTableModel" "hasAction" "Z") ∈ G9 := g9 1349 (by decide +kernel) rfl
theorem k1711 : (Jvm.Cond.methodLink "HeroTableModel" (165 : Nat) ({ cls := "java/lang/Math", name := "max", desc := "(II)I" } : Jvm.MethodName)) ∈ G9 := g9 1711 (by decide +kernel) rfl
theorem k1348 : (Jvm.Cond.fieldLink "HeroTableModel" (275 : Nat) "HeroTableModel" "steps" "I") ∈ G9 := g9 1348 (by decide +kernel) rfl
theorem k1413 : (Jvm.Cond.code ({ cls := "HeroTableModel", name := "isOn", desc := "()Z" } : Jvm.MethodName) prog_10_method_6_code (1 : Nat) (Option.some Jvm.ClassFile.FieldType.boolean)) ∈ G9 := g9 1413 (by decide +kernel) rfl
theorem k1410 : (Jvm.Cond.methodLink "HeroTableModel" (98 : Nat) ({ cls := "HeroTableModel", name := "isOn", desc := "()Z" } : Jvm.MethodName)) ∈ G9 := g9 1410 (by decide +kernel) rfl
theorem ok_X11_isOn : okN yX11_isOn 0 := by decide +kernel
theorem k1412 : (Jvm.Cond.instanceMethod ({ cls := "HeroTableModel", name := "isOn", desc := "()Z" } : Jvm.MethodName)) ∈ G9 := g9 1412 (by decide +kernel) rfl
theorem k17 : (Jvm.Cond.selects "HeroTableModel" ({ cls := "HeroTableModel", name := "isOn", desc := "()Z" } : Jvm.MethodName) ({ cls := "HeroTableModel", name := "isOn", desc := "()Z" } : Jvm.MethodName)) ∈ G9 := g9 17 (by decide +kernel) rfl
theorem k1353 : (Jvm.Cond.fieldLink "HeroTableModel" (40 : Nat) "HeroTableModel" "thrown" "I") ∈ G9 := g9 1353 (by decide +kernel) rfl
theorem k1484 : (Jvm.Cond.code ({ cls := "HeroTableModel", name := "keep", desc := "(C[I)V" } : Jvm.MethodName) prog_10_method_8_code (3 : Nat) (Option.none : Option Jvm.ClassFile.FieldType)) ∈ G9 := g9 1484 (by decide +kernel) rfl
theorem k1481 : (Jvm.Cond.methodLink "HeroTableModel" (105 : Nat) ({ cls := "HeroTableModel", name := "keep", desc := "(C[I)V" } : Jvm.MethodName)) ∈ G9 := g9 1481 (by decide +kernel) rfl
theorem ok_X11_keep : okN yX11_keep 2 := by decide +kernel
theorem k1483 : (Jvm.Cond.instanceMethod ({ cls := "HeroTableModel", name := "keep", desc := "(C[I)V" } : Jvm.MethodName)) ∈ G9 := g9 1483 (by decide +kernel) rfl
theorem k19 : (Jvm.Cond.selects "HeroTableModel" ({ cls := "HeroTableModel", name := "keep", desc := "(C[I)V" } : Jvm.MethodName) ({ cls := "HeroTableModel", name := "keep", desc := "(C[I)V" } : Jvm.MethodName)) ∈ G9 := g9 19 (by decide +kernel) rfl
theorem k1409 : (Jvm.Cond.code ({ cls := "java/util/ArrayList", name := "size", desc := "()I" } : Jvm.MethodName) prog_45_method_8_code (1 : Nat) (Option.some Jvm.ClassFile.FieldType.int)) ∈ G9 := g9 1409 (by decide +kernel) rfl
theorem k1401 : (Jvm.Cond.methodLink "HeroTableModel" (43 : Nat) ({ cls := "java/util/List", name := "size", desc := "()I" } : Jvm.MethodName)) ∈ G9 := g9 1401 (by decide +kernel) rfl
theorem k1405 : (Jvm.Cond.selects "java/util/ArrayList" ({ cls := "java/util/List", name := "size", desc := "()I" } : Jvm.MethodName) ({ cls := "java/util/ArrayList", name := "size", desc := "()I" } : Jvm.MethodName)) ∈ G9 := g9 1405 (by decide +kernel) rfl
theorem k1407 : (Jvm.Cond.instanceMethod ({ cls := "java/util/ArrayList", name := "size", desc := "()I" } : Jvm.MethodName)) ∈ G9 := g9 1407 (by decide +kernel) rfl
theorem okx_size : okN yI_size 0 := by decide +kernel
theorem k2113 : (Jvm.Cond.code ({ cls := "HeroTableModel", name := "check", desc := "(LHeroTableModel$Hero;)I" } : Jvm.MethodName) prog_10_method_36_code (2 : Nat) (Option.some Jvm.ClassFile.FieldType.int)) ∈ G9 := g9 2113 (by decide +kernel) rfl
theorem k2110 : (Jvm.Cond.methodLink "HeroTableModel" (294 : Nat) ({ cls := "HeroTableModel", name := "check", desc := "(LHeroTableModel$Hero;)I" } : Jvm.MethodName)) ∈ G9 := g9 2110 (by decide +kernel) rfl
theorem ok_X11_check : okN yX11_check 1 := by decide +kernel
theorem k2112 : (Jvm.Cond.instanceMethod ({ cls := "HeroTableModel", name := "check", desc := "(LHeroTableModel$Hero;)I" } : Jvm.MethodName)) ∈ G9 := g9 2112 (by decide +kernel) rfl
theorem k35 : (Jvm.Cond.selects "HeroTableModel" ({ cls := "HeroTableModel", name := "check", desc := "(LHeroTableModel$Hero;)I" } : Jvm.MethodName) ({ cls := "HeroTableModel", name := "check", desc := "(LHeroTableModel$Hero;)I" } : Jvm.MethodName)) ∈ G9 := g9 35 (by decide +kernel) rfl
theorem k1347 : (Jvm.Cond.fieldLink "HeroTableModel" (288 : Nat) "HeroTableModel" "round" "I") ∈ G9 := g9 1347 (by decide +kernel) rfl
theorem k2101 : (Jvm.Cond.code ({ cls := "HeroTableModel", name := "beginTurn", desc := "()I" } : Jvm.MethodName) prog_10_method_39_code (4 : Nat) (Option.some Jvm.ClassFile.FieldType.int)) ∈ G9 := g9 2101 (by decide +kernel) rfl
theorem k2098 : (Jvm.Cond.methodLink "HeroTableModel" (291 : Nat) ({ cls := "HeroTableModel", name := "beginTurn", desc := "()I" } : Jvm.MethodName)) ∈ G9 := g9 2098 (by decide +kernel) rfl
theorem ok_X11_beginTurn : okN yX11_beginTurn 0 := by decide +kernel
theorem k2100 : (Jvm.Cond.instanceMethod ({ cls := "HeroTableModel", name := "beginTurn", desc := "()I" } : Jvm.MethodName)) ∈ G9 := g9 2100 (by decide +kernel) rfl
theorem k33 : (Jvm.Cond.selects "HeroTableModel" ({ cls := "HeroTableModel", name := "beginTurn", desc := "()I" } : Jvm.MethodName) ({ cls := "HeroTableModel", name := "beginTurn", desc := "()I" } : Jvm.MethodName)) ∈ G9 := g9 33 (by decide +kernel) rfl
theorem dJx4a65c_add_72be8_0 : decode cJx4a65c_add_72be8 0 = .ok (.iload_n 3, 1) := by decide +kernel
theorem dJx4a65c_add_72be8_1 : decode cJx4a65c_add_72be8 1 = .ok (.aload_n 2, 1) := by decide +kernel
theorem dJx4a65c_add_72be8_2 : decode cJx4a65c_add_72be8 2 = .ok (.arraylength, 1) := by decide +kernel
theorem dJx4a65c_add_72be8_3 : decode cJx4a65c_add_72be8 3 = .ok (.if_icmp .ne 8, 3) := by decide +kernel
theorem dJx4a65c_add_72be8_11 : decode cJx4a65c_add_72be8 11 = .ok (.aload_n 2, 1) := by decide +kernel
theorem dJx4a65c_add_72be8_12 : decode cJx4a65c_add_72be8 12 = .ok (.iload_n 3, 1) := by decide +kernel
theorem dJx4a65c_add_72be8_13 : decode cJx4a65c_add_72be8 13 = .ok (.aload_n 1, 1) := by decide +kernel
theorem dJx4a65c_add_72be8_14 : decode cJx4a65c_add_72be8 14 = .ok (.aastore, 1) := by decide +kernel
theorem dJx4a65c_add_72be8_15 : decode cJx4a65c_add_72be8 15 = .ok (.aload_n 0, 1) := by decide +kernel
theorem dJx4a65c_add_72be8_16 : decode cJx4a65c_add_72be8 16 = .ok (.iload_n 3, 1) := by decide +kernel
theorem dJx4a65c_add_72be8_17 : decode cJx4a65c_add_72be8 17 = .ok (.iconst 1, 1) := by decide +kernel
theorem dJx4a65c_add_72be8_18 : decode cJx4a65c_add_72be8 18 = .ok (.iadd, 1) := by decide +kernel
theorem dJx4a65c_add_72be8_19 : decode cJx4a65c_add_72be8 19 = .ok (.putfield 48, 3) := by decide +kernel
theorem dJx4a65c_add_72be8_22 : decode cJx4a65c_add_72be8 22 = .ok (.return_, 1) := by decide +kernel
theorem dJx4a65c_add_9ea2d_0 : decode cJx4a65c_add_9ea2d 0 = .ok (.aload_n 0, 1) := by decide +kernel
theorem dJx4a65c_add_9ea2d_1 : decode cJx4a65c_add_9ea2d 1 = .ok (.dup, 1) := by decide +kernel
theorem dJx4a65c_add_9ea2d_2 : decode cJx4a65c_add_9ea2d 2 = .ok (.getfield 63, 3) := by decide +kernel
theorem dJx4a65c_add_9ea2d_5 : decode cJx4a65c_add_9ea2d 5 = .ok (.iconst 1, 1) := by decide +kernel
theorem dJx4a65c_add_9ea2d_6 : decode cJx4a65c_add_9ea2d 6 = .ok (.iadd, 1) := by decide +kernel
theorem dJx4a65c_add_9ea2d_7 : decode cJx4a65c_add_9ea2d 7 = .ok (.putfield 63, 3) := by decide +kernel
theorem dJx4a65c_add_9ea2d_10 : decode cJx4a65c_add_9ea2d 10 = .ok (.aload_n 0, 1) := by decide +kernel
theorem dJx4a65c_add_9ea2d_11 : decode cJx4a65c_add_9ea2d 11 = .ok (.aload_n 1, 1) := by decide +kernel
theorem dJx4a65c_add_9ea2d_12 : decode cJx4a65c_add_9ea2d 12 = .ok (.aload_n 0, 1) := by decide +kernel
theorem dJx4a65c_add_9ea2d_13 : decode cJx4a65c_add_9ea2d 13 = .ok (.getfield 9, 3) := by decide +kernel
theorem dJx4a65c_add_9ea2d_16 : decode cJx4a65c_add_9ea2d 16 = .ok (.aload_n 0, 1) := by decide +kernel
theorem dJx4a65c_add_9ea2d_17 : decode cJx4a65c_add_9ea2d 17 = .ok (.getfield 48, 3) := by decide +kernel
theorem dJx4a65c_add_9ea2d_20 : decode cJx4a65c_add_9ea2d 20 = .ok (.invokevirtual 131, 3) := by decide +kernel
theorem dJx4a65c_add_9ea2d_23 : decode cJx4a65c_add_9ea2d 23 = .ok (.iconst 1, 1) := by decide +kernel
theorem dJx4a65c_add_9ea2d_24 : decode cJx4a65c_add_9ea2d 24 = .ok (.ireturn, 1) := by decide +kernel
theorem dX8_init_0 : decode cX8_init 0 = .ok (.aload_n 0, 1) := by decide +kernel
theorem dX8_init_1 : decode cX8_init 1 = .ok (.invokespecial 1, 3) := by decide +kernel
theorem dX8_init_4 : decode cX8_init 4 = .ok (.aload_n 0, 1) := by decide +kernel
theorem dX8_init_5 : decode cX8_init 5 = .ok (.iload_n 1, 1) := by decide +kernel
theorem dX8_init_6 : decode cX8_init 6 = .ok (.putfield 7, 3) := by decide +kernel
theorem dX8_init_9 : decode cX8_init 9 = .ok (.aload_n 0, 1) := by decide +kernel
theorem dX8_init_10 : decode cX8_init 10 = .ok (.aload_n 2, 1) := by decide +kernel
theorem dX8_init_11 : decode cX8_init 11 = .ok (.putfield 13, 3) := by decide +kernel
theorem dX8_init_14 : decode cX8_init 14 = .ok (.return_, 1) := by decide +kernel
theorem dX11_keep_0 : decode cX11_keep 0 = .ok (.aload_n 0, 1) := by decide +kernel
theorem dX11_keep_1 : decode cX11_keep 1 = .ok (.getfield 30, 3) := by decide +kernel
theorem dX11_keep_4 : decode cX11_keep 4 = .ok (.new 61, 3) := by decide +kernel
theorem dX11_keep_7 : decode cX11_keep 7 = .ok (.dup, 1) := by decide +kernel
theorem dX11_keep_8 : decode cX11_keep 8 = .ok (.iload_n 1, 1) := by decide +kernel
theorem dX11_keep_9 : decode cX11_keep 9 = .ok (.aload_n 2, 1) := by decide +kernel
theorem dX11_keep_10 : decode cX11_keep 10 = .ok (.invokespecial 63, 3) := by decide +kernel
theorem dX11_keep_13 : decode cX11_keep 13 = .ok (.invokeinterface 66 2, 5) := by decide +kernel
theorem dX11_keep_18 : decode cX11_keep 18 = .ok (.pop, 1) := by decide +kernel
theorem dX11_keep_19 : decode cX11_keep 19 = .ok (.return_, 1) := by decide +kernel
theorem dX11_isOn_0 : decode cX11_isOn 0 = .ok (.aload_n 0, 1) := by decide +kernel
theorem dX11_isOn_1 : decode cX11_isOn 1 = .ok (.getfield 36, 3) := by decide +kernel
theorem dX11_isOn_4 : decode cX11_isOn 4 = .ok (.iconst (-1), 1) := by decide +kernel
theorem dX11_isOn_5 : decode cX11_isOn 5 = .ok (.if_icmp .eq 7, 3) := by decide +kernel
theorem dX11_isOn_8 : decode cX11_isOn 8 = .ok (.iconst 1, 1) := by decide +kernel
theorem dX11_isOn_9 : decode cX11_isOn 9 = .ok (.goto 4, 3) := by decide +kernel
theorem dX11_isOn_13 : decode cX11_isOn 13 = .ok (.ireturn, 1) := by decide +kernel
theorem dJ3_checkIndex_8e157_0 : decode cJ3_checkIndex_8e157 0 = .ok (.iload_n 0, 1) := by decide +kernel
theorem dJ3_checkIndex_8e157_1 : decode cJ3_checkIndex_8e157 1 = .ok (.ifCond .lt 8, 3) := by decide +kernel
theorem dJ3_checkIndex_8e157_4 : decode cJ3_checkIndex_8e157 4 = .ok (.iload_n 0, 1) := by decide +kernel
theorem dJ3_checkIndex_8e157_5 : decode cJ3_checkIndex_8e157 5 = .ok (.iload_n 1, 1) := by decide +kernel
theorem dJ3_checkIndex_8e157_6 : decode cJ3_checkIndex_8e157 6 = .ok (.if_icmp .lt 10, 3) := by decide +kernel
theorem dJ3_checkIndex_8e157_16 : decode cJ3_checkIndex_8e157 16 = .ok (.iload_n 0, 1) := by decide +kernel
theorem dJ3_checkIndex_8e157_17 : decode cJ3_checkIndex_8e157 17 = .ok (.ireturn, 1) := by decide +kernel
theorem dJ15_checkIndex_7cf53_0 : decode cJ15_checkIndex_7cf53 0 = .ok (.iload_n 0, 1) := by decide +kernel
theorem dJ15_checkIndex_7cf53_1 : decode cJ15_checkIndex_7cf53 1 = .ok (.iload_n 1, 1) := by decide +kernel
theorem dJ15_checkIndex_7cf53_2 : decode cJ15_checkIndex_7cf53 2 = .ok (.aconst_null, 1) := by decide +kernel
theorem dJ15_checkIndex_7cf53_3 : decode cJ15_checkIndex_7cf53 3 = .ok (.invokestatic 105, 3) := by decide +kernel
theorem dJ15_checkIndex_7cf53_6 : decode cJ15_checkIndex_7cf53 6 = .ok (.ireturn, 1) := by decide +kernel
theorem dJx4a65c_elementData_915e3_0 : decode cJx4a65c_elementData_915e3 0 = .ok (.aload_n 0, 1) := by decide +kernel
theorem dJx4a65c_elementData_915e3_1 : decode cJx4a65c_elementData_915e3 1 = .ok (.getfield 9, 3) := by decide +kernel
theorem dJx4a65c_elementData_915e3_4 : decode cJx4a65c_elementData_915e3 4 = .ok (.iload_n 1, 1) := by decide +kernel
theorem dJx4a65c_elementData_915e3_5 : decode cJx4a65c_elementData_915e3 5 = .ok (.aaload, 1) := by decide +kernel
theorem dJx4a65c_elementData_915e3_6 : decode cJx4a65c_elementData_915e3 6 = .ok (.areturn, 1) := by decide +kernel
theorem dJx4a65c_get_915e3_0 : decode cJx4a65c_get_915e3 0 = .ok (.iload_n 1, 1) := by decide +kernel
theorem dJx4a65c_get_915e3_1 : decode cJx4a65c_get_915e3 1 = .ok (.aload_n 0, 1) := by decide +kernel
theorem dJx4a65c_get_915e3_2 : decode cJx4a65c_get_915e3 2 = .ok (.getfield 48, 3) := by decide +kernel
theorem dJx4a65c_get_915e3_5 : decode cJx4a65c_get_915e3 5 = .ok (.invokestatic 118, 3) := by decide +kernel
theorem dJx4a65c_get_915e3_8 : decode cJx4a65c_get_915e3 8 = .ok (.pop, 1) := by decide +kernel
theorem dJx4a65c_get_915e3_9 : decode cJx4a65c_get_915e3 9 = .ok (.aload_n 0, 1) := by decide +kernel
theorem dJx4a65c_get_915e3_10 : decode cJx4a65c_get_915e3 10 = .ok (.iload_n 1, 1) := by decide +kernel
theorem dJx4a65c_get_915e3_11 : decode cJx4a65c_get_915e3 11 = .ok (.invokevirtual 123, 3) := by decide +kernel
theorem dJx4a65c_get_915e3_14 : decode cJx4a65c_get_915e3 14 = .ok (.areturn, 1) := by decide +kernel
theorem dX11_now_0 : decode cX11_now 0 = .ok (.aload_n 0, 1) := by decide +kernel
theorem dX11_now_1 : decode cX11_now 1 = .ok (.getfield 33, 3) := by decide +kernel
theorem dX11_now_4 : decode cX11_now 4 = .ok (.aload_n 0, 1) := by decide +kernel
theorem dX11_now_5 : decode cX11_now 5 = .ok (.getfield 36, 3) := by decide +kernel
theorem dX11_now_8 : decode cX11_now 8 = .ok (.invokeinterface 55 2, 5) := by decide +kernel
theorem dX11_now_13 : decode cX11_now 13 = .ok (.checkcast 59, 3) := by decide +kernel
theorem dX11_now_16 : decode cX11_now 16 = .ok (.areturn, 1) := by decide +kernel
theorem dJx4a65c_size_8abf5_0 : decode cJx4a65c_size_8abf5 0 = .ok (.aload_n 0, 1) := by decide +kernel
theorem dJx4a65c_size_8abf5_1 : decode cJx4a65c_size_8abf5 1 = .ok (.getfield 48, 3) := by decide +kernel
theorem dJx4a65c_size_8abf5_4 : decode cJx4a65c_size_8abf5 4 = .ok (.ireturn, 1) := by decide +kernel
theorem dX11_beginTurn_0 : decode cX11_beginTurn 0 = .ok (.aload_n 0, 1) := by decide +kernel
theorem dX11_beginTurn_1 : decode cX11_beginTurn 1 = .ok (.invokevirtual 253, 3) := by decide +kernel
theorem dX11_beginTurn_4 : decode cX11_beginTurn 4 = .ok (.astore_n 1, 1) := by decide +kernel
theorem dX11_beginTurn_5 : decode cX11_beginTurn 5 = .ok (.aload_n 0, 1) := by decide +kernel
theorem dX11_beginTurn_6 : decode cX11_beginTurn 6 = .ok (.getfield 20, 3) := by decide +kernel
theorem dX11_beginTurn_9 : decode cX11_beginTurn 9 = .ok (.invokeinterface 70 1, 5) := by decide +kernel
theorem dX11_beginTurn_14 : decode cX11_beginTurn 14 = .ok (.astore_n 2, 1) := by decide +kernel
theorem dX11_beginTurn_15 : decode cX11_beginTurn 15 = .ok (.aload_n 2, 1) := by decide +kernel
theorem dX11_beginTurn_16 : decode cX11_beginTurn 16 = .ok (.invokeinterface 74 1, 5) := by decide +kernel
theorem dX11_beginTurn_21 : decode cX11_beginTurn 21 = .ok (.ifCond .eq 67, 3) := by decide +kernel
theorem dX11_beginTurn_24 : decode cX11_beginTurn 24 = .ok (.aload_n 2, 1) := by decide +kernel
theorem dX11_beginTurn_25 : decode cX11_beginTurn 25 = .ok (.invokeinterface 80 1, 5) := by decide +kernel
theorem dX11_beginTurn_30 : decode cX11_beginTurn 30 = .ok (.checkcast 150, 3) := by decide +kernel
theorem dX11_beginTurn_33 : decode cX11_beginTurn 33 = .ok (.astore_n 3, 1) := by decide +kernel
theorem dX11_beginTurn_34 : decode cX11_beginTurn 34 = .ok (.aload_n 3, 1) := by decide +kernel
theorem dX11_beginTurn_35 : decode cX11_beginTurn 35 = .ok (.getfield 152, 3) := by decide +kernel
theorem dX11_beginTurn_38 : decode cX11_beginTurn 38 = .ok (.ifCond .eq 47, 3) := by decide +kernel
theorem dX11_beginTurn_41 : decode cX11_beginTurn 41 = .ok (.aload_n 3, 1) := by decide +kernel
theorem dX11_beginTurn_42 : decode cX11_beginTurn 42 = .ok (.getfield 257, 3) := by decide +kernel
theorem dX11_beginTurn_45 : decode cX11_beginTurn 45 = .ok (.ifCond .eq 40, 3) := by decide +kernel
theorem dX11_beginTurn_85 : decode cX11_beginTurn 85 = .ok (.goto (-70), 3) := by decide +kernel
theorem dX11_beginTurn_88 : decode cX11_beginTurn 88 = .ok (.aload_n 1, 1) := by decide +kernel
theorem dX11_beginTurn_89 : decode cX11_beginTurn 89 = .ok (.bipush 32, 2) := by decide +kernel
theorem dX11_beginTurn_91 : decode cX11_beginTurn 91 = .ok (.putfield 266, 3) := by decide +kernel
theorem dX11_beginTurn_94 : decode cX11_beginTurn 94 = .ok (.aload_n 1, 1) := by decide +kernel
theorem dX11_beginTurn_95 : decode cX11_beginTurn 95 = .ok (.iconst 1, 1) := by decide +kernel
theorem dX11_beginTurn_96 : decode cX11_beginTurn 96 = .ok (.putfield 269, 3) := by decide +kernel
theorem dX11_beginTurn_99 : decode cX11_beginTurn 99 = .ok (.aload_n 0, 1) := by decide +kernel
theorem dX11_beginTurn_100 : decode cX11_beginTurn 100 = .ok (.iconst 1, 1) := by decide +kernel
theorem dX11_beginTurn_101 : decode cX11_beginTurn 101 = .ok (.putfield 272, 3) := by decide +kernel
theorem dX11_beginTurn_104 : decode cX11_beginTurn 104 = .ok (.aload_n 0, 1) := by decide +kernel
theorem dX11_beginTurn_105 : decode cX11_beginTurn 105 = .ok (.iconst 0, 1) := by decide +kernel
theorem dX11_beginTurn_106 : decode cX11_beginTurn 106 = .ok (.aload_n 0, 1) := by decide +kernel
theorem dX11_beginTurn_107 : decode cX11_beginTurn 107 = .ok (.aload_n 1, 1) := by decide +kernel
theorem dX11_beginTurn_108 : decode cX11_beginTurn 108 = .ok (.bipush 115, 2) := by decide +kernel
theorem dX11_beginTurn_110 : decode cX11_beginTurn 110 = .ok (.invokevirtual 217, 3) := by decide +kernel
theorem dX11_beginTurn_113 : decode cX11_beginTurn 113 = .ok (.invokestatic 165, 3) := by decide +kernel
theorem dX11_beginTurn_116 : decode cX11_beginTurn 116 = .ok (.putfield 275, 3) := by decide +kernel
theorem dX11_beginTurn_119 : decode cX11_beginTurn 119 = .ok (.aload_n 1, 1) := by decide +kernel
theorem dX11_beginTurn_120 : decode cX11_beginTurn 120 = .ok (.getfield 202, 3) := by decide +kernel
theorem dX11_beginTurn_123 : decode cX11_beginTurn 123 = .ok (.ireturn, 1) := by decide +kernel
theorem dX11_endTurn_0 : decode cX11_endTurn 0 = .ok (.aload_n 0, 1) := by decide +kernel
theorem dX11_endTurn_1 : decode cX11_endTurn 1 = .ok (.aload_n 0, 1) := by decide +kernel
theorem dX11_endTurn_2 : decode cX11_endTurn 2 = .ok (.invokevirtual 98, 3) := by decide +kernel
theorem dX11_endTurn_5 : decode cX11_endTurn 5 = .ok (.ifCond .eq 7, 3) := by decide +kernel
theorem dX11_endTurn_8 : decode cX11_endTurn 8 = .ok (.iconst 0, 1) := by decide +kernel
theorem dX11_endTurn_9 : decode cX11_endTurn 9 = .ok (.goto 4, 3) := by decide +kernel
theorem dX11_endTurn_13 : decode cX11_endTurn 13 = .ok (.putfield 40, 3) := by decide +kernel
theorem dX11_endTurn_16 : decode cX11_endTurn 16 = .ok (.aload_n 0, 1) := by decide +kernel
theorem dX11_endTurn_17 : decode cX11_endTurn 17 = .ok (.getfield 40, 3) := by decide +kernel
theorem dX11_endTurn_20 : decode cX11_endTurn 20 = .ok (.ifCond .le 5, 3) := by decide +kernel
theorem dX11_endTurn_25 : decode cX11_endTurn 25 = .ok (.aload_n 0, 1) := by decide +kernel
theorem dX11_endTurn_26 : decode cX11_endTurn 26 = .ok (.bipush 101, 2) := by decide +kernel
theorem dX11_endTurn_28 : decode cX11_endTurn 28 = .ok (.iconst 0, 1) := by decide +kernel
theorem dX11_endTurn_29 : decode cX11_endTurn 29 = .ok (.newarray .int, 2) := by decide +kernel
theorem dX11_endTurn_31 : decode cX11_endTurn 31 = .ok (.invokevirtual 105, 3) := by decide +kernel
theorem dX11_endTurn_34 : decode cX11_endTurn 34 = .ok (.aload_n 0, 1) := by decide +kernel
theorem dX11_endTurn_35 : decode cX11_endTurn 35 = .ok (.invokevirtual 253, 3) := by decide +kernel
theorem dX11_endTurn_38 : decode cX11_endTurn 38 = .ok (.astore_n 1, 1) := by decide +kernel
theorem dX11_endTurn_39 : decode cX11_endTurn 39 = .ok (.aload_n 0, 1) := by decide +kernel
theorem dX11_endTurn_40 : decode cX11_endTurn 40 = .ok (.getfield 20, 3) := by decide +kernel
theorem dX11_endTurn_43 : decode cX11_endTurn 43 = .ok (.invokeinterface 43 1, 5) := by decide +kernel
theorem dX11_endTurn_48 : decode cX11_endTurn 48 = .ok (.istore_n 2, 1) := by decide +kernel
theorem dX11_endTurn_49 : decode cX11_endTurn 49 = .ok (.iconst 0, 1) := by decide +kernel
theorem dX11_endTurn_50 : decode cX11_endTurn 50 = .ok (.istore_n 3, 1) := by decide +kernel
theorem dX11_endTurn_51 : decode cX11_endTurn 51 = .ok (.iload_n 3, 1) := by decide +kernel
theorem dX11_endTurn_52 : decode cX11_endTurn 52 = .ok (.iload_n 2, 1) := by decide +kernel
theorem dX11_endTurn_53 : decode cX11_endTurn 53 = .ok (.if_icmp .ge 85, 3) := by decide +kernel
theorem dX11_endTurn_56 : decode cX11_endTurn 56 = .ok (.aload_n 0, 1) := by decide +kernel
theorem dX11_endTurn_57 : decode cX11_endTurn 57 = .ok (.getfield 20, 3) := by decide +kernel
theorem dX11_endTurn_60 : decode cX11_endTurn 60 = .ok (.iload_n 3, 1) := by decide +kernel
theorem dX11_endTurn_61 : decode cX11_endTurn 61 = .ok (.invokeinterface 55 2, 5) := by decide +kernel
theorem dX11_endTurn_66 : decode cX11_endTurn 66 = .ok (.checkcast 150, 3) := by decide +kernel
theorem dX11_endTurn_69 : decode cX11_endTurn 69 = .ok (.astore 4, 2) := by decide +kernel
theorem dX11_endTurn_71 : decode cX11_endTurn 71 = .ok (.aload 4, 2) := by decide +kernel
theorem dX11_endTurn_73 : decode cX11_endTurn 73 = .ok (.getfield 152, 3) := by decide +kernel
theorem dX11_endTurn_76 : decode cX11_endTurn 76 = .ok (.ifCond .eq 56, 3) := by decide +kernel
theorem dX11_endTurn_79 : decode cX11_endTurn 79 = .ok (.aload 4, 2) := by decide +kernel
theorem dX11_endTurn_81 : decode cX11_endTurn 81 = .ok (.getfield 159, 3) := by decide +kernel
theorem dX11_endTurn_84 : decode cX11_endTurn 84 = .ok (.aload_n 1, 1) := by decide +kernel
theorem dX11_endTurn_85 : decode cX11_endTurn 85 = .ok (.getfield 202, 3) := by decide +kernel
theorem dX11_endTurn_88 : decode cX11_endTurn 88 = .ok (.if_icmp .ne 44, 3) := by decide +kernel
theorem dX11_endTurn_91 : decode cX11_endTurn 91 = .ok (.aload 4, 2) := by decide +kernel
theorem dX11_endTurn_93 : decode cX11_endTurn 93 = .ok (.getfield 209, 3) := by decide +kernel
theorem dX11_endTurn_96 : decode cX11_endTurn 96 = .ok (.bipush 99, 2) := by decide +kernel
theorem dX11_endTurn_98 : decode cX11_endTurn 98 = .ok (.if_icmp .ne 34, 3) := by decide +kernel
theorem dX11_endTurn_101 : decode cX11_endTurn 101 = .ok (.aload 4, 2) := by decide +kernel
theorem dX11_endTurn_103 : decode cX11_endTurn 103 = .ok (.getfield 212, 3) := by decide +kernel
theorem dX11_endTurn_106 : decode cX11_endTurn 106 = .ok (.ifCond .le 26, 3) := by decide +kernel
theorem dX11_endTurn_109 : decode cX11_endTurn 109 = .ok (.aload 4, 2) := by decide +kernel
theorem dX11_endTurn_111 : decode cX11_endTurn 111 = .ok (.aload_n 0, 1) := by decide +kernel
theorem dX11_endTurn_112 : decode cX11_endTurn 112 = .ok (.aload_n 1, 1) := by decide +kernel
theorem dX11_endTurn_113 : decode cX11_endTurn 113 = .ok (.invokevirtual 294, 3) := by decide +kernel
theorem dX11_endTurn_116 : decode cX11_endTurn 116 = .ok (.aload 4, 2) := by decide +kernel
theorem dX11_endTurn_118 : decode cX11_endTurn 118 = .ok (.getfield 212, 3) := by decide +kernel
theorem dX11_endTurn_121 : decode cX11_endTurn 121 = .ok (.if_icmp .ge 7, 3) := by decide +kernel
theorem dX11_endTurn_124 : decode cX11_endTurn 124 = .ok (.iconst 1, 1) := by decide +kernel
theorem dX11_endTurn_125 : decode cX11_endTurn 125 = .ok (.goto 4, 3) := by decide +kernel
theorem dX11_endTurn_129 : decode cX11_endTurn 129 = .ok (.putfield 152, 3) := by decide +kernel
theorem dX11_endTurn_132 : decode cX11_endTurn 132 = .ok (.iinc 3 1, 3) := by decide +kernel
theorem dX11_endTurn_135 : decode cX11_endTurn 135 = .ok (.goto (-84), 3) := by decide +kernel
theorem dX11_endTurn_138 : decode cX11_endTurn 138 = .ok (.aload_n 0, 1) := by decide +kernel
theorem dX11_endTurn_139 : decode cX11_endTurn 139 = .ok (.dup, 1) := by decide +kernel
theorem dX11_endTurn_140 : decode cX11_endTurn 140 = .ok (.getfield 36, 3) := by decide +kernel
theorem dX11_endTurn_143 : decode cX11_endTurn 143 = .ok (.iconst 1, 1) := by decide +kernel
theorem dX11_endTurn_144 : decode cX11_endTurn 144 = .ok (.iadd, 1) := by decide +kernel
theorem dX11_endTurn_145 : decode cX11_endTurn 145 = .ok (.putfield 36, 3) := by decide +kernel
theorem dX11_endTurn_148 : decode cX11_endTurn 148 = .ok (.aload_n 0, 1) := by decide +kernel
theorem dX11_endTurn_149 : decode cX11_endTurn 149 = .ok (.getfield 36, 3) := by decide +kernel
theorem dX11_endTurn_152 : decode cX11_endTurn 152 = .ok (.aload_n 0, 1) := by decide +kernel
theorem dX11_endTurn_153 : decode cX11_endTurn 153 = .ok (.getfield 33, 3) := by decide +kernel
theorem dX11_endTurn_156 : decode cX11_endTurn 156 = .ok (.invokeinterface 43 1, 5) := by decide +kernel
theorem dX11_endTurn_161 : decode cX11_endTurn 161 = .ok (.if_icmp .ne 18, 3) := by decide +kernel
theorem dX11_endTurn_164 : decode cX11_endTurn 164 = .ok (.aload_n 0, 1) := by decide +kernel
theorem dX11_endTurn_165 : decode cX11_endTurn 165 = .ok (.iconst 0, 1) := by decide +kernel
theorem dX11_endTurn_166 : decode cX11_endTurn 166 = .ok (.putfield 36, 3) := by decide +kernel
theorem dX11_endTurn_169 : decode cX11_endTurn 169 = .ok (.aload_n 0, 1) := by decide +kernel
theorem dX11_endTurn_170 : decode cX11_endTurn 170 = .ok (.dup, 1) := by decide +kernel
theorem dX11_endTurn_171 : decode cX11_endTurn 171 = .ok (.getfield 288, 3) := by decide +kernel
theorem dX11_endTurn_174 : decode cX11_endTurn 174 = .ok (.iconst 1, 1) := by decide +kernel
theorem dX11_endTurn_175 : decode cX11_endTurn 175 = .ok (.iadd, 1) := by decide +kernel
theorem dX11_endTurn_176 : decode cX11_endTurn 176 = .ok (.putfield 288, 3) := by decide +kernel
theorem dX11_endTurn_179 : decode cX11_endTurn 179 = .ok (.aload_n 0, 1) := by decide +kernel
theorem dX11_endTurn_180 : decode cX11_endTurn 180 = .ok (.invokevirtual 291, 3) := by decide +kernel
theorem dX11_endTurn_183 : decode cX11_endTurn 183 = .ok (.ireturn, 1) := by decide +kernel
theorem q_preab {g : GP} {s : State} {args : Array Value} {A : Nat → Prop} {ws : va_W} {H : Heap} {locs : List Loc} (av : List Value) (htg : ∀ w ∈ G9, w.before args s = true) (hP : va_P g.1 CLS ws H) (hK : va_K g.1 CLS (TYS g.2.1) s) (hS : va_S A s.heap H locs) (hT : SF g A s s.heap) (hA : ∀ q : Nat, s.heap.size ≤ q → A q) (i0 i1 : Nat) {f0 f1 : List Value} (h0 : ws[i0]? = some (g.2.2 2000, .inr (5, f0))) (h1 : ws[i1]? = some (g.2.2 2001, .inr (3, f1))) (e1 : f0[2]? = some (.ref (g.2.2 2002))) (e2 : f0[3]? = some (.ref (g.2.2 2005))) (e3 : f1[0]? = some (.int 0)) (e4 : f1[4]? = some (.ref (g.2.2 2004))) :
    FrameBlind (va_Pc av (PREa g [] H.size)) ∧ ∀ U : State, U.heap = H → s.WarmedH U.vm → va_Pc av (PREa g [] H.size) av.toArray U := by
  have nA : ∀ {a : Nat}, a < H.size → ¬ va_A [] H.size a := fun h q => q.elim (fun ⟨k, e, z⟩ => by simp at z) (fun z => absurd h (Nat.not_lt.mpr z))
  have hF : ∀ q, va_A [] H.size q → A q := fun q z => z.elim (fun ⟨k, e, z⟩ => by simp at z) (fun z => hA q (Nat.le_trans hS.1 z))
  have l0 : g.2.2 2000 < H.size := (hP i0 _ h0).lt
  have l1 : g.2.2 2001 < H.size := (hP i1 _ h1).lt
  refine ⟨q_blinda, fun U hU hW => ⟨rfl, ((q_pre av (wc := []) (fun k x hx => by simp at hx) ⟨fun i j p q hx => by simp at hx, fun k q hx => by simp at hx⟩ hK hS hT hF).2 U hU hW).2, ?_⟩⟩
  rw [hU]
  exact EXT.moved hW.alike ⟨q_o hK hP i0 h0 rfl (nA l0), q_of htg inG_X11 hK hP i0 h0 rfl 2 (by decide) e1 (nA l0), q_of htg inG_X11 hK hP i0 h0 rfl 3 (by decide) e2 (nA l0), q_of htg inG_X9 hK hP i1 h1 rfl 0 (by decide) e3 (nA l1), q_of htg inG_X9 hK hP i1 h1 rfl 4 (by decide) e4 (nA l1)⟩

set_option maxHeartbeats 4000000 in
set_option maxRecDepth 100000 in
theorem c_add3 (l : Launch) (hfl : l.stackTraces = false) (g : GP) (mc : Nat) (mca : Nat) (k1 : Nat) (nc : Nat) (c0 : Int32) (fc : Nat → Option Nat) (z2 : Nat) (w1 : Int32) (w2 : Nat) (hkc : k1 < nc) (hnc : nc < 2 ^ 31) : CV l yJx4a65c_add_72be8 (wG yJx4a65c_add_72be8 cJx4a65c_add_72be8 4 (Option.none : Option Jvm.ClassFile.FieldType)) (LV 2 0 0) g [.ref mc, .ref z2, .ref mca, .int (nI k1)] ([(mc, .inr (1, [.int c0, .ref mca, .int (nI k1)])), (mca, .inl (g.2.1 5, nc, .inr (.inr (.inr (.inr fc))))), (z2, .inr (2, [.int w1, .ref w2]))]) (fun (u : va_W) => ∃ (f2 : Nat → Option Nat), u = [(mc, .inr (1, [.int c0, .ref mca, .int (nI (k1 + 1))])), (mca, .inl (g.2.1 5, nc, .inr (.inr (.inr (.inr f2)))))]) := by
  intro sz
  refine Met.ofW (cc := cJx4a65c_add_72be8) (maxL := 4) (ret := (Option.none : Option Jvm.ClassFile.FieldType)) (by decide) rfl ?_
  intro p e s m args below meth c s₁ B hml hv
  obtain ⟨rfl, hsz, hP, hK, hD0, hT0⟩ := hv
  have hx := B.exec
  have hb := B.bytes
  have hr := B.returns
  have hts := atoms_spec (ws := (wG yJx4a65c_add_72be8 cJx4a65c_add_72be8 4 (Option.none : Option Jvm.ClassFile.FieldType))) B.pre
  have htg : ∀ w ∈ G9, w.before _ s = true := fun w h => hts w (List.mem_cons_of_mem _ h)
  have hown : s.vm.findClass "java/util/ArrayList" = some m.cls := findClass_of_methodNamed B.named
  have hlocks := B.notSynchronized
  subst hsz
  have hD := hD0.self (sz := s.heap.size)
  have hT := hT0
  clear hT0
  generalize hAe : va_A [(mc, .inr (1, [.int c0, .ref mca, .int (nI k1)])), (mca, .inl (g.2.1 5, nc, .inr (.inr (.inr (.inr fc))))), (z2, .inr (2, [.int w1, .ref w2]))] s.heap.size = A at hD hT ⊢
  have hA : ∀ q : Nat, s.heap.size ≤ q → A q := fun q h => by rw [← hAe]; exact Or.inr h
  obtain ⟨H, hH0⟩ : ∃ H, H = s.heap := ⟨_, rfl⟩
  have hS : va_S A s.heap H [] := by rw [hH0]; exact va_S.rf
  have hP : va_P g.1 CLS [(mc, .inr (1, [.int c0, .ref mca, .int (nI k1)])), (mca, .inl (g.2.1 5, nc, .inr (.inr (.inr (.inr fc))))), (z2, .inr (2, [.int w1, .ref w2]))] H := by rw [hH0]; exact hP
  rw [← hH0]
  have hl := lv_entry ([.ref mc, .ref z2, .ref mca, .int (nI k1)]) (n := 4) (Nat.le_of_ble_eq_true rfl)
  rw [lg_entry_eq]
  generalize (lg_sl ([.ref mc, .ref z2, .ref mca, .int (nI k1)]) ++ List.replicate (4 - (lg_sl ([.ref mc, .ref z2, .ref mca, .int (nI k1)])).length) Slot.unset).toArray = ls at hl ⊢
  have hl : lv_has ls 4 [(0, .ref mc), (1, .ref z2), (2, .ref mca), (3, .int (nI k1))] := hl
  refine lv_iload_n hx hb dJx4a65c_add_72be8_0 rfl (lv_at hl 3 rfl) ?_
  refine lv_aload_n hx hb dJx4a65c_add_72be8_1 rfl (lv_at hl 2 rfl) ?_
  refine va_alen (v := nI nc) hx hb hK hP 1 5 rfl rfl rfl dJx4a65c_add_72be8_2 ?_
  refine lv_icmp_ne (tgt := 11) hx hb dJx4a65c_add_72be8_3 (by decide) (fun c_1 => ?_) (fun c_1 => absurd c_1 (q_ne hkc hnc))
  refine lv_aload_n hx hb dJx4a65c_add_72be8_11 rfl (lv_at hl 2 rfl) ?_
  refine lv_iload_n hx hb dJx4a65c_add_72be8_12 rfl (lv_at hl 3 rfl) ?_
  refine lv_aload_n hx hb dJx4a65c_add_72be8_13 rfl (lv_at hl 1 rfl) ?_
  refine va_astqO hx hb hK hP hD hS 1 5 2 2 rfl rfl hT.1.2.1 rfl rfl (i := (nI k1)) (vp_in_nI hkc hnc) dJx4a65c_add_72be8_14 (fun H locs hP hD hS => ?_)
  have hP : va_P g.1 CLS [(mc, .inr (1, [.int c0, .ref mca, .int (nI k1)])), (mca, .inl (g.2.1 5, nc, .inr (.inr (.inr (.inr (va_up fc ((nI k1).toNatClampNeg) (some z2))))))), (z2, .inr (2, [.int w1, .ref w2]))] H := hP
  have hD : va_D A [(mc, .inr (1, [.int c0, .ref mca, .int (nI k1)])), (mca, .inl (g.2.1 5, nc, .inr (.inr (.inr (.inr (va_up fc ((nI k1).toNatClampNeg) (some z2))))))), (z2, .inr (2, [.int w1, .ref w2]))] := hD
  refine lv_aload_n hx hb dJx4a65c_add_72be8_15 rfl (lv_at hl 0 rfl) ?_
  refine lv_iload_n hx hb dJx4a65c_add_72be8_16 rfl (lv_at hl 3 rfl) ?_
  refine lv_iconst (v := 1) hx hb dJx4a65c_add_72be8_17 (by decide) ?_
  refine lv_iadd hx hb dJx4a65c_add_72be8_18 ?_
  refine lv_topi (fun x9 e9 => ?_)
  obtain rfl : x9 = nI (k1 + 1) := e9.trans (nI_1 k1)
  refine va_put (D := g.1) (ci := 1) (v := .int (nI (k1 + 1))) (ty := .int) (C := RJx4a65c) (T := TJx4a65c) (N := 3) hx hb htg inG_Jx4a65c tyJx4a65c tyJx4a65c_ok nmJx4a65c hown hK hP hD hS 0 rfl rfl 2 (by decide) (htg _ k1310) (fun _ h9 => h9) rfl (by decide +kernel) rfl rfl (Nat.le_of_ble_eq_true rfl) dJx4a65c_add_72be8_19 (fun H locs hP hD hS => ?_)
  have hP : va_P g.1 CLS [(mc, .inr (1, [.int c0, .ref mca, .int (nI (k1 + 1))])), (mca, .inl (g.2.1 5, nc, .inr (.inr (.inr (.inr (va_up fc ((nI k1).toNatClampNeg) (some z2))))))), (z2, .inr (2, [.int w1, .ref w2]))] H := hP
  have hD : va_D A [(mc, .inr (1, [.int c0, .ref mca, .int (nI (k1 + 1))])), (mca, .inl (g.2.1 5, nc, .inr (.inr (.inr (.inr (va_up fc ((nI k1).toNatClampNeg) (some z2))))))), (z2, .inr (2, [.int w1, .ref w2]))] := hD
  have hP9 := hP.sub (ws' := [(mc, .inr (1, [.int c0, .ref mca, .int (nI (k1 + 1))])), (mca, .inl (g.2.1 5, nc, .inr (.inr (.inr (.inr (va_up fc ((nI k1).toNatClampNeg) (some z2)))))))]) [0, 1] rfl
  have hD9 := hD.sub (ws' := [(mc, .inr (1, [.int c0, .ref mca, .int (nI (k1 + 1))])), (mca, .inl (g.2.1 5, nc, .inr (.inr (.inr (.inr (va_up fc ((nI k1).toNatClampNeg) (some z2)))))))]) [0, 1] (by decide) rfl
  refine W.widen (k := 0) (n := 0) (Nat.le_of_ble_eq_true rfl) (Nat.le_of_ble_eq_true rfl) ?_
  exact W.vret hx hb hr (fun t ht hW => ⟨⟨[(mc, .inr (1, [.int c0, .ref mca, .int (nI (k1 + 1))])), (mca, .inl (g.2.1 5, nc, .inr (.inr (.inr (.inr (va_up fc ((nI k1).toNatClampNeg) (some z2)))))))], rfl, ⟨(va_up fc ((nI k1).toNatClampNeg) (some z2)), rfl⟩, by rw [ht]; exact hP9, va_K.moved hW.alike hK, hD9⟩, hS.F ht⟩) hS.2.2 dJx4a65c_add_72be8_22

set_option maxHeartbeats 4000000 in
set_option maxRecDepth 100000 in
theorem c_add (l : Launch) (hfl : l.stackTraces = false) (g : GP) (mc : Nat) (mca : Nat) (k1 : Nat) (nc : Nat) (c0 : Int32) (fc : Nat → Option Nat) (z2 : Nat) (w1 : Int32) (w2 : Nat) (hkc : k1 < nc) (hnc : nc < 2 ^ 31) : CI l yJx4a65c_add_9ea2d (wG yJx4a65c_add_9ea2d cJx4a65c_add_9ea2d 2 (Option.some Jvm.ClassFile.FieldType.boolean)) (LV 3 0 0) g [.ref mc, .ref z2] ([(mc, .inr (1, [.int c0, .ref mca, .int (nI k1)])), (mca, .inl (g.2.1 5, nc, .inr (.inr (.inr (.inr fc))))), (z2, .inr (2, [.int w1, .ref w2]))]) (fun (r : Int32) (u : va_W) => ∃ (c9 : Int32) (f2 : Nat → Option Nat), r = 1 ∧ u = [(mc, .inr (1, [.int c9, .ref mca, .int (nI (k1 + 1))])), (mca, .inl (g.2.1 5, nc, .inr (.inr (.inr (.inr f2)))))]) := by
  intro sz
  refine Met.ofW (cc := cJx4a65c_add_9ea2d) (maxL := 2) (ret := (Option.some Jvm.ClassFile.FieldType.boolean)) (by decide) rfl ?_
  intro p e s m args below meth c s₁ B hml hv
  obtain ⟨rfl, hsz, hP, hK, hD0, hT0⟩ := hv
  have hx := B.exec
  have hb := B.bytes
  have hr := B.returns
  have hts := atoms_spec (ws := (wG yJx4a65c_add_9ea2d cJx4a65c_add_9ea2d 2 (Option.some Jvm.ClassFile.FieldType.boolean))) B.pre
  have htg : ∀ w ∈ G9, w.before _ s = true := fun w h => hts w (List.mem_cons_of_mem _ h)
  have hown : s.vm.findClass "java/util/ArrayList" = some m.cls := findClass_of_methodNamed B.named
  have hlocks := B.notSynchronized
  subst hsz
  have hD := hD0.self (sz := s.heap.size)
  have hT := hT0
  clear hT0
  generalize hAe : va_A [(mc, .inr (1, [.int c0, .ref mca, .int (nI k1)])), (mca, .inl (g.2.1 5, nc, .inr (.inr (.inr (.inr fc))))), (z2, .inr (2, [.int w1, .ref w2]))] s.heap.size = A at hD hT ⊢
  have hA : ∀ q : Nat, s.heap.size ≤ q → A q := fun q h => by rw [← hAe]; exact Or.inr h
  obtain ⟨H, hH0⟩ : ∃ H, H = s.heap := ⟨_, rfl⟩
  have hS : va_S A s.heap H [] := by rw [hH0]; exact va_S.rf
  have hP : va_P g.1 CLS [(mc, .inr (1, [.int c0, .ref mca, .int (nI k1)])), (mca, .inl (g.2.1 5, nc, .inr (.inr (.inr (.inr fc))))), (z2, .inr (2, [.int w1, .ref w2]))] H := by rw [hH0]; exact hP
  rw [← hH0]
  have hl := lv_entry ([.ref mc, .ref z2]) (n := 2) (Nat.le_of_ble_eq_true rfl)
  rw [lg_entry_eq]
  generalize (lg_sl ([.ref mc, .ref z2]) ++ List.replicate (2 - (lg_sl ([.ref mc, .ref z2])).length) Slot.unset).toArray = ls at hl ⊢
  have hl : lv_has ls 2 [(0, .ref mc), (1, .ref z2)] := hl
  refine lv_aload_n hx hb dJx4a65c_add_9ea2d_0 rfl (lv_at hl 0 rfl) ?_
  refine lv_dup hx hb dJx4a65c_add_9ea2d_1 rfl ?_
  refine va_get (D := g.1) (ci := 1) (v := .int c0) (C := RJx4a65c) (T := TJx4a65c) (N := 3) hx hb htg inG_Jx4a65c hown hK hP 0 rfl rfl 0 (by decide) (htg _ k1314) (fun x9 h9 => u_same (htg _ k1313) x9 h9) rfl dJx4a65c_add_9ea2d_2 ?_
  refine lv_iconst (v := 1) hx hb dJx4a65c_add_9ea2d_5 (by decide) ?_
  refine lv_iadd hx hb dJx4a65c_add_9ea2d_6 ?_
  refine lv_topi (fun x_1 ex_1 => ?_)
  refine va_put (D := g.1) (ci := 1) (v := .int x_1) (ty := .int) (C := RJx4a65c) (T := TJx4a65c) (N := 3) hx hb htg inG_Jx4a65c tyJx4a65c tyJx4a65c_ok nmJx4a65c hown hK hP hD hS 0 rfl rfl 0 (by decide) (htg _ k1314) (fun x9 h9 => u_same (htg _ k1313) x9 h9) rfl (by decide +kernel) rfl rfl (Nat.le_of_ble_eq_true rfl) dJx4a65c_add_9ea2d_7 (fun H locs hP hD hS => ?_)
  have hP : va_P g.1 CLS [(mc, .inr (1, [.int x_1, .ref mca, .int (nI k1)])), (mca, .inl (g.2.1 5, nc, .inr (.inr (.inr (.inr fc))))), (z2, .inr (2, [.int w1, .ref w2]))] H := hP
  have hD : va_D A [(mc, .inr (1, [.int x_1, .ref mca, .int (nI k1)])), (mca, .inl (g.2.1 5, nc, .inr (.inr (.inr (.inr fc))))), (z2, .inr (2, [.int w1, .ref w2]))] := hD
  refine lv_aload_n hx hb dJx4a65c_add_9ea2d_10 rfl (lv_at hl 0 rfl) ?_
  refine lv_aload_n hx hb dJx4a65c_add_9ea2d_11 rfl (lv_at hl 1 rfl) ?_
  refine lv_aload_n hx hb dJx4a65c_add_9ea2d_12 rfl (lv_at hl 0 rfl) ?_
  refine va_get (D := g.1) (ci := 1) (v := .ref mca) (C := RJx4a65c) (T := TJx4a65c) (N := 3) hx hb htg inG_Jx4a65c hown hK hP 0 rfl rfl 1 (by decide) (htg _ k1307) (fun _ h9 => h9) rfl dJx4a65c_add_9ea2d_13 ?_
  refine lv_aload_n hx hb dJx4a65c_add_9ea2d_16 rfl (lv_at hl 0 rfl) ?_
  refine va_get (D := g.1) (ci := 1) (v := .int (nI k1)) (C := RJx4a65c) (T := TJx4a65c) (N := 3) hx hb htg inG_Jx4a65c hown hK hP 0 rfl rfl 2 (by decide) (htg _ k1310) (fun _ h9 => h9) rfl dJx4a65c_add_9ea2d_17 ?_
  have hPc := hP.sub (ws' := [(mc, .inr (1, [.int x_1, .ref mca, .int (nI k1)])), (mca, .inl (g.2.1 5, nc, .inr (.inr (.inr (.inr fc))))), (z2, .inr (2, [.int w1, .ref w2]))]) [0, 1, 2] rfl
  have hDc := hD.sub (ws' := [(mc, .inr (1, [.int x_1, .ref mca, .int (nI k1)])), (mca, .inl (g.2.1 5, nc, .inr (.inr (.inr (.inr fc))))), (z2, .inr (2, [.int w1, .ref w2]))]) [0, 1, 2] (by decide) rfl
  have hFc := va_free (wc := [(mc, .inr (1, [.int x_1, .ref mca, .int (nI k1)])), (mca, .inl (g.2.1 5, nc, .inr (.inr (.inr (.inr fc))))), (z2, .inr (2, [.int w1, .ref w2]))]) hD hS hA [0, 1, 2] rfl
  refine q_cv (wr := []) (va_runV (As := [.ref z2, .ref mca, .int (nI k1)]) (rest := []) ⟨hx, hb, hml, hown, htg⟩ (c_add3 l hfl g mc mca k1 nc x_1 fc z2 w1 w2 (hkc) (hnc) H.size) ⟨(qB htg k1512 k60 k1509 ok_Jx4a65c_add_72be8 rfl rfl ⟨Nat.le_of_ble_eq_true rfl, Nat.le_of_ble_eq_true rfl⟩), htg _ k1511, htg _ k20⟩ ⟨(q_pre [.ref mc, .ref z2, .ref mca, .int (nI k1)] hPc hDc hK hS hT hFc).1, va_recv hK hP (ci := 1) (q0 := 0) rfl rfl, (q_pre [.ref mc, .ref z2, .ref mca, .int (nI k1)] hPc hDc hK hS hT hFc).2⟩ rfl rfl hl.1 rfl (lv_room (Nat.le_of_ble_eq_true rfl)) dJx4a65c_add_9ea2d_20 ⟨Nat.le_of_ble_eq_true rfl, Nat.le_of_ble_eq_true rfl⟩) hP hD hS hFc [0, 1, 2] [] rfl rfl (by decide) (by decide) (fun u9 H locs hw hP hD hS => ?_)
  try dsimp only at hw
  rcases hw with ⟨f_2, rfl⟩
  have hP : va_P g.1 CLS [(mc, .inr (1, [.int x_1, .ref mca, .int (nI (k1 + 1))])), (mca, .inl (g.2.1 5, nc, .inr (.inr (.inr (.inr f_2)))))] H := hP
  have hD : va_D A [(mc, .inr (1, [.int x_1, .ref mca, .int (nI (k1 + 1))])), (mca, .inl (g.2.1 5, nc, .inr (.inr (.inr (.inr f_2)))))] := hD
  refine W.widen (k := 0) (n := 0) (Nat.le_of_ble_eq_true rfl) (Nat.le_of_ble_eq_true rfl) ?_
  refine lv_iconst (v := 1) hx hb dJx4a65c_add_9ea2d_23 (by decide) ?_
  have hP9 := hP.sub (ws' := [(mc, .inr (1, [.int x_1, .ref mca, .int (nI (k1 + 1))])), (mca, .inl (g.2.1 5, nc, .inr (.inr (.inr (.inr f_2)))))]) [0, 1] rfl
  have hD9 := hD.sub (ws' := [(mc, .inr (1, [.int x_1, .ref mca, .int (nI (k1 + 1))])), (mca, .inl (g.2.1 5, nc, .inr (.inr (.inr (.inr f_2)))))]) [0, 1] (by decide) rfl
  refine W.widen (k := 0) (n := 0) (Nat.le_of_ble_eq_true rfl) (Nat.le_of_ble_eq_true rfl) ?_
  exact W.zret (v := 1) hx hb hr rfl (fun t ht hW => ⟨⟨1, [(mc, .inr (1, [.int x_1, .ref mca, .int (nI (k1 + 1))])), (mca, .inl (g.2.1 5, nc, .inr (.inr (.inr (.inr f_2)))))], rfl, ⟨x_1, f_2, rfl, rfl⟩, by rw [ht]; exact hP9, va_K.moved hW.alike hK, hD9⟩, hS.F ht⟩) hS.2.2 dJx4a65c_add_9ea2d_24

set_option maxHeartbeats 4000000 in
set_option maxRecDepth 100000 in
theorem c_X8_init (l : Launch) (hfl : l.stackTraces = false) (g : GP) (z0 : Nat) (z1 : Nat)  : CV l yX8_init (wG yX8_init cX8_init 3 (Option.none : Option Jvm.ClassFile.FieldType)) (LV 2 0 0) g [.ref z0, .int 101, .ref z1] ([(z0, .inr (2, [.int 0, .null]))]) (fun (u : va_W) => u = [(z0, .inr (2, [.int 101, .ref z1]))]) := by
  intro sz
  refine Met.ofW (cc := cX8_init) (maxL := 3) (ret := (Option.none : Option Jvm.ClassFile.FieldType)) (by decide) rfl ?_
  intro p e s m args below meth c s₁ B hml hv
  obtain ⟨rfl, hsz, hP, hK, hD0, hT0⟩ := hv
  have hx := B.exec
  have hb := B.bytes
  have hr := B.returns
  have hts := atoms_spec (ws := (wG yX8_init cX8_init 3 (Option.none : Option Jvm.ClassFile.FieldType))) B.pre
  have htg : ∀ w ∈ G9, w.before _ s = true := fun w h => hts w (List.mem_cons_of_mem _ h)
  have hown : s.vm.findClass "HeroTableModel$Call" = some m.cls := findClass_of_methodNamed B.named
  have hlocks := B.notSynchronized
  have hin : meth.name = "<init>" := (name_of_methodNamed B.named B.method).1
  subst hsz
  have hD := hD0.self (sz := s.heap.size)
  have hT := hT0
  clear hT0
  generalize hAe : va_A [(z0, .inr (2, [.int 0, .null]))] s.heap.size = A at hD hT ⊢
  have hA : ∀ q : Nat, s.heap.size ≤ q → A q := fun q h => by rw [← hAe]; exact Or.inr h
  obtain ⟨H, hH0⟩ : ∃ H, H = s.heap := ⟨_, rfl⟩
  have hS : va_S A s.heap H [] := by rw [hH0]; exact va_S.rf
  have hP : va_P g.1 CLS [(z0, .inr (2, [.int 0, .null]))] H := by rw [hH0]; exact hP
  rw [← hH0]
  have hl := lv_entry ([.ref z0, .int 101, .ref z1]) (n := 3) (Nat.le_of_ble_eq_true rfl)
  rw [lg_entry_eq]
  generalize (lg_sl ([.ref z0, .int 101, .ref z1]) ++ List.replicate (3 - (lg_sl ([.ref z0, .int 101, .ref z1])).length) Slot.unset).toArray = ls at hl ⊢
  have hl : lv_has ls 3 [(0, .ref z0), (1, .int 101), (2, .ref z1)] := hl
  refine lv_aload_n hx hb dX8_init_0 rfl (lv_at hl 0 rfl) ?_
  refine W.objInit hx hb hown (htg _ k1490) (htg _ k98) (htg _ k99) rfl (by rw [hml]; exact hl.1) rfl dX8_init_1 (Nat.le_of_ble_eq_true rfl) (Nat.le_of_ble_eq_true rfl) ?_
  refine W.eq (g2 := F0 m 4 ls []) rfl ?_
  refine lv_aload_n hx hb dX8_init_4 rfl (lv_at hl 0 rfl) ?_
  refine lv_iload_n hx hb dX8_init_5 rfl (lv_at hl 1 rfl) ?_
  refine va_putF (D := g.1) (ci := 2) (v := .int 101) (ty := .char) (C := RX8) (T := TX8) (N := 2) hx hb htg inG_X8 tyX8 tyX8_ok nmX8 hown hK hP hD hS 0 rfl rfl 0 (by decide) (htg _ k1491) (fun _ h9 => h9) rfl hin rfl (by decide +kernel) rfl rfl (Nat.le_of_ble_eq_true rfl) dX8_init_6 (fun H locs hP hD hS => ?_)
  have hP : va_P g.1 CLS [(z0, .inr (2, [.int 101, .null]))] H := hP
  have hD : va_D A [(z0, .inr (2, [.int 101, .null]))] := hD
  refine lv_aload_n hx hb dX8_init_9 rfl (lv_at hl 0 rfl) ?_
  refine lv_aload_n hx hb dX8_init_10 rfl (lv_at hl 2 rfl) ?_
  refine va_putF (D := g.1) (ci := 2) (v := .ref z1) (ty := (.array .int)) (C := RX8) (T := TX8) (N := 2) hx hb htg inG_X8 tyX8 tyX8_ok nmX8 hown hK hP hD hS 0 rfl rfl 1 (by decide) (htg _ k1493) (fun _ h9 => h9) rfl hin rfl (by decide +kernel) rfl rfl (Nat.le_of_ble_eq_true rfl) dX8_init_11 (fun H locs hP hD hS => ?_)
  have hP : va_P g.1 CLS [(z0, .inr (2, [.int 101, .ref z1]))] H := hP
  have hD : va_D A [(z0, .inr (2, [.int 101, .ref z1]))] := hD
  have hP9 := hP.sub (ws' := [(z0, .inr (2, [.int 101, .ref z1]))]) [0] rfl
  have hD9 := hD.sub (ws' := [(z0, .inr (2, [.int 101, .ref z1]))]) [0] (by decide) rfl
  refine W.widen (k := 0) (n := 0) (Nat.le_of_ble_eq_true rfl) (Nat.le_of_ble_eq_true rfl) ?_
  exact W.vret hx hb hr (fun t ht hW => ⟨⟨[(z0, .inr (2, [.int 101, .ref z1]))], rfl, rfl, by rw [ht]; exact hP9, va_K.moved hW.alike hK, hD9⟩, hS.F ht⟩) hS.2.2 dX8_init_14

set_option maxHeartbeats 4000000 in
set_option maxRecDepth 100000 in
theorem c_keep (l : Launch) (hfl : l.stackTraces = false) (g : GP) (mh : Nat) (mg : Nat) (mc : Nat) (n1 : Int32) (n2 : Int32) (n3 : Int32) (n4 : Int64) (n5 : Int32) (n6 : Int32) (n7 : Int32) (mca : Nat) (k1 : Nat) (nc : Nat) (c0 : Int32) (fc : Nat → Option Nat) (z1 : Nat) (hkc : k1 < nc) (hnc : nc < 2 ^ 31) : CV l yX11_keep (wG yX11_keep cX11_keep 3 (Option.none : Option Jvm.ClassFile.FieldType)) (LV 4 1 2) g [.ref (g.2.2 2000), .int 101, .ref z1] ([((g.2.2 2000), .inr (5, [.ref mh, .ref mg, .ref (g.2.2 2002), .ref (g.2.2 2005), .ref mc, .ref (g.2.2 2006), .int 0, .int n1, .int n2, .int n3, .long n4, .int n5, .int n6, .int n7])), (mc, .inr (1, [.int c0, .ref mca, .int (nI k1)])), (mca, .inl (g.2.1 5, nc, .inr (.inr (.inr (.inr fc)))))]) (fun (u : va_W) => ∃ (c9 : Int32) (f2 : Nat → Option Nat), u = [((g.2.2 2000), .inr (5, [.ref mh, .ref mg, .ref (g.2.2 2002), .ref (g.2.2 2005), .ref mc, .ref (g.2.2 2006), .int 0, .int n1, .int n2, .int n3, .long n4, .int n5, .int n6, .int n7])), (mc, .inr (1, [.int c9, .ref mca, .int (nI (k1 + 1))])), (mca, .inl (g.2.1 5, nc, .inr (.inr (.inr (.inr f2)))))]) := by
  intro sz
  refine Met.ofW (cc := cX11_keep) (maxL := 3) (ret := (Option.none : Option Jvm.ClassFile.FieldType)) (by decide) rfl ?_
  intro p e s m args below meth c s₁ B hml hv
  obtain ⟨rfl, hsz, hP, hK, hD0, hT0⟩ := hv
  have hx := B.exec
  have hb := B.bytes
  have hr := B.returns
  have hts := atoms_spec (ws := (wG yX11_keep cX11_keep 3 (Option.none : Option Jvm.ClassFile.FieldType))) B.pre
  have htg : ∀ w ∈ G9, w.before _ s = true := fun w h => hts w (List.mem_cons_of_mem _ h)
  have hown : s.vm.findClass "HeroTableModel" = some m.cls := findClass_of_methodNamed B.named
  have hlocks := B.notSynchronized
  subst hsz
  have hD := hD0.self (sz := s.heap.size)
  have hT := hT0
  clear hT0
  generalize hAe : va_A [((g.2.2 2000), .inr (5, [.ref mh, .ref mg, .ref (g.2.2 2002), .ref (g.2.2 2005), .ref mc, .ref (g.2.2 2006), .int 0, .int n1, .int n2, .int n3, .long n4, .int n5, .int n6, .int n7])), (mc, .inr (1, [.int c0, .ref mca, .int (nI k1)])), (mca, .inl (g.2.1 5, nc, .inr (.inr (.inr (.inr fc)))))] s.heap.size = A at hD hT ⊢
  have hA : ∀ q : Nat, s.heap.size ≤ q → A q := fun q h => by rw [← hAe]; exact Or.inr h
  obtain ⟨H, hH0⟩ : ∃ H, H = s.heap := ⟨_, rfl⟩
  have hS : va_S A s.heap H [] := by rw [hH0]; exact va_S.rf
  have hP : va_P g.1 CLS [((g.2.2 2000), .inr (5, [.ref mh, .ref mg, .ref (g.2.2 2002), .ref (g.2.2 2005), .ref mc, .ref (g.2.2 2006), .int 0, .int n1, .int n2, .int n3, .long n4, .int n5, .int n6, .int n7])), (mc, .inr (1, [.int c0, .ref mca, .int (nI k1)])), (mca, .inl (g.2.1 5, nc, .inr (.inr (.inr (.inr fc)))))] H := by rw [hH0]; exact hP
  rw [← hH0]
  have hl := lv_entry ([.ref (g.2.2 2000), .int 101, .ref z1]) (n := 3) (Nat.le_of_ble_eq_true rfl)
  rw [lg_entry_eq]
  generalize (lg_sl ([.ref (g.2.2 2000), .int 101, .ref z1]) ++ List.replicate (3 - (lg_sl ([.ref (g.2.2 2000), .int 101, .ref z1])).length) Slot.unset).toArray = ls at hl ⊢
  have hl : lv_has ls 3 [(0, .ref (g.2.2 2000)), (1, .int 101), (2, .ref z1)] := hl
  refine lv_aload_n hx hb dX11_keep_0 rfl (lv_at hl 0 rfl) ?_
  refine va_get (D := g.1) (ci := 5) (v := .ref mc) (C := RX11) (T := TX11) (N := 14) hx hb htg inG_X11 hown hK hP 0 rfl rfl 4 (by decide) (htg _ k1344) (fun _ h9 => h9) rfl dX11_keep_1 ?_
  refine va_new (ci := 2) (fs := [.int 0, .null]) (C := RX8) (T := TX8) (N := 2) hx hb htg inG_X8 tyX8 tyX8_ok hown (htg _ k1485) (htg _ k1486) (htg _ k74) hK hP hD hS hA rfl (by decide) (Nat.le_of_ble_eq_true rfl) (Nat.le_of_ble_eq_true rfl) dX11_keep_4 (fun q_1 H hP hD hS => ?_)
  have hP : va_P g.1 CLS [((g.2.2 2000), .inr (5, [.ref mh, .ref mg, .ref (g.2.2 2002), .ref (g.2.2 2005), .ref mc, .ref (g.2.2 2006), .int 0, .int n1, .int n2, .int n3, .long n4, .int n5, .int n6, .int n7])), (mc, .inr (1, [.int c0, .ref mca, .int (nI k1)])), (mca, .inl (g.2.1 5, nc, .inr (.inr (.inr (.inr fc))))), (q_1, .inr (2, [.int 0, .null]))] H := hP
  have hD : va_D A [((g.2.2 2000), .inr (5, [.ref mh, .ref mg, .ref (g.2.2 2002), .ref (g.2.2 2005), .ref mc, .ref (g.2.2 2006), .int 0, .int n1, .int n2, .int n3, .long n4, .int n5, .int n6, .int n7])), (mc, .inr (1, [.int c0, .ref mca, .int (nI k1)])), (mca, .inl (g.2.1 5, nc, .inr (.inr (.inr (.inr fc))))), (q_1, .inr (2, [.int 0, .null]))] := hD
  refine W.widen (k := 1) (n := 2) (Nat.le_of_ble_eq_true rfl) (Nat.le_of_ble_eq_true rfl) ?_
  refine lv_dup hx hb dX11_keep_7 rfl ?_
  refine lv_iload_n hx hb dX11_keep_8 rfl (lv_at hl 1 rfl) ?_
  refine lv_aload_n hx hb dX11_keep_9 rfl (lv_at hl 2 rfl) ?_
  have hPc := hP.sub (ws' := [(q_1, .inr (2, [.int 0, .null]))]) [3] rfl
  have hDc := hD.sub (ws' := [(q_1, .inr (2, [.int 0, .null]))]) [3] (by decide) rfl
  have hFc := va_free (wc := [(q_1, .inr (2, [.int 0, .null]))]) hD hS hA [3] rfl
  refine q_cv (wr := [((g.2.2 2000), .inr (5, [.ref mh, .ref mg, .ref (g.2.2 2002), .ref (g.2.2 2005), .ref mc, .ref (g.2.2 2006), .int 0, .int n1, .int n2, .int n3, .long n4, .int n5, .int n6, .int n7])), (mc, .inr (1, [.int c0, .ref mca, .int (nI k1)])), (mca, .inl (g.2.1 5, nc, .inr (.inr (.inr (.inr fc)))))]) (va_runI (As := [.int 101, .ref z1]) (rest := [.ref q_1, .ref mc]) ⟨hx, hb, hml, hown, htg⟩ (c_X8_init l hfl g q_1 z1  H.size) ⟨(qB htg k1489 k74 k1487 ok_X8_init rfl rfl ⟨Nat.le_of_ble_eq_true rfl, Nat.le_of_ble_eq_true rfl⟩), rfl, htg _ k1488⟩ (q_pre [.ref q_1, .int 101, .ref z1] hPc hDc hK hS hT hFc) rfl rfl hl.1 rfl (lv_room (Nat.le_of_ble_eq_true rfl)) dX11_keep_10 ⟨Nat.le_of_ble_eq_true rfl, Nat.le_of_ble_eq_true rfl⟩) hP hD hS hFc [3] [0, 1, 2] rfl rfl (by decide) (by decide) (fun u9 H locs hw hP hD hS => ?_)
  try dsimp only at hw
  rcases hw with rfl
  have hP : va_P g.1 CLS [((g.2.2 2000), .inr (5, [.ref mh, .ref mg, .ref (g.2.2 2002), .ref (g.2.2 2005), .ref mc, .ref (g.2.2 2006), .int 0, .int n1, .int n2, .int n3, .long n4, .int n5, .int n6, .int n7])), (mc, .inr (1, [.int c0, .ref mca, .int (nI k1)])), (mca, .inl (g.2.1 5, nc, .inr (.inr (.inr (.inr fc))))), (q_1, .inr (2, [.int 101, .ref z1]))] H := hP
  have hD : va_D A [((g.2.2 2000), .inr (5, [.ref mh, .ref mg, .ref (g.2.2 2002), .ref (g.2.2 2005), .ref mc, .ref (g.2.2 2006), .int 0, .int n1, .int n2, .int n3, .long n4, .int n5, .int n6, .int n7])), (mc, .inr (1, [.int c0, .ref mca, .int (nI k1)])), (mca, .inl (g.2.1 5, nc, .inr (.inr (.inr (.inr fc))))), (q_1, .inr (2, [.int 101, .ref z1]))] := hD
  refine W.widen (k := 1) (n := 2) (Nat.le_of_ble_eq_true rfl) (Nat.le_of_ble_eq_true rfl) ?_
  have hPc := hP.sub (ws' := [(mc, .inr (1, [.int c0, .ref mca, .int (nI k1)])), (mca, .inl (g.2.1 5, nc, .inr (.inr (.inr (.inr fc))))), (q_1, .inr (2, [.int 101, .ref z1]))]) [1, 2, 3] rfl
  have hDc := hD.sub (ws' := [(mc, .inr (1, [.int c0, .ref mca, .int (nI k1)])), (mca, .inl (g.2.1 5, nc, .inr (.inr (.inr (.inr fc))))), (q_1, .inr (2, [.int 101, .ref z1]))]) [1, 2, 3] (by decide) rfl
  have hFc := va_free (wc := [(mc, .inr (1, [.int c0, .ref mca, .int (nI k1)])), (mca, .inl (g.2.1 5, nc, .inr (.inr (.inr (.inr fc))))), (q_1, .inr (2, [.int 101, .ref z1]))]) hD hS hA [1, 2, 3] rfl
  refine q_cFi (wr := [((g.2.2 2000), .inr (5, [.ref mh, .ref mg, .ref (g.2.2 2002), .ref (g.2.2 2005), .ref mc, .ref (g.2.2 2006), .int 0, .int n1, .int n2, .int n3, .long n4, .int n5, .int n6, .int n7]))]) (va_runF (As := [.ref q_1]) (rest := []) (hK.1 1 _ rfl).2 ⟨hx, hb, hml, hown, htg⟩ (c_add l hfl g mc mca k1 nc c0 fc q_1 101 z1 (hkc) (hnc) H.size) (qI5 htg k1508 k60 k1501 k1504 k1506 (hT.1.2.2.2.2.2.1) okx_add rfl rfl ⟨Nat.le_of_ble_eq_true rfl, Nat.le_of_ble_eq_true rfl⟩) ⟨(q_pre [.ref mc, .ref q_1] hPc hDc hK hS hT hFc).1, va_recv hK hP (ci := 1) (q0 := 1) rfl rfl, (q_pre [.ref mc, .ref q_1] hPc hDc hK hS hT hFc).2⟩ rfl rfl hl.1 rfl (lv_room (Nat.le_of_ble_eq_true rfl)) dX11_keep_13 ⟨Nat.le_of_ble_eq_true rfl, Nat.le_of_ble_eq_true rfl⟩) hP hD hS hFc [1, 2, 3] [0] rfl rfl (by decide) (by decide) (fun r9 u9 H locs hw hP hD hS => ?_)
  try dsimp only at hw
  rcases hw with ⟨v_2, f_3, rfl, rfl⟩
  have hP : va_P g.1 CLS [((g.2.2 2000), .inr (5, [.ref mh, .ref mg, .ref (g.2.2 2002), .ref (g.2.2 2005), .ref mc, .ref (g.2.2 2006), .int 0, .int n1, .int n2, .int n3, .long n4, .int n5, .int n6, .int n7])), (mc, .inr (1, [.int v_2, .ref mca, .int (nI (k1 + 1))])), (mca, .inl (g.2.1 5, nc, .inr (.inr (.inr (.inr f_3)))))] H := hP
  have hD : va_D A [((g.2.2 2000), .inr (5, [.ref mh, .ref mg, .ref (g.2.2 2002), .ref (g.2.2 2005), .ref mc, .ref (g.2.2 2006), .int 0, .int n1, .int n2, .int n3, .long n4, .int n5, .int n6, .int n7])), (mc, .inr (1, [.int v_2, .ref mca, .int (nI (k1 + 1))])), (mca, .inl (g.2.1 5, nc, .inr (.inr (.inr (.inr f_3)))))] := hD
  refine W.widen (k := 1) (n := 2) (Nat.le_of_ble_eq_true rfl) (Nat.le_of_ble_eq_true rfl) ?_
  refine lv_pop hx hb dX11_keep_18 rfl ?_
  have hP9 := hP.sub (ws' := [((g.2.2 2000), .inr (5, [.ref mh, .ref mg, .ref (g.2.2 2002), .ref (g.2.2 2005), .ref mc, .ref (g.2.2 2006), .int 0, .int n1, .int n2, .int n3, .long n4, .int n5, .int n6, .int n7])), (mc, .inr (1, [.int v_2, .ref mca, .int (nI (k1 + 1))])), (mca, .inl (g.2.1 5, nc, .inr (.inr (.inr (.inr f_3)))))]) [0, 1, 2] rfl
  have hD9 := hD.sub (ws' := [((g.2.2 2000), .inr (5, [.ref mh, .ref mg, .ref (g.2.2 2002), .ref (g.2.2 2005), .ref mc, .ref (g.2.2 2006), .int 0, .int n1, .int n2, .int n3, .long n4, .int n5, .int n6, .int n7])), (mc, .inr (1, [.int v_2, .ref mca, .int (nI (k1 + 1))])), (mca, .inl (g.2.1 5, nc, .inr (.inr (.inr (.inr f_3)))))]) [0, 1, 2] (by decide) rfl
  refine W.widen (k := 1) (n := 2) (Nat.le_of_ble_eq_true rfl) (Nat.le_of_ble_eq_true rfl) ?_
  exact W.vret hx hb hr (fun t ht hW => ⟨⟨[((g.2.2 2000), .inr (5, [.ref mh, .ref mg, .ref (g.2.2 2002), .ref (g.2.2 2005), .ref mc, .ref (g.2.2 2006), .int 0, .int n1, .int n2, .int n3, .long n4, .int n5, .int n6, .int n7])), (mc, .inr (1, [.int v_2, .ref mca, .int (nI (k1 + 1))])), (mca, .inl (g.2.1 5, nc, .inr (.inr (.inr (.inr f_3)))))], rfl, ⟨v_2, f_3, rfl⟩, by rw [ht]; exact hP9, va_K.moved hW.alike hK, hD9⟩, hS.F ht⟩) hS.2.2 dX11_keep_19

set_option maxHeartbeats 4000000 in
set_option maxRecDepth 100000 in
theorem c_isOn (l : Launch) (hfl : l.stackTraces = false) (g : GP) (mh : Nat) (mg : Nat) (mc : Nat) (n1 : Int32) (n2 : Int32) (n3 : Int32) (n4 : Int64) (n5 : Int32) (n6 : Int32) (n7 : Int32)  : CI l yX11_isOn (wG yX11_isOn cX11_isOn 1 (Option.some Jvm.ClassFile.FieldType.boolean)) (LV 1 0 0) g [.ref (g.2.2 2000)] ([((g.2.2 2000), .inr (5, [.ref mh, .ref mg, .ref (g.2.2 2002), .ref (g.2.2 2005), .ref mc, .ref (g.2.2 2006), .int 0, .int n1, .int n2, .int n3, .long n4, .int n5, .int n6, .int n7]))]) (fun (r : Int32) (u : va_W) => r = 1 ∧ u = [((g.2.2 2000), .inr (5, [.ref mh, .ref mg, .ref (g.2.2 2002), .ref (g.2.2 2005), .ref mc, .ref (g.2.2 2006), .int 0, .int n1, .int n2, .int n3, .long n4, .int n5, .int n6, .int n7]))]) := by
  intro sz
  refine Met.ofW (cc := cX11_isOn) (maxL := 1) (ret := (Option.some Jvm.ClassFile.FieldType.boolean)) (by decide) rfl ?_
  intro p e s m args below meth c s₁ B hml hv
  obtain ⟨rfl, hsz, hP, hK, hD0, hT0⟩ := hv
  have hx := B.exec
  have hb := B.bytes
  have hr := B.returns
  have hts := atoms_spec (ws := (wG yX11_isOn cX11_isOn 1 (Option.some Jvm.ClassFile.FieldType.boolean))) B.pre
  have htg : ∀ w ∈ G9, w.before _ s = true := fun w h => hts w (List.mem_cons_of_mem _ h)
  have hown : s.vm.findClass "HeroTableModel" = some m.cls := findClass_of_methodNamed B.named
  have hlocks := B.notSynchronized
  subst hsz
  have hD := hD0.self (sz := s.heap.size)
  have hT := hT0
  clear hT0
  generalize hAe : va_A [((g.2.2 2000), .inr (5, [.ref mh, .ref mg, .ref (g.2.2 2002), .ref (g.2.2 2005), .ref mc, .ref (g.2.2 2006), .int 0, .int n1, .int n2, .int n3, .long n4, .int n5, .int n6, .int n7]))] s.heap.size = A at hD hT ⊢
  have hA : ∀ q : Nat, s.heap.size ≤ q → A q := fun q h => by rw [← hAe]; exact Or.inr h
  obtain ⟨H, hH0⟩ : ∃ H, H = s.heap := ⟨_, rfl⟩
  have hS : va_S A s.heap H [] := by rw [hH0]; exact va_S.rf
  have hP : va_P g.1 CLS [((g.2.2 2000), .inr (5, [.ref mh, .ref mg, .ref (g.2.2 2002), .ref (g.2.2 2005), .ref mc, .ref (g.2.2 2006), .int 0, .int n1, .int n2, .int n3, .long n4, .int n5, .int n6, .int n7]))] H := by rw [hH0]; exact hP
  rw [← hH0]
  have hl := lv_entry ([.ref (g.2.2 2000)]) (n := 1) (Nat.le_of_ble_eq_true rfl)
  rw [lg_entry_eq]
  generalize (lg_sl ([.ref (g.2.2 2000)]) ++ List.replicate (1 - (lg_sl ([.ref (g.2.2 2000)])).length) Slot.unset).toArray = ls at hl ⊢
  have hl : lv_has ls 1 [(0, .ref (g.2.2 2000))] := hl
  refine lv_aload_n hx hb dX11_isOn_0 rfl (lv_at hl 0 rfl) ?_
  refine va_get (D := g.1) (ci := 5) (v := .int 0) (C := RX11) (T := TX11) (N := 14) hx hb htg inG_X11 hown hK hP 0 rfl rfl 6 (by decide) (htg _ k1346) (fun _ h9 => h9) rfl dX11_isOn_1 ?_
  refine lv_iconst (v := (-1)) hx hb dX11_isOn_4 (by decide) ?_
  refine lv_icmp_eq (tgt := 12) hx hb dX11_isOn_5 (by decide) (fun c_1 => absurd c_1 (by decide)) (fun c_1 => ?_)
  refine lv_iconst (v := 1) hx hb dX11_isOn_8 (by decide) ?_
  refine lv_goto (tgt := 13) hx hb dX11_isOn_9 (by decide) ?_
  have hP9 := hP.sub (ws' := [((g.2.2 2000), .inr (5, [.ref mh, .ref mg, .ref (g.2.2 2002), .ref (g.2.2 2005), .ref mc, .ref (g.2.2 2006), .int 0, .int n1, .int n2, .int n3, .long n4, .int n5, .int n6, .int n7]))]) [0] rfl
  have hD9 := hD.sub (ws' := [((g.2.2 2000), .inr (5, [.ref mh, .ref mg, .ref (g.2.2 2002), .ref (g.2.2 2005), .ref mc, .ref (g.2.2 2006), .int 0, .int n1, .int n2, .int n3, .long n4, .int n5, .int n6, .int n7]))]) [0] (by decide) rfl
  refine W.widen (k := 0) (n := 0) (Nat.le_of_ble_eq_true rfl) (Nat.le_of_ble_eq_true rfl) ?_
  exact W.zret (v := 1) hx hb hr rfl (fun t ht hW => ⟨⟨1, [((g.2.2 2000), .inr (5, [.ref mh, .ref mg, .ref (g.2.2 2002), .ref (g.2.2 2005), .ref mc, .ref (g.2.2 2006), .int 0, .int n1, .int n2, .int n3, .long n4, .int n5, .int n6, .int n7]))], rfl, ⟨rfl, rfl⟩, by rw [ht]; exact hP9, va_K.moved hW.alike hK, hD9⟩, hS.F ht⟩) hS.2.2 dX11_isOn_13

set_option maxHeartbeats 4000000 in
set_option maxRecDepth 100000 in
theorem c_chk3_0 (l : Launch) (hfl : l.stackTraces = false) (g : GP)   : CI l yJ3_checkIndex_8e157 (wG yJ3_checkIndex_8e157 cJ3_checkIndex_8e157 3 (Option.some Jvm.ClassFile.FieldType.int)) (LV 1 0 0) g [.int 0, .int 1, .null] ([]) (fun (r : Int32) (u : va_W) => r = 0 ∧ u = []) := by
  intro sz
  refine Met.ofW (cc := cJ3_checkIndex_8e157) (maxL := 3) (ret := (Option.some Jvm.ClassFile.FieldType.int)) (by decide) rfl ?_
  intro p e s m args below meth c s₁ B hml hv
  obtain ⟨rfl, hsz, hP, hK, hD0, hT0⟩ := hv
  have hx := B.exec
  have hb := B.bytes
  have hr := B.returns
  have hts := atoms_spec (ws := (wG yJ3_checkIndex_8e157 cJ3_checkIndex_8e157 3 (Option.some Jvm.ClassFile.FieldType.int))) B.pre
  have htg : ∀ w ∈ G9, w.before _ s = true := fun w h => hts w (List.mem_cons_of_mem _ h)
  have hown : s.vm.findClass "jdk/internal/util/Preconditions" = some m.cls := findClass_of_methodNamed B.named
  have hlocks := B.notSynchronized
  subst hsz
  have hD := hD0.self (sz := s.heap.size)
  have hT := hT0
  clear hT0
  generalize hAe : va_A [] s.heap.size = A at hD hT ⊢
  have hA : ∀ q : Nat, s.heap.size ≤ q → A q := fun q h => by rw [← hAe]; exact Or.inr h
  obtain ⟨H, hH0⟩ : ∃ H, H = s.heap := ⟨_, rfl⟩
  have hS : va_S A s.heap H [] := by rw [hH0]; exact va_S.rf
  have hP : va_P g.1 CLS [] H := by rw [hH0]; exact hP
  rw [← hH0]
  have hl := lv_entry ([.int 0, .int 1, .null]) (n := 3) (Nat.le_of_ble_eq_true rfl)
  rw [lg_entry_eq]
  generalize (lg_sl ([.int 0, .int 1, .null]) ++ List.replicate (3 - (lg_sl ([.int 0, .int 1, .null])).length) Slot.unset).toArray = ls at hl ⊢
  have hl : lv_has ls 3 [(0, .int 0), (1, .int 1), (2, .null)] := hl
  refine lv_iload_n hx hb dJ3_checkIndex_8e157_0 rfl (lv_at hl 0 rfl) ?_
  refine lv_if_lt (tgt := 9) hx hb dJ3_checkIndex_8e157_1 (by decide) (fun c_1 => absurd c_1 (by decide)) (fun c_1 => ?_)
  refine lv_iload_n hx hb dJ3_checkIndex_8e157_4 rfl (lv_at hl 0 rfl) ?_
  refine lv_iload_n hx hb dJ3_checkIndex_8e157_5 rfl (lv_at hl 1 rfl) ?_
  refine lv_icmp_lt (tgt := 16) hx hb dJ3_checkIndex_8e157_6 (by decide) (fun c_2 => ?_) (fun c_2 => absurd (by decide) c_2)
  refine lv_iload_n hx hb dJ3_checkIndex_8e157_16 rfl (lv_at hl 0 rfl) ?_
  have hP9 := hP.sub (ws' := []) [] rfl
  have hD9 := hD.sub (ws' := []) [] (by decide) rfl
  refine W.widen (k := 0) (n := 0) (Nat.le_of_ble_eq_true rfl) (Nat.le_of_ble_eq_true rfl) ?_
  exact W.iret (v := 0) hx hb hr (fun t ht hW => ⟨⟨0, [], rfl, ⟨rfl, rfl⟩, by rw [ht]; exact hP9, va_K.moved hW.alike hK, hD9⟩, hS.F ht⟩) hS.2.2 dJ3_checkIndex_8e157_17

set_option maxHeartbeats 4000000 in
set_option maxRecDepth 100000 in
theorem c_chk_0 (l : Launch) (hfl : l.stackTraces = false) (g : GP)   : CI l yJ15_checkIndex_7cf53 (wG yJ15_checkIndex_7cf53 cJ15_checkIndex_7cf53 2 (Option.some Jvm.ClassFile.FieldType.int)) (LV 2 0 0) g [.int 0, .int 1] ([]) (fun (r : Int32) (u : va_W) => r = 0 ∧ u = []) := by
  intro sz
  refine Met.ofW (cc := cJ15_checkIndex_7cf53) (maxL := 2) (ret := (Option.some Jvm.ClassFile.FieldType.int)) (by decide) rfl ?_
  intro p e s m args below meth c s₁ B hml hv
  obtain ⟨rfl, hsz, hP, hK, hD0, hT0⟩ := hv
  have hx := B.exec
  have hb := B.bytes
  have hr := B.returns
  have hts := atoms_spec (ws := (wG yJ15_checkIndex_7cf53 cJ15_checkIndex_7cf53 2 (Option.some Jvm.ClassFile.FieldType.int))) B.pre
  have htg : ∀ w ∈ G9, w.before _ s = true := fun w h => hts w (List.mem_cons_of_mem _ h)
  have hown : s.vm.findClass "java/util/Objects" = some m.cls := findClass_of_methodNamed B.named
  have hlocks := B.notSynchronized
  subst hsz
  have hD := hD0.self (sz := s.heap.size)
  have hT := hT0
  clear hT0
  generalize hAe : va_A [] s.heap.size = A at hD hT ⊢
  have hA : ∀ q : Nat, s.heap.size ≤ q → A q := fun q h => by rw [← hAe]; exact Or.inr h
  obtain ⟨H, hH0⟩ : ∃ H, H = s.heap := ⟨_, rfl⟩
  have hS : va_S A s.heap H [] := by rw [hH0]; exact va_S.rf
  have hP : va_P g.1 CLS [] H := by rw [hH0]; exact hP
  rw [← hH0]
  have hl := lv_entry ([.int 0, .int 1]) (n := 2) (Nat.le_of_ble_eq_true rfl)
  rw [lg_entry_eq]
  generalize (lg_sl ([.int 0, .int 1]) ++ List.replicate (2 - (lg_sl ([.int 0, .int 1])).length) Slot.unset).toArray = ls at hl ⊢
  have hl : lv_has ls 2 [(0, .int 0), (1, .int 1)] := hl
  refine lv_iload_n hx hb dJ15_checkIndex_7cf53_0 rfl (lv_at hl 0 rfl) ?_
  refine lv_iload_n hx hb dJ15_checkIndex_7cf53_1 rfl (lv_at hl 1 rfl) ?_
  refine lv_null hx hb dJ15_checkIndex_7cf53_2 ?_
  have hPc := hP.sub (ws' := []) [] rfl
  have hDc := hD.sub (ws' := []) [] (by decide) rfl
  have hFc := va_free (wc := []) hD hS hA [] rfl
  refine q_ci (wr := []) (va_runS (As := [.int 0, .int 1, .null]) (rest := []) ⟨hx, hb, hml, hown, htg⟩ (c_chk3_0 l hfl g   H.size) ⟨(qB htg k1658 k80 k1656 ok_J3_checkIndex_8e157 rfl rfl ⟨Nat.le_of_ble_eq_true rfl, Nat.le_of_ble_eq_true rfl⟩), htg _ k1657⟩ (q_pre [.int 0, .int 1, .null] hPc hDc hK hS hT hFc) rfl rfl hl.1 rfl (lv_room (Nat.le_of_ble_eq_true rfl)) dJ15_checkIndex_7cf53_3 ⟨Nat.le_of_ble_eq_true rfl, Nat.le_of_ble_eq_true rfl⟩) hP hD hS hFc [] [] rfl rfl (by decide) (by decide) (fun r9 u9 H locs hw hP hD hS => ?_)
  try dsimp only at hw
  rcases hw with ⟨rfl, rfl⟩
  have hP : va_P g.1 CLS [] H := hP
  have hD : va_D A [] := hD
  refine W.widen (k := 0) (n := 0) (Nat.le_of_ble_eq_true rfl) (Nat.le_of_ble_eq_true rfl) ?_
  have hP9 := hP.sub (ws' := []) [] rfl
  have hD9 := hD.sub (ws' := []) [] (by decide) rfl
  refine W.widen (k := 0) (n := 0) (Nat.le_of_ble_eq_true rfl) (Nat.le_of_ble_eq_true rfl) ?_
  exact W.iret (v := 0) hx hb hr (fun t ht hW => ⟨⟨0, [], rfl, ⟨rfl, rfl⟩, by rw [ht]; exact hP9, va_K.moved hW.alike hK, hD9⟩, hS.F ht⟩) hS.2.2 dJ15_checkIndex_7cf53_6

set_option maxHeartbeats 4000000 in
set_option maxRecDepth 100000 in
theorem c_eD_0 (l : Launch) (hfl : l.stackTraces = false) (g : GP)   : CQ l yJx4a65c_elementData_915e3 (wG yJx4a65c_elementData_915e3 cJx4a65c_elementData_915e3 2 (Option.some (Jvm.ClassFile.FieldType.object "java/lang/Object"))) (LV 1 0 0) g [.ref (g.2.2 2006), .int 0] ([]) (fun (r : Option Nat) (u : va_W) => r = some (g.2.2 2001) ∧ u = []) := by
  intro sz
  refine Met.ofW (cc := cJx4a65c_elementData_915e3) (maxL := 2) (ret := (Option.some (Jvm.ClassFile.FieldType.object "java/lang/Object"))) (by decide) rfl ?_
  intro p e s m args below meth c s₁ B hml hv
  obtain ⟨rfl, hsz, hP, hK, hD0, hT0⟩ := hv
  have hx := B.exec
  have hb := B.bytes
  have hr := B.returns
  have hts := atoms_spec (ws := (wG yJx4a65c_elementData_915e3 cJx4a65c_elementData_915e3 2 (Option.some (Jvm.ClassFile.FieldType.object "java/lang/Object")))) B.pre
  have htg : ∀ w ∈ G9, w.before _ s = true := fun w h => hts w (List.mem_cons_of_mem _ h)
  have hown : s.vm.findClass "java/util/ArrayList" = some m.cls := findClass_of_methodNamed B.named
  have hlocks := B.notSynchronized
  subst hsz
  have hD := hD0.self (sz := s.heap.size)
  have hT := hT0
  clear hT0
  generalize hAe : va_A [] s.heap.size = A at hD hT ⊢
  have hA : ∀ q : Nat, s.heap.size ≤ q → A q := fun q h => by rw [← hAe]; exact Or.inr h
  obtain ⟨H, hH0⟩ : ∃ H, H = s.heap := ⟨_, rfl⟩
  have hS : va_S A s.heap H [] := by rw [hH0]; exact va_S.rf
  have hP : va_P g.1 CLS [] H := by rw [hH0]; exact hP
  rw [← hH0]
  have hl := lv_entry ([.ref (g.2.2 2006), .int 0]) (n := 2) (Nat.le_of_ble_eq_true rfl)
  rw [lg_entry_eq]
  generalize (lg_sl ([.ref (g.2.2 2006), .int 0]) ++ List.replicate (2 - (lg_sl ([.ref (g.2.2 2006), .int 0])).length) Slot.unset).toArray = ls at hl ⊢
  have hl : lv_has ls 2 [(0, .ref (g.2.2 2006)), (1, .int 0)] := hl
  refine lv_aload_n hx hb dJx4a65c_elementData_915e3_0 rfl (lv_at hl 0 rfl) ?_
  refine vk_getf (v := .ref (g.2.2 2007)) hx hb (hT.2.2.2.2.2.1.2.2.1) hS hown (htg _ k1307) (fun _ h9 => h9) dJx4a65c_elementData_915e3_1 ?_
  refine lv_iload_n hx hb dJx4a65c_elementData_915e3_4 rfl (lv_at hl 1 rfl) ?_
  refine vb_tq hx hb (hT.2.2.2.2.2.1.2.2.2) hS (i := nI 0) (vp_in_nI hT.2.2.2.2.2.2.2.2.2.2.1 hT.2.2.2.2.2.2.2.2.2.2.2) (v := .ref (g.2.2 2001)) rfl dJx4a65c_elementData_915e3_5 ?_
  have hP9 := hP.sub (ws' := []) [] rfl
  have hD9 := hD.sub (ws' := []) [] (by decide) rfl
  refine W.widen (k := 0) (n := 0) (Nat.le_of_ble_eq_true rfl) (Nat.le_of_ble_eq_true rfl) ?_
  exact W.aret (v := .ref (g.2.2 2001)) hx hb hr (Or.inl ⟨_, rfl⟩) (Or.inr ⟨_, rfl⟩) (fun t ht hW => ⟨⟨some (g.2.2 2001), [], rfl, ⟨rfl, rfl⟩, by rw [ht]; exact hP9, va_K.moved hW.alike hK, hD9⟩, hS.F ht⟩) hS.2.2 dJx4a65c_elementData_915e3_6

set_option maxHeartbeats 4000000 in
set_option maxRecDepth 100000 in
theorem c_get_0 (l : Launch) (hfl : l.stackTraces = false) (g : GP)   : CQ l yJx4a65c_get_915e3 (wG yJx4a65c_get_915e3 cJx4a65c_get_915e3 2 (Option.some (Jvm.ClassFile.FieldType.object "java/lang/Object"))) (LV 3 0 0) g [.ref (g.2.2 2006), .int 0] ([]) (fun (r : Option Nat) (u : va_W) => r = some (g.2.2 2001) ∧ u = []) := by
  intro sz
  refine Met.ofW (cc := cJx4a65c_get_915e3) (maxL := 2) (ret := (Option.some (Jvm.ClassFile.FieldType.object "java/lang/Object"))) (by decide) rfl ?_
  intro p e s m args below meth c s₁ B hml hv
  obtain ⟨rfl, hsz, hP, hK, hD0, hT0⟩ := hv
  have hx := B.exec
  have hb := B.bytes
  have hr := B.returns
  have hts := atoms_spec (ws := (wG yJx4a65c_get_915e3 cJx4a65c_get_915e3 2 (Option.some (Jvm.ClassFile.FieldType.object "java/lang/Object")))) B.pre
  have htg : ∀ w ∈ G9, w.before _ s = true := fun w h => hts w (List.mem_cons_of_mem _ h)
  have hown : s.vm.findClass "java/util/ArrayList" = some m.cls := findClass_of_methodNamed B.named
  have hlocks := B.notSynchronized
  subst hsz
  have hD := hD0.self (sz := s.heap.size)
  have hT := hT0
  clear hT0
  generalize hAe : va_A [] s.heap.size = A at hD hT ⊢
  have hA : ∀ q : Nat, s.heap.size ≤ q → A q := fun q h => by rw [← hAe]; exact Or.inr h
  obtain ⟨H, hH0⟩ : ∃ H, H = s.heap := ⟨_, rfl⟩
  have hS : va_S A s.heap H [] := by rw [hH0]; exact va_S.rf
  have hP : va_P g.1 CLS [] H := by rw [hH0]; exact hP
  rw [← hH0]
  have hl := lv_entry ([.ref (g.2.2 2006), .int 0]) (n := 2) (Nat.le_of_ble_eq_true rfl)
  rw [lg_entry_eq]
  generalize (lg_sl ([.ref (g.2.2 2006), .int 0]) ++ List.replicate (2 - (lg_sl ([.ref (g.2.2 2006), .int 0])).length) Slot.unset).toArray = ls at hl ⊢
  have hl : lv_has ls 2 [(0, .ref (g.2.2 2006)), (1, .int 0)] := hl
  refine lv_iload_n hx hb dJx4a65c_get_915e3_0 rfl (lv_at hl 1 rfl) ?_
  refine lv_aload_n hx hb dJx4a65c_get_915e3_1 rfl (lv_at hl 0 rfl) ?_
  refine vk_getf (v := .int 1) hx hb (hT.2.2.2.2.2.1.2.1) hS hown (htg _ k1310) (fun _ h9 => h9) dJx4a65c_get_915e3_2 ?_
  have hPc := hP.sub (ws' := []) [] rfl
  have hDc := hD.sub (ws' := []) [] (by decide) rfl
  have hFc := va_free (wc := []) hD hS hA [] rfl
  refine q_ci (wr := []) (va_runS (As := [.int 0, .int 1]) (rest := []) ⟨hx, hb, hml, hown, htg⟩ (c_chk_0 l hfl g   H.size) ⟨(qB htg k1655 k83 k1653 ok_J15_checkIndex_7cf53 rfl rfl ⟨Nat.le_of_ble_eq_true rfl, Nat.le_of_ble_eq_true rfl⟩), htg _ k1654⟩ (q_pre [.int 0, .int 1] hPc hDc hK hS hT hFc) rfl rfl hl.1 rfl (lv_room (Nat.le_of_ble_eq_true rfl)) dJx4a65c_get_915e3_5 ⟨Nat.le_of_ble_eq_true rfl, Nat.le_of_ble_eq_true rfl⟩) hP hD hS hFc [] [] rfl rfl (by decide) (by decide) (fun r9 u9 H locs hw hP hD hS => ?_)
  try dsimp only at hw
  rcases hw with ⟨rfl, rfl⟩
  have hP : va_P g.1 CLS [] H := hP
  have hD : va_D A [] := hD
  refine W.widen (k := 0) (n := 0) (Nat.le_of_ble_eq_true rfl) (Nat.le_of_ble_eq_true rfl) ?_
  refine lv_pop hx hb dJx4a65c_get_915e3_8 rfl ?_
  refine lv_aload_n hx hb dJx4a65c_get_915e3_9 rfl (lv_at hl 0 rfl) ?_
  refine lv_iload_n hx hb dJx4a65c_get_915e3_10 rfl (lv_at hl 1 rfl) ?_
  have hPc := hP.sub (ws' := []) [] rfl
  have hDc := hD.sub (ws' := []) [] (by decide) rfl
  have hFc := va_free (wc := []) hD hS hA [] rfl
  refine q_cq (wr := []) (va_runV (As := [.int 0]) (rest := []) ⟨hx, hb, hml, hown, htg⟩ (c_eD_0 l hfl g   H.size) ⟨(qB htg k1662 k60 k1659 ok_Jx4a65c_elementData_915e3 rfl rfl ⟨Nat.le_of_ble_eq_true rfl, Nat.le_of_ble_eq_true rfl⟩), htg _ k1660, htg _ k1661⟩ ⟨(q_pre [.ref (g.2.2 2006), .int 0] hPc hDc hK hS hT hFc).1, va_Orecv (hT.2.2.2.2.2.1.1) hS, (q_pre [.ref (g.2.2 2006), .int 0] hPc hDc hK hS hT hFc).2⟩ rfl rfl hl.1 rfl (lv_room (Nat.le_of_ble_eq_true rfl)) dJx4a65c_get_915e3_11 ⟨Nat.le_of_ble_eq_true rfl, Nat.le_of_ble_eq_true rfl⟩) hP hD hS hFc [] [] rfl rfl (by decide) (by decide) (fun r9 u9 H locs hw hP hD hS => ?_)
  try dsimp only at hw
  rcases hw with ⟨rfl, rfl⟩
  have hP : va_P g.1 CLS [] H := hP
  have hD : va_D A [] := hD
  refine W.widen (k := 0) (n := 0) (Nat.le_of_ble_eq_true rfl) (Nat.le_of_ble_eq_true rfl) ?_
  have hP9 := hP.sub (ws' := []) [] rfl
  have hD9 := hD.sub (ws' := []) [] (by decide) rfl
  refine W.widen (k := 0) (n := 0) (Nat.le_of_ble_eq_true rfl) (Nat.le_of_ble_eq_true rfl) ?_
  exact W.aret (v := .ref (g.2.2 2001)) hx hb hr (Or.inl ⟨_, rfl⟩) (Or.inr ⟨_, rfl⟩) (fun t ht hW => ⟨⟨some (g.2.2 2001), [], rfl, ⟨rfl, rfl⟩, by rw [ht]; exact hP9, va_K.moved hW.alike hK, hD9⟩, hS.F ht⟩) hS.2.2 dJx4a65c_get_915e3_14

set_option maxHeartbeats 4000000 in
set_option maxRecDepth 100000 in
theorem c_now (l : Launch) (hfl : l.stackTraces = false) (g : GP) (mh : Nat) (mg : Nat) (mc : Nat) (n1 : Int32) (n2 : Int32) (n3 : Int32) (n4 : Int64) (n5 : Int32) (n6 : Int32) (n7 : Int32) (h1 : Int32) (h2 : Int32) (h3 : Int32) (h4 : Int32) (h5 : Int32) (h6 : Int32) (h7 : Int32) (h8 : Int32) (h9 : Int32) (h10 : Int32) (h11 : Int32) (h12 : Int32)  : CQ l yX11_now (wG yX11_now cX11_now 1 (Option.some (Jvm.ClassFile.FieldType.object "HeroTableModel$Hero"))) (LV 4 0 0) g [.ref (g.2.2 2000)] ([((g.2.2 2000), .inr (5, [.ref mh, .ref mg, .ref (g.2.2 2002), .ref (g.2.2 2005), .ref mc, .ref (g.2.2 2006), .int 0, .int n1, .int n2, .int n3, .long n4, .int n5, .int n6, .int n7])), ((g.2.2 2001), .inr (3, [.int 0, .int h1, .int h2, .int h3, .ref (g.2.2 2004), .int h4, .int h5, .int h6, .int h7, .int h8, .int h9, .int h10, .int h11, .int h12]))]) (fun (r : Option Nat) (u : va_W) => r = some (g.2.2 2001) ∧ u = [((g.2.2 2000), .inr (5, [.ref mh, .ref mg, .ref (g.2.2 2002), .ref (g.2.2 2005), .ref mc, .ref (g.2.2 2006), .int 0, .int n1, .int n2, .int n3, .long n4, .int n5, .int n6, .int n7])), ((g.2.2 2001), .inr (3, [.int 0, .int h1, .int h2, .int h3, .ref (g.2.2 2004), .int h4, .int h5, .int h6, .int h7, .int h8, .int h9, .int h10, .int h11, .int h12]))]) := by
  intro sz
  refine Met.ofW (cc := cX11_now) (maxL := 1) (ret := (Option.some (Jvm.ClassFile.FieldType.object "HeroTableModel$Hero"))) (by decide) rfl ?_
  intro p e s m args below meth c s₁ B hml hv
  obtain ⟨rfl, hsz, hP, hK, hD0, hT0⟩ := hv
  have hx := B.exec
  have hb := B.bytes
  have hr := B.returns
  have hts := atoms_spec (ws := (wG yX11_now cX11_now 1 (Option.some (Jvm.ClassFile.FieldType.object "HeroTableModel$Hero")))) B.pre
  have htg : ∀ w ∈ G9, w.before _ s = true := fun w h => hts w (List.mem_cons_of_mem _ h)
  have hown : s.vm.findClass "HeroTableModel" = some m.cls := findClass_of_methodNamed B.named
  have hlocks := B.notSynchronized
  subst hsz
  have hD := hD0.self (sz := s.heap.size)
  have hT := hT0
  clear hT0
  generalize hAe : va_A [((g.2.2 2000), .inr (5, [.ref mh, .ref mg, .ref (g.2.2 2002), .ref (g.2.2 2005), .ref mc, .ref (g.2.2 2006), .int 0, .int n1, .int n2, .int n3, .long n4, .int n5, .int n6, .int n7])), ((g.2.2 2001), .inr (3, [.int 0, .int h1, .int h2, .int h3, .ref (g.2.2 2004), .int h4, .int h5, .int h6, .int h7, .int h8, .int h9, .int h10, .int h11, .int h12]))] s.heap.size = A at hD hT ⊢
  have hA : ∀ q : Nat, s.heap.size ≤ q → A q := fun q h => by rw [← hAe]; exact Or.inr h
  obtain ⟨H, hH0⟩ : ∃ H, H = s.heap := ⟨_, rfl⟩
  have hS : va_S A s.heap H [] := by rw [hH0]; exact va_S.rf
  have hP : va_P g.1 CLS [((g.2.2 2000), .inr (5, [.ref mh, .ref mg, .ref (g.2.2 2002), .ref (g.2.2 2005), .ref mc, .ref (g.2.2 2006), .int 0, .int n1, .int n2, .int n3, .long n4, .int n5, .int n6, .int n7])), ((g.2.2 2001), .inr (3, [.int 0, .int h1, .int h2, .int h3, .ref (g.2.2 2004), .int h4, .int h5, .int h6, .int h7, .int h8, .int h9, .int h10, .int h11, .int h12]))] H := by rw [hH0]; exact hP
  rw [← hH0]
  have hl := lv_entry ([.ref (g.2.2 2000)]) (n := 1) (Nat.le_of_ble_eq_true rfl)
  rw [lg_entry_eq]
  generalize (lg_sl ([.ref (g.2.2 2000)]) ++ List.replicate (1 - (lg_sl ([.ref (g.2.2 2000)])).length) Slot.unset).toArray = ls at hl ⊢
  have hl : lv_has ls 1 [(0, .ref (g.2.2 2000))] := hl
  refine lv_aload_n hx hb dX11_now_0 rfl (lv_at hl 0 rfl) ?_
  refine va_get (D := g.1) (ci := 5) (v := .ref (g.2.2 2006)) (C := RX11) (T := TX11) (N := 14) hx hb htg inG_X11 hown hK hP 0 rfl rfl 5 (by decide) (htg _ k1345) (fun _ h9 => h9) rfl dX11_now_1 ?_
  refine lv_aload_n hx hb dX11_now_4 rfl (lv_at hl 0 rfl) ?_
  refine va_get (D := g.1) (ci := 5) (v := .int 0) (C := RX11) (T := TX11) (N := 14) hx hb htg inG_X11 hown hK hP 0 rfl rfl 6 (by decide) (htg _ k1346) (fun _ h9 => h9) rfl dX11_now_5 ?_
  have hPc := hP.sub (ws' := []) [] rfl
  have hDc := hD.sub (ws' := []) [] (by decide) rfl
  have hFc := va_free (wc := []) hD hS hA [] rfl
  refine q_cFq (wr := [((g.2.2 2000), .inr (5, [.ref mh, .ref mg, .ref (g.2.2 2002), .ref (g.2.2 2005), .ref mc, .ref (g.2.2 2006), .int 0, .int n1, .int n2, .int n3, .long n4, .int n5, .int n6, .int n7])), ((g.2.2 2001), .inr (3, [.int 0, .int h1, .int h2, .int h3, .ref (g.2.2 2004), .int h4, .int h5, .int h6, .int h7, .int h8, .int h9, .int h10, .int h11, .int h12]))]) (va_runF (As := [.int 0]) (rest := []) (hK.1 1 _ rfl).2 ⟨hx, hb, hml, hown, htg⟩ (c_get_0 l hfl g   H.size) (qI5 htg k1652 k60 k1645 k1648 k1650 (hT.1.2.2.2.2.2.2.1) okx_get rfl rfl ⟨Nat.le_of_ble_eq_true rfl, Nat.le_of_ble_eq_true rfl⟩) ⟨(q_pre [.ref (g.2.2 2006), .int 0] hPc hDc hK hS hT hFc).1, va_Orecv (hT.2.2.2.2.2.1.1) hS, (q_pre [.ref (g.2.2 2006), .int 0] hPc hDc hK hS hT hFc).2⟩ rfl rfl hl.1 rfl (lv_room (Nat.le_of_ble_eq_true rfl)) dX11_now_8 ⟨Nat.le_of_ble_eq_true rfl, Nat.le_of_ble_eq_true rfl⟩) hP hD hS hFc [] [0, 1] rfl rfl (by decide) (by decide) (fun r9 u9 H locs hw hP hD hS => ?_)
  try dsimp only at hw
  rcases hw with ⟨rfl, rfl⟩
  have hP : va_P g.1 CLS [((g.2.2 2000), .inr (5, [.ref mh, .ref mg, .ref (g.2.2 2002), .ref (g.2.2 2005), .ref mc, .ref (g.2.2 2006), .int 0, .int n1, .int n2, .int n3, .long n4, .int n5, .int n6, .int n7])), ((g.2.2 2001), .inr (3, [.int 0, .int h1, .int h2, .int h3, .ref (g.2.2 2004), .int h4, .int h5, .int h6, .int h7, .int h8, .int h9, .int h10, .int h11, .int h12]))] H := hP
  have hD : va_D A [((g.2.2 2000), .inr (5, [.ref mh, .ref mg, .ref (g.2.2 2002), .ref (g.2.2 2005), .ref mc, .ref (g.2.2 2006), .int 0, .int n1, .int n2, .int n3, .long n4, .int n5, .int n6, .int n7])), ((g.2.2 2001), .inr (3, [.int 0, .int h1, .int h2, .int h3, .ref (g.2.2 2004), .int h4, .int h5, .int h6, .int h7, .int h8, .int h9, .int h10, .int h11, .int h12]))] := hD
  refine W.widen (k := 0) (n := 0) (Nat.le_of_ble_eq_true rfl) (Nat.le_of_ble_eq_true rfl) ?_
  refine va_castE hx hb hown (htg _ k1480) (va_recv hK hP (ci := 3) (q0 := 1) rfl rfl) dX11_now_13 ?_
  have hP9 := hP.sub (ws' := [((g.2.2 2000), .inr (5, [.ref mh, .ref mg, .ref (g.2.2 2002), .ref (g.2.2 2005), .ref mc, .ref (g.2.2 2006), .int 0, .int n1, .int n2, .int n3, .long n4, .int n5, .int n6, .int n7])), ((g.2.2 2001), .inr (3, [.int 0, .int h1, .int h2, .int h3, .ref (g.2.2 2004), .int h4, .int h5, .int h6, .int h7, .int h8, .int h9, .int h10, .int h11, .int h12]))]) [0, 1] rfl
  have hD9 := hD.sub (ws' := [((g.2.2 2000), .inr (5, [.ref mh, .ref mg, .ref (g.2.2 2002), .ref (g.2.2 2005), .ref mc, .ref (g.2.2 2006), .int 0, .int n1, .int n2, .int n3, .long n4, .int n5, .int n6, .int n7])), ((g.2.2 2001), .inr (3, [.int 0, .int h1, .int h2, .int h3, .ref (g.2.2 2004), .int h4, .int h5, .int h6, .int h7, .int h8, .int h9, .int h10, .int h11, .int h12]))]) [0, 1] (by decide) rfl
  refine W.widen (k := 0) (n := 0) (Nat.le_of_ble_eq_true rfl) (Nat.le_of_ble_eq_true rfl) ?_
  exact W.aret (v := .ref (g.2.2 2001)) hx hb hr (Or.inl ⟨_, rfl⟩) (Or.inr ⟨_, rfl⟩) (fun t ht hW => ⟨⟨some (g.2.2 2001), [((g.2.2 2000), .inr (5, [.ref mh, .ref mg, .ref (g.2.2 2002), .ref (g.2.2 2005), .ref mc, .ref (g.2.2 2006), .int 0, .int n1, .int n2, .int n3, .long n4, .int n5, .int n6, .int n7])), ((g.2.2 2001), .inr (3, [.int 0, .int h1, .int h2, .int h3, .ref (g.2.2 2004), .int h4, .int h5, .int h6, .int h7, .int h8, .int h9, .int h10, .int h11, .int h12]))], rfl, ⟨rfl, rfl⟩, by rw [ht]; exact hP9, va_K.moved hW.alike hK, hD9⟩, hS.F ht⟩) hS.2.2 dX11_now_16

set_option maxHeartbeats 4000000 in
set_option maxRecDepth 100000 in
theorem c_chk3_k (l : Launch) (hfl : l.stackTraces = false) (g : GP) (k1 : Nat) (hk : k1 < g.2.2 2010) : CI l yJ3_checkIndex_8e157 (wG yJ3_checkIndex_8e157 cJ3_checkIndex_8e157 3 (Option.some Jvm.ClassFile.FieldType.int)) (LV 1 0 0) g [.int (nI k1), .int (nI (g.2.2 2010)), .null] ([]) (fun (r : Int32) (u : va_W) => r = (nI k1) ∧ u = []) := by
  intro sz
  refine Met.ofW (cc := cJ3_checkIndex_8e157) (maxL := 3) (ret := (Option.some Jvm.ClassFile.FieldType.int)) (by decide) rfl ?_
  intro p e s m args below meth c s₁ B hml hv
  obtain ⟨rfl, hsz, hP, hK, hD0, hT0⟩ := hv
  have hx := B.exec
  have hb := B.bytes
  have hr := B.returns
  have hts := atoms_spec (ws := (wG yJ3_checkIndex_8e157 cJ3_checkIndex_8e157 3 (Option.some Jvm.ClassFile.FieldType.int))) B.pre
  have htg : ∀ w ∈ G9, w.before _ s = true := fun w h => hts w (List.mem_cons_of_mem _ h)
  have hown : s.vm.findClass "jdk/internal/util/Preconditions" = some m.cls := findClass_of_methodNamed B.named
  have hlocks := B.notSynchronized
  subst hsz
  have hD := hD0.self (sz := s.heap.size)
  have hT := hT0
  clear hT0
  generalize hAe : va_A [] s.heap.size = A at hD hT ⊢
  have hA : ∀ q : Nat, s.heap.size ≤ q → A q := fun q h => by rw [← hAe]; exact Or.inr h
  obtain ⟨H, hH0⟩ : ∃ H, H = s.heap := ⟨_, rfl⟩
  have hS : va_S A s.heap H [] := by rw [hH0]; exact va_S.rf
  have hP : va_P g.1 CLS [] H := by rw [hH0]; exact hP
  rw [← hH0]
  have hl := lv_entry ([.int (nI k1), .int (nI (g.2.2 2010)), .null]) (n := 3) (Nat.le_of_ble_eq_true rfl)
  rw [lg_entry_eq]
  generalize (lg_sl ([.int (nI k1), .int (nI (g.2.2 2010)), .null]) ++ List.replicate (3 - (lg_sl ([.int (nI k1), .int (nI (g.2.2 2010)), .null])).length) Slot.unset).toArray = ls at hl ⊢
  have hl : lv_has ls 3 [(0, .int (nI k1)), (1, .int (nI (g.2.2 2010))), (2, .null)] := hl
  refine lv_iload_n hx hb dJ3_checkIndex_8e157_0 rfl (lv_at hl 0 rfl) ?_
  refine lv_if_lt (tgt := 9) hx hb dJ3_checkIndex_8e157_1 (by decide) (fun c_1 => absurd c_1 (nI_pos (Nat.lt_trans hk (Nat.lt_trans hT.2.2.2.2.2.2.2.2.1 (by decide))))) (fun c_1 => ?_)
  refine lv_iload_n hx hb dJ3_checkIndex_8e157_4 rfl (lv_at hl 0 rfl) ?_
  refine lv_iload_n hx hb dJ3_checkIndex_8e157_5 rfl (lv_at hl 1 rfl) ?_
  refine lv_icmp_lt (tgt := 16) hx hb dJ3_checkIndex_8e157_6 (by decide) (fun c_2 => ?_) (fun c_2 => absurd (nI_lt hk (Nat.lt_trans hT.2.2.2.2.2.2.2.2.1 (by decide))) c_2)
  refine lv_iload_n hx hb dJ3_checkIndex_8e157_16 rfl (lv_at hl 0 rfl) ?_
  have hP9 := hP.sub (ws' := []) [] rfl
  have hD9 := hD.sub (ws' := []) [] (by decide) rfl
  refine W.widen (k := 0) (n := 0) (Nat.le_of_ble_eq_true rfl) (Nat.le_of_ble_eq_true rfl) ?_
  exact W.iret (v := (nI k1)) hx hb hr (fun t ht hW => ⟨⟨(nI k1), [], rfl, ⟨rfl, rfl⟩, by rw [ht]; exact hP9, va_K.moved hW.alike hK, hD9⟩, hS.F ht⟩) hS.2.2 dJ3_checkIndex_8e157_17

set_option maxHeartbeats 4000000 in
set_option maxRecDepth 100000 in
theorem c_chk_k (l : Launch) (hfl : l.stackTraces = false) (g : GP) (k1 : Nat) (hk : k1 < g.2.2 2010) : CI l yJ15_checkIndex_7cf53 (wG yJ15_checkIndex_7cf53 cJ15_checkIndex_7cf53 2 (Option.some Jvm.ClassFile.FieldType.int)) (LV 2 0 0) g [.int (nI k1), .int (nI (g.2.2 2010))] ([]) (fun (r : Int32) (u : va_W) => r = (nI k1) ∧ u = []) := by
  intro sz
  refine Met.ofW (cc := cJ15_checkIndex_7cf53) (maxL := 2) (ret := (Option.some Jvm.ClassFile.FieldType.int)) (by decide) rfl ?_
  intro p e s m args below meth c s₁ B hml hv
  obtain ⟨rfl, hsz, hP, hK, hD0, hT0⟩ := hv
  have hx := B.exec
  have hb := B.bytes
  have hr := B.returns
  have hts := atoms_spec (ws := (wG yJ15_checkIndex_7cf53 cJ15_checkIndex_7cf53 2 (Option.some Jvm.ClassFile.FieldType.int))) B.pre
  have htg : ∀ w ∈ G9, w.before _ s = true := fun w h => hts w (List.mem_cons_of_mem _ h)
  have hown : s.vm.findClass "java/util/Objects" = some m.cls := findClass_of_methodNamed B.named
  have hlocks := B.notSynchronized
  subst hsz
  have hD := hD0.self (sz := s.heap.size)
  have hT := hT0
  clear hT0
  generalize hAe : va_A [] s.heap.size = A at hD hT ⊢
  have hA : ∀ q : Nat, s.heap.size ≤ q → A q := fun q h => by rw [← hAe]; exact Or.inr h
  obtain ⟨H, hH0⟩ : ∃ H, H = s.heap := ⟨_, rfl⟩
  have hS : va_S A s.heap H [] := by rw [hH0]; exact va_S.rf
  have hP : va_P g.1 CLS [] H := by rw [hH0]; exact hP
  rw [← hH0]
  have hl := lv_entry ([.int (nI k1), .int (nI (g.2.2 2010))]) (n := 2) (Nat.le_of_ble_eq_true rfl)
  rw [lg_entry_eq]
  generalize (lg_sl ([.int (nI k1), .int (nI (g.2.2 2010))]) ++ List.replicate (2 - (lg_sl ([.int (nI k1), .int (nI (g.2.2 2010))])).length) Slot.unset).toArray = ls at hl ⊢
  have hl : lv_has ls 2 [(0, .int (nI k1)), (1, .int (nI (g.2.2 2010)))] := hl
  refine lv_iload_n hx hb dJ15_checkIndex_7cf53_0 rfl (lv_at hl 0 rfl) ?_
  refine lv_iload_n hx hb dJ15_checkIndex_7cf53_1 rfl (lv_at hl 1 rfl) ?_
  refine lv_null hx hb dJ15_checkIndex_7cf53_2 ?_
  have hPc := hP.sub (ws' := []) [] rfl
  have hDc := hD.sub (ws' := []) [] (by decide) rfl
  have hFc := va_free (wc := []) hD hS hA [] rfl
  refine q_ci (wr := []) (va_runS (As := [.int (nI k1), .int (nI (g.2.2 2010)), .null]) (rest := []) ⟨hx, hb, hml, hown, htg⟩ (c_chk3_k l hfl g k1 (hk) H.size) ⟨(qB htg k1658 k80 k1656 ok_J3_checkIndex_8e157 rfl rfl ⟨Nat.le_of_ble_eq_true rfl, Nat.le_of_ble_eq_true rfl⟩), htg _ k1657⟩ (q_pre [.int (nI k1), .int (nI (g.2.2 2010)), .null] hPc hDc hK hS hT hFc) rfl rfl hl.1 rfl (lv_room (Nat.le_of_ble_eq_true rfl)) dJ15_checkIndex_7cf53_3 ⟨Nat.le_of_ble_eq_true rfl, Nat.le_of_ble_eq_true rfl⟩) hP hD hS hFc [] [] rfl rfl (by decide) (by decide) (fun r9 u9 H locs hw hP hD hS => ?_)
  try dsimp only at hw
  rcases hw with ⟨rfl, rfl⟩
  have hP : va_P g.1 CLS [] H := hP
  have hD : va_D A [] := hD
  refine W.widen (k := 0) (n := 0) (Nat.le_of_ble_eq_true rfl) (Nat.le_of_ble_eq_true rfl) ?_
  have hP9 := hP.sub (ws' := []) [] rfl
  have hD9 := hD.sub (ws' := []) [] (by decide) rfl
  refine W.widen (k := 0) (n := 0) (Nat.le_of_ble_eq_true rfl) (Nat.le_of_ble_eq_true rfl) ?_
  exact W.iret (v := (nI k1)) hx hb hr (fun t ht hW => ⟨⟨(nI k1), [], rfl, ⟨rfl, rfl⟩, by rw [ht]; exact hP9, va_K.moved hW.alike hK, hD9⟩, hS.F ht⟩) hS.2.2 dJ15_checkIndex_7cf53_6

set_option maxHeartbeats 4000000 in
set_option maxRecDepth 100000 in
theorem c_eD_k (l : Launch) (hfl : l.stackTraces = false) (g : GP) (k1 : Nat) (hk : k1 < g.2.2 2010) : CQ l yJx4a65c_elementData_915e3 (wG yJx4a65c_elementData_915e3 cJx4a65c_elementData_915e3 2 (Option.some (Jvm.ClassFile.FieldType.object "java/lang/Object"))) (LV 1 0 0) g [.ref (g.2.2 2002), .int (nI k1)] ([]) (fun (r : Option Nat) (u : va_W) => r = some (g.2.2 (3000 + k1)) ∧ u = []) := by
  intro sz
  refine Met.ofW (cc := cJx4a65c_elementData_915e3) (maxL := 2) (ret := (Option.some (Jvm.ClassFile.FieldType.object "java/lang/Object"))) (by decide) rfl ?_
  intro p e s m args below meth c s₁ B hml hv
  obtain ⟨rfl, hsz, hP, hK, hD0, hT0⟩ := hv
  have hx := B.exec
  have hb := B.bytes
  have hr := B.returns
  have hts := atoms_spec (ws := (wG yJx4a65c_elementData_915e3 cJx4a65c_elementData_915e3 2 (Option.some (Jvm.ClassFile.FieldType.object "java/lang/Object")))) B.pre
  have htg : ∀ w ∈ G9, w.before _ s = true := fun w h => hts w (List.mem_cons_of_mem _ h)
  have hown : s.vm.findClass "java/util/ArrayList" = some m.cls := findClass_of_methodNamed B.named
  have hlocks := B.notSynchronized
  subst hsz
  have hD := hD0.self (sz := s.heap.size)
  have hT := hT0
  clear hT0
  generalize hAe : va_A [] s.heap.size = A at hD hT ⊢
  have hA : ∀ q : Nat, s.heap.size ≤ q → A q := fun q h => by rw [← hAe]; exact Or.inr h
  obtain ⟨H, hH0⟩ : ∃ H, H = s.heap := ⟨_, rfl⟩
  have hS : va_S A s.heap H [] := by rw [hH0]; exact va_S.rf
  have hP : va_P g.1 CLS [] H := by rw [hH0]; exact hP
  rw [← hH0]
  have hl := lv_entry ([.ref (g.2.2 2002), .int (nI k1)]) (n := 2) (Nat.le_of_ble_eq_true rfl)
  rw [lg_entry_eq]
  generalize (lg_sl ([.ref (g.2.2 2002), .int (nI k1)]) ++ List.replicate (2 - (lg_sl ([.ref (g.2.2 2002), .int (nI k1)])).length) Slot.unset).toArray = ls at hl ⊢
  have hl : lv_has ls 2 [(0, .ref (g.2.2 2002)), (1, .int (nI k1))] := hl
  refine lv_aload_n hx hb dJx4a65c_elementData_915e3_0 rfl (lv_at hl 0 rfl) ?_
  refine vk_getf (v := .ref (g.2.2 2003)) hx hb (hT.2.2.2.2.1.2.2.1) hS hown (htg _ k1307) (fun _ h9 => h9) dJx4a65c_elementData_915e3_1 ?_
  refine lv_iload_n hx hb dJx4a65c_elementData_915e3_4 rfl (lv_at hl 1 rfl) ?_
  refine vb_tq hx hb (hT.2.2.2.2.1.2.2.2.2) hS (i := nI k1) (vp_in_nI (Nat.lt_of_lt_of_le hk hT.2.2.2.2.2.2.2.1) hT.2.2.2.2.2.2.2.2.2.1) (v := .ref (g.2.2 (3000 + k1))) (by rw [nI_clamp (Nat.lt_trans hk (Nat.lt_trans hT.2.2.2.2.2.2.2.2.1 (by decide)))]; exact if_pos hk) dJx4a65c_elementData_915e3_5 ?_
  have hP9 := hP.sub (ws' := []) [] rfl
  have hD9 := hD.sub (ws' := []) [] (by decide) rfl
  refine W.widen (k := 0) (n := 0) (Nat.le_of_ble_eq_true rfl) (Nat.le_of_ble_eq_true rfl) ?_
  exact W.aret (v := .ref (g.2.2 (3000 + k1))) hx hb hr (Or.inl ⟨_, rfl⟩) (Or.inr ⟨_, rfl⟩) (fun t ht hW => ⟨⟨some (g.2.2 (3000 + k1)), [], rfl, ⟨rfl, rfl⟩, by rw [ht]; exact hP9, va_K.moved hW.alike hK, hD9⟩, hS.F ht⟩) hS.2.2 dJx4a65c_elementData_915e3_6

set_option maxHeartbeats 4000000 in
set_option maxRecDepth 100000 in
theorem c_get_k (l : Launch) (hfl : l.stackTraces = false) (g : GP) (k1 : Nat) (hk : k1 < g.2.2 2010) : CQ l yJx4a65c_get_915e3 (wG yJx4a65c_get_915e3 cJx4a65c_get_915e3 2 (Option.some (Jvm.ClassFile.FieldType.object "java/lang/Object"))) (LV 3 0 0) g [.ref (g.2.2 2002), .int (nI k1)] ([]) (fun (r : Option Nat) (u : va_W) => r = some (g.2.2 (3000 + k1)) ∧ u = []) := by
  intro sz
  refine Met.ofW (cc := cJx4a65c_get_915e3) (maxL := 2) (ret := (Option.some (Jvm.ClassFile.FieldType.object "java/lang/Object"))) (by decide) rfl ?_
  intro p e s m args below meth c s₁ B hml hv
  obtain ⟨rfl, hsz, hP, hK, hD0, hT0⟩ := hv
  have hx := B.exec
  have hb := B.bytes
  have hr := B.returns
  have hts := atoms_spec (ws := (wG yJx4a65c_get_915e3 cJx4a65c_get_915e3 2 (Option.some (Jvm.ClassFile.FieldType.object "java/lang/Object")))) B.pre
  have htg : ∀ w ∈ G9, w.before _ s = true := fun w h => hts w (List.mem_cons_of_mem _ h)
  have hown : s.vm.findClass "java/util/ArrayList" = some m.cls := findClass_of_methodNamed B.named
  have hlocks := B.notSynchronized
  subst hsz
  have hD := hD0.self (sz := s.heap.size)
  have hT := hT0
  clear hT0
  generalize hAe : va_A [] s.heap.size = A at hD hT ⊢
  have hA : ∀ q : Nat, s.heap.size ≤ q → A q := fun q h => by rw [← hAe]; exact Or.inr h
  obtain ⟨H, hH0⟩ : ∃ H, H = s.heap := ⟨_, rfl⟩
  have hS : va_S A s.heap H [] := by rw [hH0]; exact va_S.rf
  have hP : va_P g.1 CLS [] H := by rw [hH0]; exact hP
  rw [← hH0]
  have hl := lv_entry ([.ref (g.2.2 2002), .int (nI k1)]) (n := 2) (Nat.le_of_ble_eq_true rfl)
  rw [lg_entry_eq]
  generalize (lg_sl ([.ref (g.2.2 2002), .int (nI k1)]) ++ List.replicate (2 - (lg_sl ([.ref (g.2.2 2002), .int (nI k1)])).length) Slot.unset).toArray = ls at hl ⊢
  have hl : lv_has ls 2 [(0, .ref (g.2.2 2002)), (1, .int (nI k1))] := hl
  refine lv_iload_n hx hb dJx4a65c_get_915e3_0 rfl (lv_at hl 1 rfl) ?_
  refine lv_aload_n hx hb dJx4a65c_get_915e3_1 rfl (lv_at hl 0 rfl) ?_
  refine vk_getf (v := .int (nI (g.2.2 2010))) hx hb (hT.2.2.2.2.1.2.1) hS hown (htg _ k1310) (fun _ h9 => h9) dJx4a65c_get_915e3_2 ?_
  have hPc := hP.sub (ws' := []) [] rfl
  have hDc := hD.sub (ws' := []) [] (by decide) rfl
  have hFc := va_free (wc := []) hD hS hA [] rfl
  refine q_ci (wr := []) (va_runS (As := [.int (nI k1), .int (nI (g.2.2 2010))]) (rest := []) ⟨hx, hb, hml, hown, htg⟩ (c_chk_k l hfl g k1 (hk) H.size) ⟨(qB htg k1655 k83 k1653 ok_J15_checkIndex_7cf53 rfl rfl ⟨Nat.le_of_ble_eq_true rfl, Nat.le_of_ble_eq_true rfl⟩), htg _ k1654⟩ (q_pre [.int (nI k1), .int (nI (g.2.2 2010))] hPc hDc hK hS hT hFc) rfl rfl hl.1 rfl (lv_room (Nat.le_of_ble_eq_true rfl)) dJx4a65c_get_915e3_5 ⟨Nat.le_of_ble_eq_true rfl, Nat.le_of_ble_eq_true rfl⟩) hP hD hS hFc [] [] rfl rfl (by decide) (by decide) (fun r9 u9 H locs hw hP hD hS => ?_)
  try dsimp only at hw
  rcases hw with ⟨rfl, rfl⟩
  have hP : va_P g.1 CLS [] H := hP
  have hD : va_D A [] := hD
  refine W.widen (k := 0) (n := 0) (Nat.le_of_ble_eq_true rfl) (Nat.le_of_ble_eq_true rfl) ?_
  refine lv_pop hx hb dJx4a65c_get_915e3_8 rfl ?_
  refine lv_aload_n hx hb dJx4a65c_get_915e3_9 rfl (lv_at hl 0 rfl) ?_
  refine lv_iload_n hx hb dJx4a65c_get_915e3_10 rfl (lv_at hl 1 rfl) ?_
  have hPc := hP.sub (ws' := []) [] rfl
  have hDc := hD.sub (ws' := []) [] (by decide) rfl
  have hFc := va_free (wc := []) hD hS hA [] rfl
  refine q_cq (wr := []) (va_runV (As := [.int (nI k1)]) (rest := []) ⟨hx, hb, hml, hown, htg⟩ (c_eD_k l hfl g k1 (hk) H.size) ⟨(qB htg k1662 k60 k1659 ok_Jx4a65c_elementData_915e3 rfl rfl ⟨Nat.le_of_ble_eq_true rfl, Nat.le_of_ble_eq_true rfl⟩), htg _ k1660, htg _ k1661⟩ ⟨(q_pre [.ref (g.2.2 2002), .int (nI k1)] hPc hDc hK hS hT hFc).1, va_Orecv (hT.2.2.2.2.1.1) hS, (q_pre [.ref (g.2.2 2002), .int (nI k1)] hPc hDc hK hS hT hFc).2⟩ rfl rfl hl.1 rfl (lv_room (Nat.le_of_ble_eq_true rfl)) dJx4a65c_get_915e3_11 ⟨Nat.le_of_ble_eq_true rfl, Nat.le_of_ble_eq_true rfl⟩) hP hD hS hFc [] [] rfl rfl (by decide) (by decide) (fun r9 u9 H locs hw hP hD hS => ?_)
  try dsimp only at hw
  rcases hw with ⟨rfl, rfl⟩
  have hP : va_P g.1 CLS [] H := hP
  have hD : va_D A [] := hD
  refine W.widen (k := 0) (n := 0) (Nat.le_of_ble_eq_true rfl) (Nat.le_of_ble_eq_true rfl) ?_
  have hP9 := hP.sub (ws' := []) [] rfl
  have hD9 := hD.sub (ws' := []) [] (by decide) rfl
  refine W.widen (k := 0) (n := 0) (Nat.le_of_ble_eq_true rfl) (Nat.le_of_ble_eq_true rfl) ?_
  exact W.aret (v := .ref (g.2.2 (3000 + k1))) hx hb hr (Or.inl ⟨_, rfl⟩) (Or.inr ⟨_, rfl⟩) (fun t ht hW => ⟨⟨some (g.2.2 (3000 + k1)), [], rfl, ⟨rfl, rfl⟩, by rw [ht]; exact hP9, va_K.moved hW.alike hK, hD9⟩, hS.F ht⟩) hS.2.2 dJx4a65c_get_915e3_14

set_option maxHeartbeats 4000000 in
set_option maxRecDepth 100000 in
theorem c_sizeS (l : Launch) (hfl : l.stackTraces = false) (g : GP)   : CI l yJx4a65c_size_8abf5 (wG yJx4a65c_size_8abf5 cJx4a65c_size_8abf5 1 (Option.some Jvm.ClassFile.FieldType.int)) (LV 1 0 0) g [.ref (g.2.2 2002)] ([]) (fun (r : Int32) (u : va_W) => r = (nI (g.2.2 2010)) ∧ u = []) := by
  intro sz
  refine Met.ofW (cc := cJx4a65c_size_8abf5) (maxL := 1) (ret := (Option.some Jvm.ClassFile.FieldType.int)) (by decide) rfl ?_
  intro p e s m args below meth c s₁ B hml hv
  obtain ⟨rfl, hsz, hP, hK, hD0, hT0⟩ := hv
  have hx := B.exec
  have hb := B.bytes
  have hr := B.returns
  have hts := atoms_spec (ws := (wG yJx4a65c_size_8abf5 cJx4a65c_size_8abf5 1 (Option.some Jvm.ClassFile.FieldType.int))) B.pre
  have htg : ∀ w ∈ G9, w.before _ s = true := fun w h => hts w (List.mem_cons_of_mem _ h)
  have hown : s.vm.findClass "java/util/ArrayList" = some m.cls := findClass_of_methodNamed B.named
  have hlocks := B.notSynchronized
  subst hsz
  have hD := hD0.self (sz := s.heap.size)
  have hT := hT0
  clear hT0
  generalize hAe : va_A [] s.heap.size = A at hD hT ⊢
  have hA : ∀ q : Nat, s.heap.size ≤ q → A q := fun q h => by rw [← hAe]; exact Or.inr h
  obtain ⟨H, hH0⟩ : ∃ H, H = s.heap := ⟨_, rfl⟩
  have hS : va_S A s.heap H [] := by rw [hH0]; exact va_S.rf
  have hP : va_P g.1 CLS [] H := by rw [hH0]; exact hP
  rw [← hH0]
  have hl := lv_entry ([.ref (g.2.2 2002)]) (n := 1) (Nat.le_of_ble_eq_true rfl)
  rw [lg_entry_eq]
  generalize (lg_sl ([.ref (g.2.2 2002)]) ++ List.replicate (1 - (lg_sl ([.ref (g.2.2 2002)])).length) Slot.unset).toArray = ls at hl ⊢
  have hl : lv_has ls 1 [(0, .ref (g.2.2 2002))] := hl
  refine lv_aload_n hx hb dJx4a65c_size_8abf5_0 rfl (lv_at hl 0 rfl) ?_
  refine vk_getf (v := .int (nI (g.2.2 2010))) hx hb (hT.2.2.2.2.1.2.1) hS hown (htg _ k1310) (fun _ h9 => h9) dJx4a65c_size_8abf5_1 ?_
  have hP9 := hP.sub (ws' := []) [] rfl
  have hD9 := hD.sub (ws' := []) [] (by decide) rfl
  refine W.widen (k := 0) (n := 0) (Nat.le_of_ble_eq_true rfl) (Nat.le_of_ble_eq_true rfl) ?_
  exact W.iret (v := (nI (g.2.2 2010))) hx hb hr (fun t ht hW => ⟨⟨(nI (g.2.2 2010)), [], rfl, ⟨rfl, rfl⟩, by rw [ht]; exact hP9, va_K.moved hW.alike hK, hD9⟩, hS.F ht⟩) hS.2.2 dJx4a65c_size_8abf5_4

set_option maxHeartbeats 4000000 in
set_option maxRecDepth 100000 in
theorem c_sizeO (l : Launch) (hfl : l.stackTraces = false) (g : GP)   : CI l yJx4a65c_size_8abf5 (wG yJx4a65c_size_8abf5 cJx4a65c_size_8abf5 1 (Option.some Jvm.ClassFile.FieldType.int)) (LV 1 0 0) g [.ref (g.2.2 2006)] ([]) (fun (r : Int32) (u : va_W) => r = 1 ∧ u = []) := by
  intro sz
  refine Met.ofW (cc := cJx4a65c_size_8abf5) (maxL := 1) (ret := (Option.some Jvm.ClassFile.FieldType.int)) (by decide) rfl ?_
  intro p e s m args below meth c s₁ B hml hv
  obtain ⟨rfl, hsz, hP, hK, hD0, hT0⟩ := hv
  have hx := B.exec
  have hb := B.bytes
  have hr := B.returns
  have hts := atoms_spec (ws := (wG yJx4a65c_size_8abf5 cJx4a65c_size_8abf5 1 (Option.some Jvm.ClassFile.FieldType.int))) B.pre
  have htg : ∀ w ∈ G9, w.before _ s = true := fun w h => hts w (List.mem_cons_of_mem _ h)
  have hown : s.vm.findClass "java/util/ArrayList" = some m.cls := findClass_of_methodNamed B.named
  have hlocks := B.notSynchronized
  subst hsz
  have hD := hD0.self (sz := s.heap.size)
  have hT := hT0
  clear hT0
  generalize hAe : va_A [] s.heap.size = A at hD hT ⊢
  have hA : ∀ q : Nat, s.heap.size ≤ q → A q := fun q h => by rw [← hAe]; exact Or.inr h
  obtain ⟨H, hH0⟩ : ∃ H, H = s.heap := ⟨_, rfl⟩
  have hS : va_S A s.heap H [] := by rw [hH0]; exact va_S.rf
  have hP : va_P g.1 CLS [] H := by rw [hH0]; exact hP
  rw [← hH0]
  have hl := lv_entry ([.ref (g.2.2 2006)]) (n := 1) (Nat.le_of_ble_eq_true rfl)
  rw [lg_entry_eq]
  generalize (lg_sl ([.ref (g.2.2 2006)]) ++ List.replicate (1 - (lg_sl ([.ref (g.2.2 2006)])).length) Slot.unset).toArray = ls at hl ⊢
  have hl : lv_has ls 1 [(0, .ref (g.2.2 2006))] := hl
  refine lv_aload_n hx hb dJx4a65c_size_8abf5_0 rfl (lv_at hl 0 rfl) ?_
  refine vk_getf (v := .int 1) hx hb (hT.2.2.2.2.2.1.2.1) hS hown (htg _ k1310) (fun _ h9 => h9) dJx4a65c_size_8abf5_1 ?_
  have hP9 := hP.sub (ws' := []) [] rfl
  have hD9 := hD.sub (ws' := []) [] (by decide) rfl
  refine W.widen (k := 0) (n := 0) (Nat.le_of_ble_eq_true rfl) (Nat.le_of_ble_eq_true rfl) ?_
  exact W.iret (v := 1) hx hb hr (fun t ht hW => ⟨⟨1, [], rfl, ⟨rfl, rfl⟩, by rw [ht]; exact hP9, va_K.moved hW.alike hK, hD9⟩, hS.F ht⟩) hS.2.2 dJx4a65c_size_8abf5_4

set_option maxHeartbeats 4000000 in
set_option maxRecDepth 100000 in
theorem c_beginTurn (l : Launch) (hfl : l.stackTraces = false) (g : GP) (mh : Nat) (mg : Nat) (mc : Nat) (n1 : Int32) (n2 : Int32) (n3 : Int32) (n4 : Int64) (n5 : Int32) (n6 : Int32) (n7 : Int32) (h1 : Int32) (h2 : Int32) (h3 : Int32) (h4 : Int32) (h5 : Int32) (h6 : Int32) (h7 : Int32) (h8 : Int32) (h9 : Int32) (h10 : Int32) (h11 : Int32) (h12 : Int32)  : ZI l yX11_beginTurn (wG yX11_beginTurn cX11_beginTurn 4 (Option.some Jvm.ClassFile.FieldType.int)) (LV 6 3 11) g [.ref (g.2.2 2000)] ([((g.2.2 2000), .inr (5, [.ref mh, .ref mg, .ref (g.2.2 2002), .ref (g.2.2 2005), .ref mc, .ref (g.2.2 2006), .int 0, .int n1, .int n2, .int n3, .long n4, .int n5, .int n6, .int n7])), ((g.2.2 2001), .inr (3, [.int 0, .int h1, .int h2, .int h3, .ref (g.2.2 2004), .int h4, .int h5, .int h6, .int h7, .int h8, .int h9, .int h10, .int h11, .int h12]))]) 3 (fun (r : Int32) (u : va_W) => r = 0 ∧ u = [((g.2.2 2000), .inr (5, [.ref mh, .ref mg, .ref (g.2.2 2002), .ref (g.2.2 2005), .ref mc, .ref (g.2.2 2006), .int 0, .int n1, .int 4, .int 1, .long n4, .int n5, .int n6, .int n7])), ((g.2.2 2001), .inr (3, [.int 0, .int h1, .int h2, .int h3, .ref (g.2.2 2004), .int h4, .int h5, .int h6, .int h7, .int h8, .int h9, .int 1, .int 32, .int h12]))]) := by
  intro sz
  refine Met.ofW (cc := cX11_beginTurn) (maxL := 4) (ret := (Option.some Jvm.ClassFile.FieldType.int)) (by decide) rfl ?_
  intro p e s m args below meth c s₁ B hml hv
  obtain ⟨rfl, hsz, hP, hK, hD0, hT0⟩ := hv
  have hx := B.exec
  have hb := B.bytes
  have hr := B.returns
  have hts := atoms_spec (ws := (wG yX11_beginTurn cX11_beginTurn 4 (Option.some Jvm.ClassFile.FieldType.int))) B.pre
  have htg : ∀ w ∈ G9, w.before _ s = true := fun w h => hts w (List.mem_cons_of_mem _ h)
  have hown : s.vm.findClass "HeroTableModel" = some m.cls := findClass_of_methodNamed B.named
  have hlocks := B.notSynchronized
  subst hsz
  have hD := hD0.self (sz := s.heap.size)
  have hT := hT0
  clear hT0
  generalize hAe : va_A [((g.2.2 2000), .inr (5, [.ref mh, .ref mg, .ref (g.2.2 2002), .ref (g.2.2 2005), .ref mc, .ref (g.2.2 2006), .int 0, .int n1, .int n2, .int n3, .long n4, .int n5, .int n6, .int n7])), ((g.2.2 2001), .inr (3, [.int 0, .int h1, .int h2, .int h3, .ref (g.2.2 2004), .int h4, .int h5, .int h6, .int h7, .int h8, .int h9, .int h10, .int h11, .int h12]))] s.heap.size = A at hD hT ⊢
  have hA : ∀ q : Nat, s.heap.size ≤ q → A q := fun q h => by rw [← hAe]; exact Or.inr h
  obtain ⟨H, hH0⟩ : ∃ H, H = s.heap := ⟨_, rfl⟩
  have hS : va_S A s.heap H [] := by rw [hH0]; exact va_S.rf
  have hP : va_P g.1 CLS [((g.2.2 2000), .inr (5, [.ref mh, .ref mg, .ref (g.2.2 2002), .ref (g.2.2 2005), .ref mc, .ref (g.2.2 2006), .int 0, .int n1, .int n2, .int n3, .long n4, .int n5, .int n6, .int n7])), ((g.2.2 2001), .inr (3, [.int 0, .int h1, .int h2, .int h3, .ref (g.2.2 2004), .int h4, .int h5, .int h6, .int h7, .int h8, .int h9, .int h10, .int h11, .int h12]))] H := by rw [hH0]; exact hP
  rw [← hH0]
  have hl := lv_entry ([.ref (g.2.2 2000)]) (n := 4) (Nat.le_of_ble_eq_true rfl)
  rw [lg_entry_eq]
  generalize (lg_sl ([.ref (g.2.2 2000)]) ++ List.replicate (4 - (lg_sl ([.ref (g.2.2 2000)])).length) Slot.unset).toArray = ls at hl ⊢
  have hl : lv_has ls 4 [(0, .ref (g.2.2 2000))] := hl
  refine lv_aload_n hx hb dX11_beginTurn_0 rfl (lv_at hl 0 rfl) ?_
  have hPc := hP.sub (ws' := [((g.2.2 2000), .inr (5, [.ref mh, .ref mg, .ref (g.2.2 2002), .ref (g.2.2 2005), .ref mc, .ref (g.2.2 2006), .int 0, .int n1, .int n2, .int n3, .long n4, .int n5, .int n6, .int n7])), ((g.2.2 2001), .inr (3, [.int 0, .int h1, .int h2, .int h3, .ref (g.2.2 2004), .int h4, .int h5, .int h6, .int h7, .int h8, .int h9, .int h10, .int h11, .int h12]))]) [0, 1] rfl
  have hDc := hD.sub (ws' := [((g.2.2 2000), .inr (5, [.ref mh, .ref mg, .ref (g.2.2 2002), .ref (g.2.2 2005), .ref mc, .ref (g.2.2 2006), .int 0, .int n1, .int n2, .int n3, .long n4, .int n5, .int n6, .int n7])), ((g.2.2 2001), .inr (3, [.int 0, .int h1, .int h2, .int h3, .ref (g.2.2 2004), .int h4, .int h5, .int h6, .int h7, .int h8, .int h9, .int h10, .int h11, .int h12]))]) [0, 1] (by decide) rfl
  have hFc := va_free (wc := [((g.2.2 2000), .inr (5, [.ref mh, .ref mg, .ref (g.2.2 2002), .ref (g.2.2 2005), .ref mc, .ref (g.2.2 2006), .int 0, .int n1, .int n2, .int n3, .long n4, .int n5, .int n6, .int n7])), ((g.2.2 2001), .inr (3, [.int 0, .int h1, .int h2, .int h3, .ref (g.2.2 2004), .int h4, .int h5, .int h6, .int h7, .int h8, .int h9, .int h10, .int h11, .int h12]))]) hD hS hA [0, 1] rfl
  refine q_cq (wr := []) (va_runV (As := []) (rest := []) ⟨hx, hb, hml, hown, htg⟩ (c_now l hfl g mh mg mc n1 n2 n3 n4 n5 n6 n7 h1 h2 h3 h4 h5 h6 h7 h8 h9 h10 h11 h12  H.size) ⟨(qB htg k2105 k57 k2102 ok_X11_now rfl rfl ⟨Nat.le_of_ble_eq_true rfl, Nat.le_of_ble_eq_true rfl⟩), htg _ k2104, htg _ k34⟩ ⟨(q_pre [.ref (g.2.2 2000)] hPc hDc hK hS hT hFc).1, va_recv hK hP (ci := 5) (q0 := 0) rfl rfl, (q_pre [.ref (g.2.2 2000)] hPc hDc hK hS hT hFc).2⟩ rfl rfl hl.1 rfl (lv_room (Nat.le_of_ble_eq_true rfl)) dX11_beginTurn_1 ⟨Nat.le_of_ble_eq_true rfl, Nat.le_of_ble_eq_true rfl⟩) hP hD hS hFc [0, 1] [] rfl rfl (by decide) (by decide) (fun r9 u9 H locs hw hP hD hS => ?_)
  try dsimp only at hw
  rcases hw with ⟨rfl, rfl⟩
  have hP : va_P g.1 CLS [((g.2.2 2000), .inr (5, [.ref mh, .ref mg, .ref (g.2.2 2002), .ref (g.2.2 2005), .ref mc, .ref (g.2.2 2006), .int 0, .int n1, .int n2, .int n3, .long n4, .int n5, .int n6, .int n7])), ((g.2.2 2001), .inr (3, [.int 0, .int h1, .int h2, .int h3, .ref (g.2.2 2004), .int h4, .int h5, .int h6, .int h7, .int h8, .int h9, .int h10, .int h11, .int h12]))] H := hP
  have hD : va_D A [((g.2.2 2000), .inr (5, [.ref mh, .ref mg, .ref (g.2.2 2002), .ref (g.2.2 2005), .ref mc, .ref (g.2.2 2006), .int 0, .int n1, .int n2, .int n3, .long n4, .int n5, .int n6, .int n7])), ((g.2.2 2001), .inr (3, [.int 0, .int h1, .int h2, .int h3, .ref (g.2.2 2004), .int h4, .int h5, .int h6, .int h7, .int h8, .int h9, .int h10, .int h11, .int h12]))] := hD
  refine W.widen (k := 0) (n := 0) (Nat.le_of_ble_eq_true rfl) (Nat.le_of_ble_eq_true rfl) ?_
  refine lv_astore_n (lv' := [(1, .ref (g.2.2 2001)), (0, .ref (g.2.2 2000))]) hx hb dX11_beginTurn_4 rfl hl (by decide) rfl (fun ls hl => ?_)
  refine lv_aload_n hx hb dX11_beginTurn_5 rfl (lv_at hl 1 rfl) ?_
  refine va_get (D := g.1) (ci := 5) (v := .ref (g.2.2 2002)) (C := RX11) (T := TX11) (N := 14) hx hb htg inG_X11 hown hK hP 0 rfl rfl 2 (by decide) (htg _ k1342) (fun _ h9 => h9) rfl dX11_beginTurn_6 ?_
  have hPc := hP.sub (ws' := []) [] rfl
  have hDc := hD.sub (ws' := []) [] (by decide) rfl
  have hFc := va_free (wc := []) hD hS hA [] rfl
  refine q_cFq (wr := [((g.2.2 2000), .inr (5, [.ref mh, .ref mg, .ref (g.2.2 2002), .ref (g.2.2 2005), .ref mc, .ref (g.2.2 2006), .int 0, .int n1, .int n2, .int n3, .long n4, .int n5, .int n6, .int n7])), ((g.2.2 2001), .inr (3, [.int 0, .int h1, .int h2, .int h3, .ref (g.2.2 2004), .int h4, .int h5, .int h6, .int h7, .int h8, .int h9, .int h10, .int h11, .int h12]))]) (va_runF (As := []) (rest := []) (hK.1 1 _ rfl).2 ⟨hx, hb, hml, hown, htg⟩ (c_iterator l hfl g   H.size) (qI5 htg k1426 k60 k1419 k1422 k1424 (hT.1.2.2.1) okx_iterator rfl rfl ⟨Nat.le_of_ble_eq_true rfl, Nat.le_of_ble_eq_true rfl⟩) ⟨(q_pre [.ref (g.2.2 2002)] hPc hDc hK hS hT hFc).1, va_Orecv (hT.2.2.2.2.1.1) hS, (q_pre [.ref (g.2.2 2002)] hPc hDc hK hS hT hFc).2⟩ rfl rfl hl.1 rfl (lv_room (Nat.le_of_ble_eq_true rfl)) dX11_beginTurn_9 ⟨Nat.le_of_ble_eq_true rfl, Nat.le_of_ble_eq_true rfl⟩) hP hD hS hFc [] [0, 1] rfl rfl (by decide) (by decide) (fun r9 u9 H locs hw hP hD hS => ?_)
  try dsimp only at hw
  rcases hw with ⟨q_1, rfl, rfl⟩
  have hP : va_P g.1 CLS [((g.2.2 2000), .inr (5, [.ref mh, .ref mg, .ref (g.2.2 2002), .ref (g.2.2 2005), .ref mc, .ref (g.2.2 2006), .int 0, .int n1, .int n2, .int n3, .long n4, .int n5, .int n6, .int n7])), ((g.2.2 2001), .inr (3, [.int 0, .int h1, .int h2, .int h3, .ref (g.2.2 2004), .int h4, .int h5, .int h6, .int h7, .int h8, .int h9, .int h10, .int h11, .int h12])), (q_1, .inr (0, [.int 0, .int (-1), .int (nI (g.2.2 2012)), .ref (g.2.2 2002)]))] H := hP
  have hD : va_D A [((g.2.2 2000), .inr (5, [.ref mh, .ref mg, .ref (g.2.2 2002), .ref (g.2.2 2005), .ref mc, .ref (g.2.2 2006), .int 0, .int n1, .int n2, .int n3, .long n4, .int n5, .int n6, .int n7])), ((g.2.2 2001), .inr (3, [.int 0, .int h1, .int h2, .int h3, .ref (g.2.2 2004), .int h4, .int h5, .int h6, .int h7, .int h8, .int h9, .int h10, .int h11, .int h12])), (q_1, .inr (0, [.int 0, .int (-1), .int (nI (g.2.2 2012)), .ref (g.2.2 2002)]))] := hD
  refine W.widen (k := 1) (n := 4) (Nat.le_of_ble_eq_true rfl) (Nat.le_of_ble_eq_true rfl) ?_
  refine lv_astore_n (lv' := [(2, .ref q_1), (1, .ref (g.2.2 2001)), (0, .ref (g.2.2 2000))]) hx hb dX11_beginTurn_14 rfl hl (by decide) rfl (fun ls hl => ?_)
  refine q_loop (g.2.2 2010) (fun i9 f9 H locs ls => va_P g.1 CLS [((g.2.2 2000), .inr (5, [.ref mh, .ref mg, .ref (g.2.2 2002), .ref (g.2.2 2005), .ref mc, .ref (g.2.2 2006), .int 0, .int n1, .int n2, .int n3, .long n4, .int n5, .int n6, .int n7])), ((g.2.2 2001), .inr (3, [.int 0, .int h1, .int h2, .int h3, .ref (g.2.2 2004), .int h4, .int h5, .int h6, .int h7, .int h8, .int h9, .int h10, .int h11, .int h12])), (q_1, .inr (0, [.int (nI i9), .int (f9 0), .int (nI (g.2.2 2012)), .ref (g.2.2 2002)]))] H ∧ va_D A [((g.2.2 2000), .inr (5, [.ref mh, .ref mg, .ref (g.2.2 2002), .ref (g.2.2 2005), .ref mc, .ref (g.2.2 2006), .int 0, .int n1, .int n2, .int n3, .long n4, .int n5, .int n6, .int n7])), ((g.2.2 2001), .inr (3, [.int 0, .int h1, .int h2, .int h3, .ref (g.2.2 2004), .int h4, .int h5, .int h6, .int h7, .int h8, .int h9, .int h10, .int h11, .int h12])), (q_1, .inr (0, [.int (nI i9), .int (f9 0), .int (nI (g.2.2 2012)), .ref (g.2.2 2002)]))] ∧ va_S A s.heap H locs ∧ lv_has ls 4 [(2, .ref q_1), (1, .ref (g.2.2 2001)), (0, .ref (g.2.2 2000))]) (fun i9 f9 H locs ls hk hp ih => ?_) (fun f9 H locs ls hp => ?_) (fun _ => -1) ⟨hP, hD, hS, hl⟩
  · obtain ⟨hP, hD, hS, hl⟩ := hp
    refine lv_aload_n hx hb dX11_beginTurn_15 rfl (lv_at hl 0 rfl) ?_
    have hPc := hP.sub (ws' := [(q_1, .inr (0, [.int (nI i9), .int (f9 0), .int (nI (g.2.2 2012)), .ref (g.2.2 2002)]))]) [2] rfl
    have hDc := hD.sub (ws' := [(q_1, .inr (0, [.int (nI i9), .int (f9 0), .int (nI (g.2.2 2012)), .ref (g.2.2 2002)]))]) [2] (by decide) rfl
    have hFc := va_free (wc := [(q_1, .inr (0, [.int (nI i9), .int (f9 0), .int (nI (g.2.2 2012)), .ref (g.2.2 2002)]))]) hD hS hA [2] rfl
    refine q_cFi (wr := [((g.2.2 2000), .inr (5, [.ref mh, .ref mg, .ref (g.2.2 2002), .ref (g.2.2 2005), .ref mc, .ref (g.2.2 2006), .int 0, .int n1, .int n2, .int n3, .long n4, .int n5, .int n6, .int n7])), ((g.2.2 2001), .inr (3, [.int 0, .int h1, .int h2, .int h3, .ref (g.2.2 2004), .int h4, .int h5, .int h6, .int h7, .int h8, .int h9, .int h10, .int h11, .int h12]))]) (va_runF (As := []) (rest := []) (hK.1 0 _ rfl).2 ⟨hx, hb, hml, hown, htg⟩ (c_hasNext1 l hfl g q_1 i9 (f9 0) (hk) H.size) (qI5 htg k1455 k73 k1447 k1451 k1453 (hT.1.2.2.2.1) okx_hasNext rfl rfl ⟨Nat.le_of_ble_eq_true rfl, Nat.le_of_ble_eq_true rfl⟩) ⟨(q_pre [.ref q_1] hPc hDc hK hS hT hFc).1, va_recv hK hP (ci := 0) (q0 := 2) rfl rfl, (q_pre [.ref q_1] hPc hDc hK hS hT hFc).2⟩ rfl rfl hl.1 rfl (lv_room (Nat.le_of_ble_eq_true rfl)) dX11_beginTurn_16 ⟨Nat.le_of_ble_eq_true rfl, Nat.le_of_ble_eq_true rfl⟩) hP hD hS hFc [2] [0, 1] rfl rfl (by decide) (by decide) (fun r9 u9 H locs hw hP hD hS => ?_)
    try dsimp only at hw
    rcases hw with ⟨rfl, rfl⟩
    have hP : va_P g.1 CLS [((g.2.2 2000), .inr (5, [.ref mh, .ref mg, .ref (g.2.2 2002), .ref (g.2.2 2005), .ref mc, .ref (g.2.2 2006), .int 0, .int n1, .int n2, .int n3, .long n4, .int n5, .int n6, .int n7])), ((g.2.2 2001), .inr (3, [.int 0, .int h1, .int h2, .int h3, .ref (g.2.2 2004), .int h4, .int h5, .int h6, .int h7, .int h8, .int h9, .int h10, .int h11, .int h12])), (q_1, .inr (0, [.int (nI i9), .int (f9 0), .int (nI (g.2.2 2012)), .ref (g.2.2 2002)]))] H := hP
    have hD : va_D A [((g.2.2 2000), .inr (5, [.ref mh, .ref mg, .ref (g.2.2 2002), .ref (g.2.2 2005), .ref mc, .ref (g.2.2 2006), .int 0, .int n1, .int n2, .int n3, .long n4, .int n5, .int n6, .int n7])), ((g.2.2 2001), .inr (3, [.int 0, .int h1, .int h2, .int h3, .ref (g.2.2 2004), .int h4, .int h5, .int h6, .int h7, .int h8, .int h9, .int h10, .int h11, .int h12])), (q_1, .inr (0, [.int (nI i9), .int (f9 0), .int (nI (g.2.2 2012)), .ref (g.2.2 2002)]))] := hD
    refine W.widen (k := 1) (n := 4) (Nat.le_of_ble_eq_true rfl) (Nat.le_of_ble_eq_true rfl) ?_
    refine lv_if_eq (tgt := 88) hx hb dX11_beginTurn_21 (by decide) (fun c_2 => absurd c_2 (by decide)) (fun c_2 => ?_)
    refine lv_aload_n hx hb dX11_beginTurn_24 rfl (lv_at hl 0 rfl) ?_
    have hPc := hP.sub (ws' := [(q_1, .inr (0, [.int (nI i9), .int (f9 0), .int (nI (g.2.2 2012)), .ref (g.2.2 2002)]))]) [2] rfl
    have hDc := hD.sub (ws' := [(q_1, .inr (0, [.int (nI i9), .int (f9 0), .int (nI (g.2.2 2012)), .ref (g.2.2 2002)]))]) [2] (by decide) rfl
    have hFc := va_free (wc := [(q_1, .inr (0, [.int (nI i9), .int (f9 0), .int (nI (g.2.2 2012)), .ref (g.2.2 2002)]))]) hD hS hA [2] rfl
    refine q_cFq (wr := [((g.2.2 2000), .inr (5, [.ref mh, .ref mg, .ref (g.2.2 2002), .ref (g.2.2 2005), .ref mc, .ref (g.2.2 2006), .int 0, .int n1, .int n2, .int n3, .long n4, .int n5, .int n6, .int n7])), ((g.2.2 2001), .inr (3, [.int 0, .int h1, .int h2, .int h3, .ref (g.2.2 2004), .int h4, .int h5, .int h6, .int h7, .int h8, .int h9, .int h10, .int h11, .int h12]))]) (va_runF (As := []) (rest := []) (hK.1 0 _ rfl).2 ⟨hx, hb, hml, hown, htg⟩ (c_next l hfl g q_1 i9 (f9 0) (hk) H.size) (qI5 htg k1464 k73 k1457 k1460 k1462 (hT.1.2.2.2.2.1) okx_next rfl rfl ⟨Nat.le_of_ble_eq_true rfl, Nat.le_of_ble_eq_true rfl⟩) ⟨(q_pre [.ref q_1] hPc hDc hK hS hT hFc).1, va_recv hK hP (ci := 0) (q0 := 2) rfl rfl, (q_pre [.ref q_1] hPc hDc hK hS hT hFc).2⟩ rfl rfl hl.1 rfl (lv_room (Nat.le_of_ble_eq_true rfl)) dX11_beginTurn_25 ⟨Nat.le_of_ble_eq_true rfl, Nat.le_of_ble_eq_true rfl⟩) hP hD hS hFc [2] [0, 1] rfl rfl (by decide) (by decide) (fun r9 u9 H locs hw hP hD hS => ?_)
    try dsimp only at hw
    rcases hw with ⟨rfl, rfl⟩
    have hP : va_P g.1 CLS [((g.2.2 2000), .inr (5, [.ref mh, .ref mg, .ref (g.2.2 2002), .ref (g.2.2 2005), .ref mc, .ref (g.2.2 2006), .int 0, .int n1, .int n2, .int n3, .long n4, .int n5, .int n6, .int n7])), ((g.2.2 2001), .inr (3, [.int 0, .int h1, .int h2, .int h3, .ref (g.2.2 2004), .int h4, .int h5, .int h6, .int h7, .int h8, .int h9, .int h10, .int h11, .int h12])), (q_1, .inr (0, [.int (nI (i9 + 1)), .int (nI i9), .int (nI (g.2.2 2012)), .ref (g.2.2 2002)]))] H := hP
    have hD : va_D A [((g.2.2 2000), .inr (5, [.ref mh, .ref mg, .ref (g.2.2 2002), .ref (g.2.2 2005), .ref mc, .ref (g.2.2 2006), .int 0, .int n1, .int n2, .int n3, .long n4, .int n5, .int n6, .int n7])), ((g.2.2 2001), .inr (3, [.int 0, .int h1, .int h2, .int h3, .ref (g.2.2 2004), .int h4, .int h5, .int h6, .int h7, .int h8, .int h9, .int h10, .int h11, .int h12])), (q_1, .inr (0, [.int (nI (i9 + 1)), .int (nI i9), .int (nI (g.2.2 2012)), .ref (g.2.2 2002)]))] := hD
    refine W.widen (k := 1) (n := 4) (Nat.le_of_ble_eq_true rfl) (Nat.le_of_ble_eq_true rfl) ?_
    refine va_castE hx hb hown (htg _ k1673) (va_Orecv ((hT.2.2.2.2.2.2.1 i9 hk).2.1) hS) dX11_beginTurn_30 ?_
    refine lv_astore_n (lv' := [(3, .ref (g.2.2 (3000 + i9))), (2, .ref q_1), (1, .ref (g.2.2 2001)), (0, .ref (g.2.2 2000))]) hx hb dX11_beginTurn_33 rfl hl (by decide) rfl (fun ls hl => ?_)
    refine lv_aload_n hx hb dX11_beginTurn_34 rfl (lv_at hl 0 rfl) ?_
    refine q_getfN (v := .int 1) hx hb ((hT.2.2.2.2.2.2.1 i9 hk).2.2.1) hS hown (va_Nw.use rfl (hT.1.1 _ (List.mem_of_getElem? (i := 24) rfl))) (fun _ h9 => h9) dX11_beginTurn_35 ?_
    refine lv_if_eq (tgt := 85) hx hb dX11_beginTurn_38 (by decide) (fun c_3 => absurd c_3 (by decide)) (fun c_3 => ?_)
    refine lv_aload_n hx hb dX11_beginTurn_41 rfl (lv_at hl 0 rfl) ?_
    refine q_getfN (v := .int 0) hx hb ((hT.2.2.2.2.2.2.1 i9 hk).2.2.2.2.2.2.2) hS hown (va_Nw.use rfl (hT.1.1 _ (List.mem_of_getElem? (i := 22) rfl))) (fun _ h9 => h9) dX11_beginTurn_42 ?_
    refine lv_if_eq (tgt := 85) hx hb dX11_beginTurn_45 (by decide) (fun c_4 => ?_) (fun c_4 => absurd (by decide) c_4)
    refine lv_goto (tgt := 15) hx hb dX11_beginTurn_85 (by decide) ?_
    exact ih (fun _ => nI i9) H locs ls ⟨hP, hD, hS, lv_sub hl [1, 2, 3] rfl⟩
  · obtain ⟨hP, hD, hS, hl⟩ := hp
    refine lv_aload_n hx hb dX11_beginTurn_15 rfl (lv_at hl 0 rfl) ?_
    have hPc := hP.sub (ws' := [(q_1, .inr (0, [.int (nI (g.2.2 2010)), .int (f9 0), .int (nI (g.2.2 2012)), .ref (g.2.2 2002)]))]) [2] rfl
    have hDc := hD.sub (ws' := [(q_1, .inr (0, [.int (nI (g.2.2 2010)), .int (f9 0), .int (nI (g.2.2 2012)), .ref (g.2.2 2002)]))]) [2] (by decide) rfl
    have hFc := va_free (wc := [(q_1, .inr (0, [.int (nI (g.2.2 2010)), .int (f9 0), .int (nI (g.2.2 2012)), .ref (g.2.2 2002)]))]) hD hS hA [2] rfl
    refine q_cFi (wr := [((g.2.2 2000), .inr (5, [.ref mh, .ref mg, .ref (g.2.2 2002), .ref (g.2.2 2005), .ref mc, .ref (g.2.2 2006), .int 0, .int n1, .int n2, .int n3, .long n4, .int n5, .int n6, .int n7])), ((g.2.2 2001), .inr (3, [.int 0, .int h1, .int h2, .int h3, .ref (g.2.2 2004), .int h4, .int h5, .int h6, .int h7, .int h8, .int h9, .int h10, .int h11, .int h12]))]) (va_runF (As := []) (rest := []) (hK.1 0 _ rfl).2 ⟨hx, hb, hml, hown, htg⟩ (c_hasNext0 l hfl g q_1 (f9 0)  H.size) (qI5 htg k1455 k73 k1447 k1451 k1453 (hT.1.2.2.2.1) okx_hasNext rfl rfl ⟨Nat.le_of_ble_eq_true rfl, Nat.le_of_ble_eq_true rfl⟩) ⟨(q_pre [.ref q_1] hPc hDc hK hS hT hFc).1, va_recv hK hP (ci := 0) (q0 := 2) rfl rfl, (q_pre [.ref q_1] hPc hDc hK hS hT hFc).2⟩ rfl rfl hl.1 rfl (lv_room (Nat.le_of_ble_eq_true rfl)) dX11_beginTurn_16 ⟨Nat.le_of_ble_eq_true rfl, Nat.le_of_ble_eq_true rfl⟩) hP hD hS hFc [2] [0, 1] rfl rfl (by decide) (by decide) (fun r9 u9 H locs hw hP hD hS => ?_)
    try dsimp only at hw
    rcases hw with ⟨rfl, rfl⟩
    have hP : va_P g.1 CLS [((g.2.2 2000), .inr (5, [.ref mh, .ref mg, .ref (g.2.2 2002), .ref (g.2.2 2005), .ref mc, .ref (g.2.2 2006), .int 0, .int n1, .int n2, .int n3, .long n4, .int n5, .int n6, .int n7])), ((g.2.2 2001), .inr (3, [.int 0, .int h1, .int h2, .int h3, .ref (g.2.2 2004), .int h4, .int h5, .int h6, .int h7, .int h8, .int h9, .int h10, .int h11, .int h12])), (q_1, .inr (0, [.int (nI (g.2.2 2010)), .int (f9 0), .int (nI (g.2.2 2012)), .ref (g.2.2 2002)]))] H := hP
    have hD : va_D A [((g.2.2 2000), .inr (5, [.ref mh, .ref mg, .ref (g.2.2 2002), .ref (g.2.2 2005), .ref mc, .ref (g.2.2 2006), .int 0, .int n1, .int n2, .int n3, .long n4, .int n5, .int n6, .int n7])), ((g.2.2 2001), .inr (3, [.int 0, .int h1, .int h2, .int h3, .ref (g.2.2 2004), .int h4, .int h5, .int h6, .int h7, .int h8, .int h9, .int h10, .int h11, .int h12])), (q_1, .inr (0, [.int (nI (g.2.2 2010)), .int (f9 0), .int (nI (g.2.2 2012)), .ref (g.2.2 2002)]))] := hD
    refine W.widen (k := 1) (n := 4) (Nat.le_of_ble_eq_true rfl) (Nat.le_of_ble_eq_true rfl) ?_
    refine lv_if_eq (tgt := 88) hx hb dX11_beginTurn_21 (by decide) (fun c_5 => ?_) (fun c_5 => absurd (by decide) c_5)
    refine lv_aload_n hx hb dX11_beginTurn_88 rfl (lv_at hl 1 rfl) ?_
    refine lv_bipush (v := 32) hx hb dX11_beginTurn_89 (by decide) ?_
    refine va_putN (D := g.1) (ci := 3) (v := .int 32) (ty := .char) (C := RX9) (T := TX9) (N := 14) hx hb htg inG_X9 tyX9 tyX9_ok nmX9 hown hK hP hD hS 1 rfl rfl 12 (by decide) (va_Nw.use rfl (hT.1.1 _ (List.mem_of_getElem? (i := 15) rfl))) (fun _ h9 => h9) rfl (by decide +kernel) rfl rfl (Nat.le_of_ble_eq_true rfl) dX11_beginTurn_91 (fun H locs hP hD hS => ?_)
    have hP : va_P g.1 CLS [((g.2.2 2000), .inr (5, [.ref mh, .ref mg, .ref (g.2.2 2002), .ref (g.2.2 2005), .ref mc, .ref (g.2.2 2006), .int 0, .int n1, .int n2, .int n3, .long n4, .int n5, .int n6, .int n7])), ((g.2.2 2001), .inr (3, [.int 0, .int h1, .int h2, .int h3, .ref (g.2.2 2004), .int h4, .int h5, .int h6, .int h7, .int h8, .int h9, .int h10, .int 32, .int h12])), (q_1, .inr (0, [.int (nI (g.2.2 2010)), .int (f9 0), .int (nI (g.2.2 2012)), .ref (g.2.2 2002)]))] H := hP
    have hD : va_D A [((g.2.2 2000), .inr (5, [.ref mh, .ref mg, .ref (g.2.2 2002), .ref (g.2.2 2005), .ref mc, .ref (g.2.2 2006), .int 0, .int n1, .int n2, .int n3, .long n4, .int n5, .int n6, .int n7])), ((g.2.2 2001), .inr (3, [.int 0, .int h1, .int h2, .int h3, .ref (g.2.2 2004), .int h4, .int h5, .int h6, .int h7, .int h8, .int h9, .int h10, .int 32, .int h12])), (q_1, .inr (0, [.int (nI (g.2.2 2010)), .int (f9 0), .int (nI (g.2.2 2012)), .ref (g.2.2 2002)]))] := hD
    refine lv_aload_n hx hb dX11_beginTurn_94 rfl (lv_at hl 1 rfl) ?_
    refine lv_iconst (v := 1) hx hb dX11_beginTurn_95 (by decide) ?_
    refine va_putN (D := g.1) (ci := 3) (v := .int 1) (ty := .boolean) (C := RX9) (T := TX9) (N := 14) hx hb htg inG_X9 tyX9 tyX9_ok nmX9 hown hK hP hD hS 1 rfl rfl 11 (by decide) (va_Nw.use rfl (hT.1.1 _ (List.mem_of_getElem? (i := 14) rfl))) (fun _ h9 => h9) rfl (by decide +kernel) rfl rfl (Nat.le_of_ble_eq_true rfl) dX11_beginTurn_96 (fun H locs hP hD hS => ?_)
    have hP : va_P g.1 CLS [((g.2.2 2000), .inr (5, [.ref mh, .ref mg, .ref (g.2.2 2002), .ref (g.2.2 2005), .ref mc, .ref (g.2.2 2006), .int 0, .int n1, .int n2, .int n3, .long n4, .int n5, .int n6, .int n7])), ((g.2.2 2001), .inr (3, [.int 0, .int h1, .int h2, .int h3, .ref (g.2.2 2004), .int h4, .int h5, .int h6, .int h7, .int h8, .int h9, .int 1, .int 32, .int h12])), (q_1, .inr (0, [.int (nI (g.2.2 2010)), .int (f9 0), .int (nI (g.2.2 2012)), .ref (g.2.2 2002)]))] H := hP
    have hD : va_D A [((g.2.2 2000), .inr (5, [.ref mh, .ref mg, .ref (g.2.2 2002), .ref (g.2.2 2005), .ref mc, .ref (g.2.2 2006), .int 0, .int n1, .int n2, .int n3, .long n4, .int n5, .int n6, .int n7])), ((g.2.2 2001), .inr (3, [.int 0, .int h1, .int h2, .int h3, .ref (g.2.2 2004), .int h4, .int h5, .int h6, .int h7, .int h8, .int h9, .int 1, .int 32, .int h12])), (q_1, .inr (0, [.int (nI (g.2.2 2010)), .int (f9 0), .int (nI (g.2.2 2012)), .ref (g.2.2 2002)]))] := hD
    refine lv_aload_n hx hb dX11_beginTurn_99 rfl (lv_at hl 2 rfl) ?_
    refine lv_iconst (v := 1) hx hb dX11_beginTurn_100 (by decide) ?_
    refine va_put (D := g.1) (ci := 5) (v := .int 1) (ty := .boolean) (C := RX11) (T := TX11) (N := 14) hx hb htg inG_X11 tyX11 tyX11_ok nmX11 hown hK hP hD hS 0 rfl rfl 9 (by decide) (htg _ k1349) (fun _ h9 => h9) rfl (by decide +kernel) rfl rfl (Nat.le_of_ble_eq_true rfl) dX11_beginTurn_101 (fun H locs hP hD hS => ?_)
    have hP : va_P g.1 CLS [((g.2.2 2000), .inr (5, [.ref mh, .ref mg, .ref (g.2.2 2002), .ref (g.2.2 2005), .ref mc, .ref (g.2.2 2006), .int 0, .int n1, .int n2, .int 1, .long n4, .int n5, .int n6, .int n7])), ((g.2.2 2001), .inr (3, [.int 0, .int h1, .int h2, .int h3, .ref (g.2.2 2004), .int h4, .int h5, .int h6, .int h7, .int h8, .int h9, .int 1, .int 32, .int h12])), (q_1, .inr (0, [.int (nI (g.2.2 2010)), .int (f9 0), .int (nI (g.2.2 2012)), .ref (g.2.2 2002)]))] H := hP
    have hD : va_D A [((g.2.2 2000), .inr (5, [.ref mh, .ref mg, .ref (g.2.2 2002), .ref (g.2.2 2005), .ref mc, .ref (g.2.2 2006), .int 0, .int n1, .int n2, .int 1, .long n4, .int n5, .int n6, .int n7])), ((g.2.2 2001), .inr (3, [.int 0, .int h1, .int h2, .int h3, .ref (g.2.2 2004), .int h4, .int h5, .int h6, .int h7, .int h8, .int h9, .int 1, .int 32, .int h12])), (q_1, .inr (0, [.int (nI (g.2.2 2010)), .int (f9 0), .int (nI (g.2.2 2012)), .ref (g.2.2 2002)]))] := hD
    refine lv_aload_n hx hb dX11_beginTurn_104 rfl (lv_at hl 2 rfl) ?_
    refine lv_iconst (v := 0) hx hb dX11_beginTurn_105 (by decide) ?_
    refine lv_aload_n hx hb dX11_beginTurn_106 rfl (lv_at hl 2 rfl) ?_
    refine lv_aload_n hx hb dX11_beginTurn_107 rfl (lv_at hl 1 rfl) ?_
    refine lv_bipush (v := 115) hx hb dX11_beginTurn_108 (by decide) ?_
    have hz := one_new hAe hP hD
    have hPc := hP.sub (ws' := []) [] rfl
    have hDc := hD.sub (ws' := []) [] (by decide) rfl
    have hFc := va_free (wc := []) hD hS hA [] rfl
    have hz0 := hz
    refine q_ciZ (wr := [((g.2.2 2000), .inr (5, [.ref mh, .ref mg, .ref (g.2.2 2002), .ref (g.2.2 2005), .ref mc, .ref (g.2.2 2006), .int 0, .int n1, .int n2, .int 1, .long n4, .int n5, .int n6, .int n7])), ((g.2.2 2001), .inr (3, [.int 0, .int h1, .int h2, .int h3, .ref (g.2.2 2004), .int h4, .int h5, .int h6, .int h7, .int h8, .int h9, .int 1, .int 32, .int h12])), (q_1, .inr (0, [.int (nI (g.2.2 2010)), .int (f9 0), .int (nI (g.2.2 2012)), .ref (g.2.2 2002)]))]) (va_runV (As := [.ref (g.2.2 2001), .int 115]) (rest := [.int 0, .ref (g.2.2 2000)]) ⟨hx, hb, hml, hown, htg⟩ (c_number_s l hfl g   H.size) ⟨(qB htg k1791 k57 k1788 ok_X11_number rfl rfl ⟨Nat.le_of_ble_eq_true rfl, Nat.le_of_ble_eq_true rfl⟩), htg _ k1790, htg _ k28⟩ ⟨(q_preab [.ref (g.2.2 2000), .ref (g.2.2 2001), .int 115] htg hP hK hS hT hA 0 1 rfl rfl rfl rfl rfl rfl).1, va_recv hK hP (ci := 5) (q0 := 0) rfl rfl, (q_preab [.ref (g.2.2 2000), .ref (g.2.2 2001), .int 115] htg hP hK hS hT hA 0 1 rfl rfl rfl rfl rfl rfl).2⟩ rfl rfl hl.1 rfl (lv_room (Nat.le_of_ble_eq_true rfl)) dX11_beginTurn_110 ⟨Nat.le_of_ble_eq_true rfl, Nat.le_of_ble_eq_true rfl⟩) hP hD hS hFc [] [0, 1, 2] rfl rfl (by decide) (by decide) (fun r9 u9 H locs hZ hw hP hD hS => ?_)
    have hz := Nat.le_trans (Nat.add_le_add_right hz0 2) hZ
    try dsimp only at hw
    rcases hw with ⟨rfl, rfl⟩
    have hP : va_P g.1 CLS [((g.2.2 2000), .inr (5, [.ref mh, .ref mg, .ref (g.2.2 2002), .ref (g.2.2 2005), .ref mc, .ref (g.2.2 2006), .int 0, .int n1, .int n2, .int 1, .long n4, .int n5, .int n6, .int n7])), ((g.2.2 2001), .inr (3, [.int 0, .int h1, .int h2, .int h3, .ref (g.2.2 2004), .int h4, .int h5, .int h6, .int h7, .int h8, .int h9, .int 1, .int 32, .int h12])), (q_1, .inr (0, [.int (nI (g.2.2 2010)), .int (f9 0), .int (nI (g.2.2 2012)), .ref (g.2.2 2002)]))] H := hP
    have hD : va_D A [((g.2.2 2000), .inr (5, [.ref mh, .ref mg, .ref (g.2.2 2002), .ref (g.2.2 2005), .ref mc, .ref (g.2.2 2006), .int 0, .int n1, .int n2, .int 1, .long n4, .int n5, .int n6, .int n7])), ((g.2.2 2001), .inr (3, [.int 0, .int h1, .int h2, .int h3, .ref (g.2.2 2004), .int h4, .int h5, .int h6, .int h7, .int h8, .int h9, .int 1, .int 32, .int h12])), (q_1, .inr (0, [.int (nI (g.2.2 2010)), .int (f9 0), .int (nI (g.2.2 2012)), .ref (g.2.2 2002)]))] := hD
    refine W.widen (k := 3) (n := 11) (Nat.le_of_ble_eq_true rfl) (Nat.le_of_ble_eq_true rfl) ?_
    refine va_mmax hx hb (by rw [hl.1]; exact hml) (own := "HeroTableModel") (index := 165) hown (htg _ k1711) (htg _ k454) (htg _ k72) (htg _ k455) (Nat.le_of_ble_eq_true rfl) (Nat.le_of_ble_eq_true rfl) (Nat.le_of_ble_eq_true rfl) (Nat.le_of_ble_eq_true rfl) dX11_beginTurn_113 ?_
    refine lv_topi (fun x_6 ex_6 => ?_)
    obtain rfl : x_6 = 4 := ex_6.trans (by decide)
    have hS9 := hS
    have hSr : va_S A H H locs := ⟨Nat.le_refl _, fun _ _ _ => rfl, hS.2.2⟩
    refine va_put (D := g.1) (ci := 5) (v := .int 4) (ty := .int) (C := RX11) (T := TX11) (N := 14) hx hb htg inG_X11 tyX11 tyX11_ok nmX11 hown hK hP hD hSr 0 rfl rfl 8 (by decide) (htg _ k1348) (fun _ h9 => h9) rfl (by decide +kernel) rfl rfl (Nat.le_of_ble_eq_true rfl) dX11_beginTurn_116 (fun H locs hP hD hS8 => ?_)
    have hz := Nat.le_trans hz hS8.1
    have hS := q_Str hS9 hS8
    have hP : va_P g.1 CLS [((g.2.2 2000), .inr (5, [.ref mh, .ref mg, .ref (g.2.2 2002), .ref (g.2.2 2005), .ref mc, .ref (g.2.2 2006), .int 0, .int n1, .int 4, .int 1, .long n4, .int n5, .int n6, .int n7])), ((g.2.2 2001), .inr (3, [.int 0, .int h1, .int h2, .int h3, .ref (g.2.2 2004), .int h4, .int h5, .int h6, .int h7, .int h8, .int h9, .int 1, .int 32, .int h12])), (q_1, .inr (0, [.int (nI (g.2.2 2010)), .int (f9 0), .int (nI (g.2.2 2012)), .ref (g.2.2 2002)]))] H := hP
    have hD : va_D A [((g.2.2 2000), .inr (5, [.ref mh, .ref mg, .ref (g.2.2 2002), .ref (g.2.2 2005), .ref mc, .ref (g.2.2 2006), .int 0, .int n1, .int 4, .int 1, .long n4, .int n5, .int n6, .int n7])), ((g.2.2 2001), .inr (3, [.int 0, .int h1, .int h2, .int h3, .ref (g.2.2 2004), .int h4, .int h5, .int h6, .int h7, .int h8, .int h9, .int 1, .int 32, .int h12])), (q_1, .inr (0, [.int (nI (g.2.2 2010)), .int (f9 0), .int (nI (g.2.2 2012)), .ref (g.2.2 2002)]))] := hD
    refine lv_aload_n hx hb dX11_beginTurn_119 rfl (lv_at hl 1 rfl) ?_
    refine va_getN (D := g.1) (ci := 3) (v := .int 0) (C := RX9) (T := TX9) (N := 14) hx hb htg inG_X9 hown hK hP 1 rfl rfl 0 (by decide) (va_Nw.use rfl (hT.1.1 _ (List.mem_of_getElem? (i := 3) rfl))) (fun _ h9 => h9) rfl dX11_beginTurn_120 ?_
    have hP9 := hP.sub (ws' := [((g.2.2 2000), .inr (5, [.ref mh, .ref mg, .ref (g.2.2 2002), .ref (g.2.2 2005), .ref mc, .ref (g.2.2 2006), .int 0, .int n1, .int 4, .int 1, .long n4, .int n5, .int n6, .int n7])), ((g.2.2 2001), .inr (3, [.int 0, .int h1, .int h2, .int h3, .ref (g.2.2 2004), .int h4, .int h5, .int h6, .int h7, .int h8, .int h9, .int 1, .int 32, .int h12]))]) [0, 1] rfl
    have hD9 := hD.sub (ws' := [((g.2.2 2000), .inr (5, [.ref mh, .ref mg, .ref (g.2.2 2002), .ref (g.2.2 2005), .ref mc, .ref (g.2.2 2006), .int 0, .int n1, .int 4, .int 1, .long n4, .int n5, .int n6, .int n7])), ((g.2.2 2001), .inr (3, [.int 0, .int h1, .int h2, .int h3, .ref (g.2.2 2004), .int h4, .int h5, .int h6, .int h7, .int h8, .int h9, .int 1, .int 32, .int h12]))]) [0, 1] (by decide) rfl
    refine W.widen (k := 3) (n := 11) (Nat.le_of_ble_eq_true rfl) (Nat.le_of_ble_eq_true rfl) ?_
    exact W.iret (v := 0) hx hb hr (fun t ht hW => ⟨⟨0, [((g.2.2 2000), .inr (5, [.ref mh, .ref mg, .ref (g.2.2 2002), .ref (g.2.2 2005), .ref mc, .ref (g.2.2 2006), .int 0, .int n1, .int 4, .int 1, .long n4, .int n5, .int n6, .int n7])), ((g.2.2 2001), .inr (3, [.int 0, .int h1, .int h2, .int h3, .ref (g.2.2 2004), .int h4, .int h5, .int h6, .int h7, .int h8, .int h9, .int 1, .int 32, .int h12]))], rfl, ⟨rfl, rfl⟩, ⟨by rw [ht]; exact hP9, va_K.moved hW.alike hK, hD9⟩, by rw [ht, hH0]; exact hz⟩, hS.F ht⟩) hS.2.2 dX11_beginTurn_123

set_option maxHeartbeats 4000000 in
set_option maxRecDepth 100000 in
theorem c_endTurn (l : Launch) (hfl : l.stackTraces = false) (g : GP) (mh : Nat) (mg : Nat) (mc : Nat) (n1 : Int32) (n2 : Int32) (n3 : Int32) (n4 : Int64) (n5 : Int32) (n6 : Int32) (n7 : Int32) (h1 : Int32) (h2 : Int32) (h3 : Int32) (h4 : Int32) (h5 : Int32) (h6 : Int32) (h7 : Int32) (h8 : Int32) (h9 : Int32) (h10 : Int32) (h11 : Int32) (h12 : Int32) (mca : Nat) (k1 : Nat) (nc : Nat) (c0 : Int32) (fc : Nat → Option Nat) (hkc : k1 < nc) (hnc : nc < 2 ^ 31) : ZI l yX11_endTurn (wG yX11_endTurn cX11_endTurn 5 (Option.some Jvm.ClassFile.FieldType.int)) (LV 8 (5 + 2 * g.2.2 2010) (13 + 7 * g.2.2 2010)) g [.ref (g.2.2 2000)] ([((g.2.2 2000), .inr (5, [.ref mh, .ref mg, .ref (g.2.2 2002), .ref (g.2.2 2005), .ref mc, .ref (g.2.2 2006), .int 0, .int n1, .int n2, .int n3, .long n4, .int n5, .int n6, .int n7])), ((g.2.2 2001), .inr (3, [.int 0, .int h1, .int h2, .int h3, .ref (g.2.2 2004), .int h4, .int h5, .int h6, .int h7, .int h8, .int h9, .int h10, .int h11, .int h12])), (mc, .inr (1, [.int c0, .ref mca, .int (nI k1)])), (mca, .inl (g.2.1 5, nc, .inr (.inr (.inr (.inr fc)))))]) (2 * (g.2.2 2010) + 3) (fun (r : Int32) (u : va_W) => ∃ (n9 : Int32) (c9 : Int32) (f2 : Nat → Option Nat), r = 0 ∧ u = [((g.2.2 2000), .inr (5, [.ref mh, .ref mg, .ref (g.2.2 2002), .ref (g.2.2 2005), .ref mc, .ref (g.2.2 2006), .int 0, .int n9, .int 4, .int 1, .long n4, .int n5, .int n6, .int 0])), ((g.2.2 2001), .inr (3, [.int 0, .int h1, .int h2, .int h3, .ref (g.2.2 2004), .int h4, .int h5, .int h6, .int h7, .int h8, .int h9, .int 1, .int 32, .int h12])), (mc, .inr (1, [.int c9, .ref mca, .int (nI (k1 + 1))])), (mca, .inl (g.2.1 5, nc, .inr (.inr (.inr (.inr f2)))))]) := by
  intro sz
  refine Met.ofW (cc := cX11_endTurn) (maxL := 5) (ret := (Option.some Jvm.ClassFile.FieldType.int)) (by decide) rfl ?_
  intro p e s m args below meth c s₁ B hml hv
  obtain ⟨rfl, hsz, hP, hK, hD0, hT0⟩ := hv
  have hx := B.exec
  have hb := B.bytes
  have hr := B.returns
  have hts := atoms_spec (ws := (wG yX11_endTurn cX11_endTurn 5 (Option.some Jvm.ClassFile.FieldType.int))) B.pre
  have htg : ∀ w ∈ G9, w.before _ s = true := fun w h => hts w (List.mem_cons_of_mem _ h)
  have hown : s.vm.findClass "HeroTableModel" = some m.cls := findClass_of_methodNamed B.named
  have hlocks := B.notSynchronized
  subst hsz
  have hD := hD0.self (sz := s.heap.size)
  have hT := hT0
  clear hT0
  generalize hAe : va_A [((g.2.2 2000), .inr (5, [.ref mh, .ref mg, .ref (g.2.2 2002), .ref (g.2.2 2005), .ref mc, .ref (g.2.2 2006), .int 0, .int n1, .int n2, .int n3, .long n4, .int n5, .int n6, .int n7])), ((g.2.2 2001), .inr (3, [.int 0, .int h1, .int h2, .int h3, .ref (g.2.2 2004), .int h4, .int h5, .int h6, .int h7, .int h8, .int h9, .int h10, .int h11, .int h12])), (mc, .inr (1, [.int c0, .ref mca, .int (nI k1)])), (mca, .inl (g.2.1 5, nc, .inr (.inr (.inr (.inr fc)))))] s.heap.size = A at hD hT ⊢
  have hA : ∀ q : Nat, s.heap.size ≤ q → A q := fun q h => by rw [← hAe]; exact Or.inr h
  obtain ⟨H, hH0⟩ : ∃ H, H = s.heap := ⟨_, rfl⟩
  have hS : va_S A s.heap H [] := by rw [hH0]; exact va_S.rf
  have hP : va_P g.1 CLS [((g.2.2 2000), .inr (5, [.ref mh, .ref mg, .ref (g.2.2 2002), .ref (g.2.2 2005), .ref mc, .ref (g.2.2 2006), .int 0, .int n1, .int n2, .int n3, .long n4, .int n5, .int n6, .int n7])), ((g.2.2 2001), .inr (3, [.int 0, .int h1, .int h2, .int h3, .ref (g.2.2 2004), .int h4, .int h5, .int h6, .int h7, .int h8, .int h9, .int h10, .int h11, .int h12])), (mc, .inr (1, [.int c0, .ref mca, .int (nI k1)])), (mca, .inl (g.2.1 5, nc, .inr (.inr (.inr (.inr fc)))))] H := by rw [hH0]; exact hP
  rw [← hH0]
  have hl := lv_entry ([.ref (g.2.2 2000)]) (n := 5) (Nat.le_of_ble_eq_true rfl)
  rw [lg_entry_eq]
  generalize (lg_sl ([.ref (g.2.2 2000)]) ++ List.replicate (5 - (lg_sl ([.ref (g.2.2 2000)])).length) Slot.unset).toArray = ls at hl ⊢
  have hl : lv_has ls 5 [(0, .ref (g.2.2 2000))] := hl
  refine lv_aload_n hx hb dX11_endTurn_0 rfl (lv_at hl 0 rfl) ?_
  refine lv_aload_n hx hb dX11_endTurn_1 rfl (lv_at hl 0 rfl) ?_
  have hPc := hP.sub (ws' := [((g.2.2 2000), .inr (5, [.ref mh, .ref mg, .ref (g.2.2 2002), .ref (g.2.2 2005), .ref mc, .ref (g.2.2 2006), .int 0, .int n1, .int n2, .int n3, .long n4, .int n5, .int n6, .int n7]))]) [0] rfl
  have hDc := hD.sub (ws' := [((g.2.2 2000), .inr (5, [.ref mh, .ref mg, .ref (g.2.2 2002), .ref (g.2.2 2005), .ref mc, .ref (g.2.2 2006), .int 0, .int n1, .int n2, .int n3, .long n4, .int n5, .int n6, .int n7]))]) [0] (by decide) rfl
  have hFc := va_free (wc := [((g.2.2 2000), .inr (5, [.ref mh, .ref mg, .ref (g.2.2 2002), .ref (g.2.2 2005), .ref mc, .ref (g.2.2 2006), .int 0, .int n1, .int n2, .int n3, .long n4, .int n5, .int n6, .int n7]))]) hD hS hA [0] rfl
  refine q_ci (wr := [((g.2.2 2001), .inr (3, [.int 0, .int h1, .int h2, .int h3, .ref (g.2.2 2004), .int h4, .int h5, .int h6, .int h7, .int h8, .int h9, .int h10, .int h11, .int h12])), (mc, .inr (1, [.int c0, .ref mca, .int (nI k1)])), (mca, .inl (g.2.1 5, nc, .inr (.inr (.inr (.inr fc)))))]) (va_runV (As := []) (rest := [.ref (g.2.2 2000)]) ⟨hx, hb, hml, hown, htg⟩ (c_isOn l hfl g mh mg mc n1 n2 n3 n4 n5 n6 n7  H.size) ⟨(qB htg k1413 k57 k1410 ok_X11_isOn rfl rfl ⟨by (first | exact Nat.le_of_ble_eq_true rfl | omega | (simp only [LV, Jvm.D.headSpec]; omega)), by (first | exact Nat.le_of_ble_eq_true rfl | omega | (simp only [LV, Jvm.D.headSpec]; omega))⟩), htg _ k1412, htg _ k17⟩ ⟨(q_pre [.ref (g.2.2 2000)] hPc hDc hK hS hT hFc).1, va_recv hK hP (ci := 5) (q0 := 0) rfl rfl, (q_pre [.ref (g.2.2 2000)] hPc hDc hK hS hT hFc).2⟩ rfl rfl hl.1 rfl (lv_room (by (first | exact Nat.le_of_ble_eq_true rfl | omega | (simp only [LV, Jvm.D.headSpec]; omega)))) dX11_endTurn_2 ⟨by (first | exact Nat.le_of_ble_eq_true rfl | omega | (simp only [LV, Jvm.D.headSpec]; omega)), by (first | exact Nat.le_of_ble_eq_true rfl | omega | (simp only [LV, Jvm.D.headSpec]; omega))⟩) hP hD hS hFc [0] [1, 2, 3] rfl rfl (by decide) (by decide) (fun r9 u9 H locs hw hP hD hS => ?_)
  try dsimp only at hw
  rcases hw with ⟨rfl, rfl⟩
  have hP : va_P g.1 CLS [((g.2.2 2001), .inr (3, [.int 0, .int h1, .int h2, .int h3, .ref (g.2.2 2004), .int h4, .int h5, .int h6, .int h7, .int h8, .int h9, .int h10, .int h11, .int h12])), (mc, .inr (1, [.int c0, .ref mca, .int (nI k1)])), (mca, .inl (g.2.1 5, nc, .inr (.inr (.inr (.inr fc))))), ((g.2.2 2000), .inr (5, [.ref mh, .ref mg, .ref (g.2.2 2002), .ref (g.2.2 2005), .ref mc, .ref (g.2.2 2006), .int 0, .int n1, .int n2, .int n3, .long n4, .int n5, .int n6, .int n7]))] H := hP
  have hD : va_D A [((g.2.2 2001), .inr (3, [.int 0, .int h1, .int h2, .int h3, .ref (g.2.2 2004), .int h4, .int h5, .int h6, .int h7, .int h8, .int h9, .int h10, .int h11, .int h12])), (mc, .inr (1, [.int c0, .ref mca, .int (nI k1)])), (mca, .inl (g.2.1 5, nc, .inr (.inr (.inr (.inr fc))))), ((g.2.2 2000), .inr (5, [.ref mh, .ref mg, .ref (g.2.2 2002), .ref (g.2.2 2005), .ref mc, .ref (g.2.2 2006), .int 0, .int n1, .int n2, .int n3, .long n4, .int n5, .int n6, .int n7]))] := hD
  refine W.widen (k := 0) (n := 0) (by (first | exact Nat.le_of_ble_eq_true rfl | omega | (simp only [LV, Jvm.D.headSpec]; omega))) (by (first | exact Nat.le_of_ble_eq_true rfl | omega | (simp only [LV, Jvm.D.headSpec]; omega))) ?_
  refine lv_if_eq (tgt := 12) hx hb dX11_endTurn_5 (by decide) (fun c_1 => absurd c_1 (by decide)) (fun c_1 => ?_)
  refine lv_iconst (v := 0) hx hb dX11_endTurn_8 (by decide) ?_
  refine lv_goto (tgt := 13) hx hb dX11_endTurn_9 (by decide) ?_
  refine va_put (D := g.1) (ci := 5) (v := .int 0) (ty := .int) (C := RX11) (T := TX11) (N := 14) hx hb htg inG_X11 tyX11 tyX11_ok nmX11 hown hK hP hD hS 3 rfl rfl 13 (by decide) (htg _ k1353) (fun _ h9 => h9) rfl (by decide +kernel) rfl rfl (by (first | exact Nat.le_of_ble_eq_true rfl | omega | (simp only [LV, Jvm.D.headSpec]; omega))) dX11_endTurn_13 (fun H locs hP hD hS => ?_)
  have hP : va_P g.1 CLS [((g.2.2 2001), .inr (3, [.int 0, .int h1, .int h2, .int h3, .ref (g.2.2 2004), .int h4, .int h5, .int h6, .int h7, .int h8, .int h9, .int h10, .int h11, .int h12])), (mc, .inr (1, [.int c0, .ref mca, .int (nI k1)])), (mca, .inl (g.2.1 5, nc, .inr (.inr (.inr (.inr fc))))), ((g.2.2 2000), .inr (5, [.ref mh, .ref mg, .ref (g.2.2 2002), .ref (g.2.2 2005), .ref mc, .ref (g.2.2 2006), .int 0, .int n1, .int n2, .int n3, .long n4, .int n5, .int n6, .int 0]))] H := hP
  have hD : va_D A [((g.2.2 2001), .inr (3, [.int 0, .int h1, .int h2, .int h3, .ref (g.2.2 2004), .int h4, .int h5, .int h6, .int h7, .int h8, .int h9, .int h10, .int h11, .int h12])), (mc, .inr (1, [.int c0, .ref mca, .int (nI k1)])), (mca, .inl (g.2.1 5, nc, .inr (.inr (.inr (.inr fc))))), ((g.2.2 2000), .inr (5, [.ref mh, .ref mg, .ref (g.2.2 2002), .ref (g.2.2 2005), .ref mc, .ref (g.2.2 2006), .int 0, .int n1, .int n2, .int n3, .long n4, .int n5, .int n6, .int 0]))] := hD
  refine lv_aload_n hx hb dX11_endTurn_16 rfl (lv_at hl 0 rfl) ?_
  refine va_get (D := g.1) (ci := 5) (v := .int 0) (C := RX11) (T := TX11) (N := 14) hx hb htg inG_X11 hown hK hP 3 rfl rfl 13 (by decide) (htg _ k1353) (fun _ h9 => h9) rfl dX11_endTurn_17 ?_
  refine lv_if_le (tgt := 25) hx hb dX11_endTurn_20 (by decide) (fun c_2 => ?_) (fun c_2 => absurd (by decide) c_2)
  refine lv_aload_n hx hb dX11_endTurn_25 rfl (lv_at hl 0 rfl) ?_
  refine lv_bipush (v := 101) hx hb dX11_endTurn_26 (by decide) ?_
  refine lv_iconst (v := 0) hx hb dX11_endTurn_28 (by decide) ?_
  refine va_newa (atype := .int) (ty := .int) (a0 := (0, .inl (fun _ => 0))) (N' := 0) hx hb (htg _ k156) rfl hK hP hD hS hA (fun _ => rfl) (by decide) (by decide) (by decide) (by (first | exact Nat.le_of_ble_eq_true rfl | omega | (simp only [LV, Jvm.D.headSpec]; omega))) (by (first | exact Nat.le_of_ble_eq_true rfl | omega | (simp only [LV, Jvm.D.headSpec]; omega))) dX11_endTurn_29 (fun q_3 cA H hK9 hP hD hS => ?_)
  obtain rfl := q_arr hK9 (t0 := 1) rfl (by decide)
  clear hK9
  have hP : va_P g.1 CLS [((g.2.2 2001), .inr (3, [.int 0, .int h1, .int h2, .int h3, .ref (g.2.2 2004), .int h4, .int h5, .int h6, .int h7, .int h8, .int h9, .int h10, .int h11, .int h12])), (mc, .inr (1, [.int c0, .ref mca, .int (nI k1)])), (mca, .inl (g.2.1 5, nc, .inr (.inr (.inr (.inr fc))))), ((g.2.2 2000), .inr (5, [.ref mh, .ref mg, .ref (g.2.2 2002), .ref (g.2.2 2005), .ref mc, .ref (g.2.2 2006), .int 0, .int n1, .int n2, .int n3, .long n4, .int n5, .int n6, .int 0])), (q_3, .inl (g.2.1 1, 0, .inl (fun _ => 0)))] H := hP
  have hD : va_D A [((g.2.2 2001), .inr (3, [.int 0, .int h1, .int h2, .int h3, .ref (g.2.2 2004), .int h4, .int h5, .int h6, .int h7, .int h8, .int h9, .int h10, .int h11, .int h12])), (mc, .inr (1, [.int c0, .ref mca, .int (nI k1)])), (mca, .inl (g.2.1 5, nc, .inr (.inr (.inr (.inr fc))))), ((g.2.2 2000), .inr (5, [.ref mh, .ref mg, .ref (g.2.2 2002), .ref (g.2.2 2005), .ref mc, .ref (g.2.2 2006), .int 0, .int n1, .int n2, .int n3, .long n4, .int n5, .int n6, .int 0])), (q_3, .inl (g.2.1 1, 0, .inl (fun _ => 0)))] := hD
  refine W.widen (k := 1) (n := 0) (by (first | exact Nat.le_of_ble_eq_true rfl | omega | (simp only [LV, Jvm.D.headSpec]; omega))) (by (first | exact Nat.le_of_ble_eq_true rfl | omega | (simp only [LV, Jvm.D.headSpec]; omega))) ?_
  have hPc := hP.sub (ws' := [((g.2.2 2000), .inr (5, [.ref mh, .ref mg, .ref (g.2.2 2002), .ref (g.2.2 2005), .ref mc, .ref (g.2.2 2006), .int 0, .int n1, .int n2, .int n3, .long n4, .int n5, .int n6, .int 0])), (mc, .inr (1, [.int c0, .ref mca, .int (nI k1)])), (mca, .inl (g.2.1 5, nc, .inr (.inr (.inr (.inr fc)))))]) [3, 1, 2] rfl
  have hDc := hD.sub (ws' := [((g.2.2 2000), .inr (5, [.ref mh, .ref mg, .ref (g.2.2 2002), .ref (g.2.2 2005), .ref mc, .ref (g.2.2 2006), .int 0, .int n1, .int n2, .int n3, .long n4, .int n5, .int n6, .int 0])), (mc, .inr (1, [.int c0, .ref mca, .int (nI k1)])), (mca, .inl (g.2.1 5, nc, .inr (.inr (.inr (.inr fc)))))]) [3, 1, 2] (by decide) rfl
  have hFc := va_free (wc := [((g.2.2 2000), .inr (5, [.ref mh, .ref mg, .ref (g.2.2 2002), .ref (g.2.2 2005), .ref mc, .ref (g.2.2 2006), .int 0, .int n1, .int n2, .int n3, .long n4, .int n5, .int n6, .int 0])), (mc, .inr (1, [.int c0, .ref mca, .int (nI k1)])), (mca, .inl (g.2.1 5, nc, .inr (.inr (.inr (.inr fc)))))]) hD hS hA [3, 1, 2] rfl
  refine q_cv (wr := [((g.2.2 2001), .inr (3, [.int 0, .int h1, .int h2, .int h3, .ref (g.2.2 2004), .int h4, .int h5, .int h6, .int h7, .int h8, .int h9, .int h10, .int h11, .int h12])), (q_3, .inl (g.2.1 1, 0, .inl (fun _ => 0)))]) (va_runV (As := [.int 101, .ref q_3]) (rest := []) ⟨hx, hb, hml, hown, htg⟩ (c_keep l hfl g mh mg mc n1 n2 n3 n4 n5 n6 0 mca k1 nc c0 fc q_3 (hkc) (hnc) H.size) ⟨(qB htg k1484 k57 k1481 ok_X11_keep rfl rfl ⟨by (first | exact Nat.le_of_ble_eq_true rfl | omega | (simp only [LV, Jvm.D.headSpec]; omega)), by (first | exact Nat.le_of_ble_eq_true rfl | omega | (simp only [LV, Jvm.D.headSpec]; omega))⟩), htg _ k1483, htg _ k19⟩ ⟨(q_pre [.ref (g.2.2 2000), .int 101, .ref q_3] hPc hDc hK hS hT hFc).1, va_recv hK hP (ci := 5) (q0 := 3) rfl rfl, (q_pre [.ref (g.2.2 2000), .int 101, .ref q_3] hPc hDc hK hS hT hFc).2⟩ rfl rfl hl.1 rfl (lv_room (by (first | exact Nat.le_of_ble_eq_true rfl | omega | (simp only [LV, Jvm.D.headSpec]; omega)))) dX11_endTurn_31 ⟨by (first | exact Nat.le_of_ble_eq_true rfl | omega | (simp only [LV, Jvm.D.headSpec]; omega)), by (first | exact Nat.le_of_ble_eq_true rfl | omega | (simp only [LV, Jvm.D.headSpec]; omega))⟩) hP hD hS hFc [3, 1, 2] [0, 4] rfl rfl (by decide) (by decide) (fun u9 H locs hw hP hD hS => ?_)
  try dsimp only at hw
  rcases hw with ⟨v_4, f_5, rfl⟩
  have hP : va_P g.1 CLS [((g.2.2 2001), .inr (3, [.int 0, .int h1, .int h2, .int h3, .ref (g.2.2 2004), .int h4, .int h5, .int h6, .int h7, .int h8, .int h9, .int h10, .int h11, .int h12])), (q_3, .inl (g.2.1 1, 0, .inl (fun _ => 0))), ((g.2.2 2000), .inr (5, [.ref mh, .ref mg, .ref (g.2.2 2002), .ref (g.2.2 2005), .ref mc, .ref (g.2.2 2006), .int 0, .int n1, .int n2, .int n3, .long n4, .int n5, .int n6, .int 0])), (mc, .inr (1, [.int v_4, .ref mca, .int (nI (k1 + 1))])), (mca, .inl (g.2.1 5, nc, .inr (.inr (.inr (.inr f_5)))))] H := hP
  have hD : va_D A [((g.2.2 2001), .inr (3, [.int 0, .int h1, .int h2, .int h3, .ref (g.2.2 2004), .int h4, .int h5, .int h6, .int h7, .int h8, .int h9, .int h10, .int h11, .int h12])), (q_3, .inl (g.2.1 1, 0, .inl (fun _ => 0))), ((g.2.2 2000), .inr (5, [.ref mh, .ref mg, .ref (g.2.2 2002), .ref (g.2.2 2005), .ref mc, .ref (g.2.2 2006), .int 0, .int n1, .int n2, .int n3, .long n4, .int n5, .int n6, .int 0])), (mc, .inr (1, [.int v_4, .ref mca, .int (nI (k1 + 1))])), (mca, .inl (g.2.1 5, nc, .inr (.inr (.inr (.inr f_5)))))] := hD
  refine W.widen (k := 2) (n := 2) (by (first | exact Nat.le_of_ble_eq_true rfl | omega | (simp only [LV, Jvm.D.headSpec]; omega))) (by (first | exact Nat.le_of_ble_eq_true rfl | omega | (simp only [LV, Jvm.D.headSpec]; omega))) ?_
  refine lv_aload_n hx hb dX11_endTurn_34 rfl (lv_at hl 0 rfl) ?_
  have hPc := hP.sub (ws' := [((g.2.2 2000), .inr (5, [.ref mh, .ref mg, .ref (g.2.2 2002), .ref (g.2.2 2005), .ref mc, .ref (g.2.2 2006), .int 0, .int n1, .int n2, .int n3, .long n4, .int n5, .int n6, .int 0])), ((g.2.2 2001), .inr (3, [.int 0, .int h1, .int h2, .int h3, .ref (g.2.2 2004), .int h4, .int h5, .int h6, .int h7, .int h8, .int h9, .int h10, .int h11, .int h12]))]) [2, 0] rfl
  have hDc := hD.sub (ws' := [((g.2.2 2000), .inr (5, [.ref mh, .ref mg, .ref (g.2.2 2002), .ref (g.2.2 2005), .ref mc, .ref (g.2.2 2006), .int 0, .int n1, .int n2, .int n3, .long n4, .int n5, .int n6, .int 0])), ((g.2.2 2001), .inr (3, [.int 0, .int h1, .int h2, .int h3, .ref (g.2.2 2004), .int h4, .int h5, .int h6, .int h7, .int h8, .int h9, .int h10, .int h11, .int h12]))]) [2, 0] (by decide) rfl
  have hFc := va_free (wc := [((g.2.2 2000), .inr (5, [.ref mh, .ref mg, .ref (g.2.2 2002), .ref (g.2.2 2005), .ref mc, .ref (g.2.2 2006), .int 0, .int n1, .int n2, .int n3, .long n4, .int n5, .int n6, .int 0])), ((g.2.2 2001), .inr (3, [.int 0, .int h1, .int h2, .int h3, .ref (g.2.2 2004), .int h4, .int h5, .int h6, .int h7, .int h8, .int h9, .int h10, .int h11, .int h12]))]) hD hS hA [2, 0] rfl
  refine q_cq (wr := [(q_3, .inl (g.2.1 1, 0, .inl (fun _ => 0))), (mc, .inr (1, [.int v_4, .ref mca, .int (nI (k1 + 1))])), (mca, .inl (g.2.1 5, nc, .inr (.inr (.inr (.inr f_5)))))]) (va_runV (As := []) (rest := []) ⟨hx, hb, hml, hown, htg⟩ (c_now l hfl g mh mg mc n1 n2 n3 n4 n5 n6 0 h1 h2 h3 h4 h5 h6 h7 h8 h9 h10 h11 h12  H.size) ⟨(qB htg k2105 k57 k2102 ok_X11_now rfl rfl ⟨by (first | exact Nat.le_of_ble_eq_true rfl | omega | (simp only [LV, Jvm.D.headSpec]; omega)), by (first | exact Nat.le_of_ble_eq_true rfl | omega | (simp only [LV, Jvm.D.headSpec]; omega))⟩), htg _ k2104, htg _ k34⟩ ⟨(q_pre [.ref (g.2.2 2000)] hPc hDc hK hS hT hFc).1, va_recv hK hP (ci := 5) (q0 := 2) rfl rfl, (q_pre [.ref (g.2.2 2000)] hPc hDc hK hS hT hFc).2⟩ rfl rfl hl.1 rfl (lv_room (by (first | exact Nat.le_of_ble_eq_true rfl | omega | (simp only [LV, Jvm.D.headSpec]; omega)))) dX11_endTurn_35 ⟨by (first | exact Nat.le_of_ble_eq_true rfl | omega | (simp only [LV, Jvm.D.headSpec]; omega)), by (first | exact Nat.le_of_ble_eq_true rfl | omega | (simp only [LV, Jvm.D.headSpec]; omega))⟩) hP hD hS hFc [2, 0] [1, 3, 4] rfl rfl (by decide) (by decide) (fun r9 u9 H locs hw hP hD hS => ?_)
  try dsimp only at hw
  rcases hw with ⟨rfl, rfl⟩
  have hP : va_P g.1 CLS [(q_3, .inl (g.2.1 1, 0, .inl (fun _ => 0))), (mc, .inr (1, [.int v_4, .ref mca, .int (nI (k1 + 1))])), (mca, .inl (g.2.1 5, nc, .inr (.inr (.inr (.inr f_5))))), ((g.2.2 2000), .inr (5, [.ref mh, .ref mg, .ref (g.2.2 2002), .ref (g.2.2 2005), .ref mc, .ref (g.2.2 2006), .int 0, .int n1, .int n2, .int n3, .long n4, .int n5, .int n6, .int 0])), ((g.2.2 2001), .inr (3, [.int 0, .int h1, .int h2, .int h3, .ref (g.2.2 2004), .int h4, .int h5, .int h6, .int h7, .int h8, .int h9, .int h10, .int h11, .int h12]))] H := hP
  have hD : va_D A [(q_3, .inl (g.2.1 1, 0, .inl (fun _ => 0))), (mc, .inr (1, [.int v_4, .ref mca, .int (nI (k1 + 1))])), (mca, .inl (g.2.1 5, nc, .inr (.inr (.inr (.inr f_5))))), ((g.2.2 2000), .inr (5, [.ref mh, .ref mg, .ref (g.2.2 2002), .ref (g.2.2 2005), .ref mc, .ref (g.2.2 2006), .int 0, .int n1, .int n2, .int n3, .long n4, .int n5, .int n6, .int 0])), ((g.2.2 2001), .inr (3, [.int 0, .int h1, .int h2, .int h3, .ref (g.2.2 2004), .int h4, .int h5, .int h6, .int h7, .int h8, .int h9, .int h10, .int h11, .int h12]))] := hD
  refine W.widen (k := 2) (n := 2) (by (first | exact Nat.le_of_ble_eq_true rfl | omega | (simp only [LV, Jvm.D.headSpec]; omega))) (by (first | exact Nat.le_of_ble_eq_true rfl | omega | (simp only [LV, Jvm.D.headSpec]; omega))) ?_
  refine lv_astore_n (lv' := [(1, .ref (g.2.2 2001)), (0, .ref (g.2.2 2000))]) hx hb dX11_endTurn_38 rfl hl (by decide) rfl (fun ls hl => ?_)
  refine lv_aload_n hx hb dX11_endTurn_39 rfl (lv_at hl 1 rfl) ?_
  refine va_get (D := g.1) (ci := 5) (v := .ref (g.2.2 2002)) (C := RX11) (T := TX11) (N := 14) hx hb htg inG_X11 hown hK hP 3 rfl rfl 2 (by decide) (htg _ k1342) (fun _ h9 => h9) rfl dX11_endTurn_40 ?_
  have hPc := hP.sub (ws' := []) [] rfl
  have hDc := hD.sub (ws' := []) [] (by decide) rfl
  have hFc := va_free (wc := []) hD hS hA [] rfl
  refine q_cFi (wr := [(q_3, .inl (g.2.1 1, 0, .inl (fun _ => 0))), (mc, .inr (1, [.int v_4, .ref mca, .int (nI (k1 + 1))])), (mca, .inl (g.2.1 5, nc, .inr (.inr (.inr (.inr f_5))))), ((g.2.2 2000), .inr (5, [.ref mh, .ref mg, .ref (g.2.2 2002), .ref (g.2.2 2005), .ref mc, .ref (g.2.2 2006), .int 0, .int n1, .int n2, .int n3, .long n4, .int n5, .int n6, .int 0])), ((g.2.2 2001), .inr (3, [.int 0, .int h1, .int h2, .int h3, .ref (g.2.2 2004), .int h4, .int h5, .int h6, .int h7, .int h8, .int h9, .int h10, .int h11, .int h12]))]) (va_runF (As := []) (rest := []) (hK.1 1 _ rfl).2 ⟨hx, hb, hml, hown, htg⟩ (c_sizeS l hfl g   H.size) (qI5 htg k1409 k60 k1401 k1405 k1407 (hT.1.2.2.2.2.2.2.2) okx_size rfl rfl ⟨by (first | exact Nat.le_of_ble_eq_true rfl | omega | (simp only [LV, Jvm.D.headSpec]; omega)), by (first | exact Nat.le_of_ble_eq_true rfl | omega | (simp only [LV, Jvm.D.headSpec]; omega))⟩) ⟨(q_pre [.ref (g.2.2 2002)] hPc hDc hK hS hT hFc).1, va_Orecv (hT.2.2.2.2.1.1) hS, (q_pre [.ref (g.2.2 2002)] hPc hDc hK hS hT hFc).2⟩ rfl rfl hl.1 rfl (lv_room (by (first | exact Nat.le_of_ble_eq_true rfl | omega | (simp only [LV, Jvm.D.headSpec]; omega)))) dX11_endTurn_43 ⟨by (first | exact Nat.le_of_ble_eq_true rfl | omega | (simp only [LV, Jvm.D.headSpec]; omega)), by (first | exact Nat.le_of_ble_eq_true rfl | omega | (simp only [LV, Jvm.D.headSpec]; omega))⟩) hP hD hS hFc [] [0, 1, 2, 3, 4] rfl rfl (by decide) (by decide) (fun r9 u9 H locs hw hP hD hS => ?_)
  try dsimp only at hw
  rcases hw with ⟨rfl, rfl⟩
  have hP : va_P g.1 CLS [(q_3, .inl (g.2.1 1, 0, .inl (fun _ => 0))), (mc, .inr (1, [.int v_4, .ref mca, .int (nI (k1 + 1))])), (mca, .inl (g.2.1 5, nc, .inr (.inr (.inr (.inr f_5))))), ((g.2.2 2000), .inr (5, [.ref mh, .ref mg, .ref (g.2.2 2002), .ref (g.2.2 2005), .ref mc, .ref (g.2.2 2006), .int 0, .int n1, .int n2, .int n3, .long n4, .int n5, .int n6, .int 0])), ((g.2.2 2001), .inr (3, [.int 0, .int h1, .int h2, .int h3, .ref (g.2.2 2004), .int h4, .int h5, .int h6, .int h7, .int h8, .int h9, .int h10, .int h11, .int h12]))] H := hP
  have hD : va_D A [(q_3, .inl (g.2.1 1, 0, .inl (fun _ => 0))), (mc, .inr (1, [.int v_4, .ref mca, .int (nI (k1 + 1))])), (mca, .inl (g.2.1 5, nc, .inr (.inr (.inr (.inr f_5))))), ((g.2.2 2000), .inr (5, [.ref mh, .ref mg, .ref (g.2.2 2002), .ref (g.2.2 2005), .ref mc, .ref (g.2.2 2006), .int 0, .int n1, .int n2, .int n3, .long n4, .int n5, .int n6, .int 0])), ((g.2.2 2001), .inr (3, [.int 0, .int h1, .int h2, .int h3, .ref (g.2.2 2004), .int h4, .int h5, .int h6, .int h7, .int h8, .int h9, .int h10, .int h11, .int h12]))] := hD
  refine W.widen (k := 2) (n := 2) (by (first | exact Nat.le_of_ble_eq_true rfl | omega | (simp only [LV, Jvm.D.headSpec]; omega))) (by (first | exact Nat.le_of_ble_eq_true rfl | omega | (simp only [LV, Jvm.D.headSpec]; omega))) ?_
  refine lv_istore_n (lv' := [(2, .int (nI (g.2.2 2010))), (1, .ref (g.2.2 2001)), (0, .ref (g.2.2 2000))]) hx hb dX11_endTurn_48 rfl hl (by decide) rfl (fun ls hl => ?_)
  refine lv_iconst (v := 0) hx hb dX11_endTurn_49 (by decide) ?_
  refine lv_istore_n (lv' := [(3, .int 0), (2, .int (nI (g.2.2 2010))), (1, .ref (g.2.2 2001)), (0, .ref (g.2.2 2000))]) hx hb dX11_endTurn_50 rfl hl (by decide) rfl (fun ls hl => ?_)
  have hz : s.heap.size + 2 * 0 ≤ H.size := hS.1
  refine q_loopc (g.2.2 2010) 2 7 (fun i9 H locs ls => s.heap.size + 2 * i9 ≤ H.size ∧ va_P g.1 CLS [(q_3, .inl (g.2.1 1, 0, .inl (fun _ => 0))), (mc, .inr (1, [.int v_4, .ref mca, .int (nI (k1 + 1))])), (mca, .inl (g.2.1 5, nc, .inr (.inr (.inr (.inr f_5))))), ((g.2.2 2000), .inr (5, [.ref mh, .ref mg, .ref (g.2.2 2002), .ref (g.2.2 2005), .ref mc, .ref (g.2.2 2006), .int 0, .int n1, .int n2, .int n3, .long n4, .int n5, .int n6, .int 0])), ((g.2.2 2001), .inr (3, [.int 0, .int h1, .int h2, .int h3, .ref (g.2.2 2004), .int h4, .int h5, .int h6, .int h7, .int h8, .int h9, .int h10, .int h11, .int h12]))] H ∧ va_D A [(q_3, .inl (g.2.1 1, 0, .inl (fun _ => 0))), (mc, .inr (1, [.int v_4, .ref mca, .int (nI (k1 + 1))])), (mca, .inl (g.2.1 5, nc, .inr (.inr (.inr (.inr f_5))))), ((g.2.2 2000), .inr (5, [.ref mh, .ref mg, .ref (g.2.2 2002), .ref (g.2.2 2005), .ref mc, .ref (g.2.2 2006), .int 0, .int n1, .int n2, .int n3, .long n4, .int n5, .int n6, .int 0])), ((g.2.2 2001), .inr (3, [.int 0, .int h1, .int h2, .int h3, .ref (g.2.2 2004), .int h4, .int h5, .int h6, .int h7, .int h8, .int h9, .int h10, .int h11, .int h12]))] ∧ va_S A s.heap H locs ∧ lv_has ls 5 [(3, .int (nI i9)), (2, .int (nI (g.2.2 2010))), (1, .ref (g.2.2 2001)), (0, .ref (g.2.2 2000))]) (fun i9 H locs ls hk hp ih => ?_) (fun H locs ls hp => ?_) ⟨hz, hP, hD, hS, hl⟩
  · obtain ⟨hz, hP, hD, hS, hl⟩ := hp
    refine lv_iload_n hx hb dX11_endTurn_51 rfl (lv_at hl 0 rfl) ?_
    refine lv_iload_n hx hb dX11_endTurn_52 rfl (lv_at hl 1 rfl) ?_
    refine lv_icmp_ge (tgt := 138) hx hb dX11_endTurn_53 (by decide) (fun c9 => absurd c9 (nI_ge hk (Nat.lt_trans hT.2.2.2.2.2.2.2.2.1 (by decide)))) (fun c9 => ?_)
    refine lv_aload_n hx hb dX11_endTurn_56 rfl (lv_at hl 3 rfl) ?_
    refine va_get (D := g.1) (ci := 5) (v := .ref (g.2.2 2002)) (C := RX11) (T := TX11) (N := 14) hx hb htg inG_X11 hown hK hP 3 rfl rfl 2 (by decide) (htg _ k1342) (fun _ h9 => h9) rfl dX11_endTurn_57 ?_
    refine lv_iload_n hx hb dX11_endTurn_60 rfl (lv_at hl 0 rfl) ?_
    have hPc := hP.sub (ws' := []) [] rfl
    have hDc := hD.sub (ws' := []) [] (by decide) rfl
    have hFc := va_free (wc := []) hD hS hA [] rfl
    have hS9 := hS
    have hSr : va_S A H H locs := ⟨Nat.le_refl _, fun _ _ _ => rfl, hS.2.2⟩
    refine q_cFq (wr := [(q_3, .inl (g.2.1 1, 0, .inl (fun _ => 0))), (mc, .inr (1, [.int v_4, .ref mca, .int (nI (k1 + 1))])), (mca, .inl (g.2.1 5, nc, .inr (.inr (.inr (.inr f_5))))), ((g.2.2 2000), .inr (5, [.ref mh, .ref mg, .ref (g.2.2 2002), .ref (g.2.2 2005), .ref mc, .ref (g.2.2 2006), .int 0, .int n1, .int n2, .int n3, .long n4, .int n5, .int n6, .int 0])), ((g.2.2 2001), .inr (3, [.int 0, .int h1, .int h2, .int h3, .ref (g.2.2 2004), .int h4, .int h5, .int h6, .int h7, .int h8, .int h9, .int h10, .int h11, .int h12]))]) (va_runF (As := [.int (nI i9)]) (rest := []) (hK.1 1 _ rfl).2 ⟨hx, hb, hml, hown, htg⟩ (c_get_k l hfl g i9 (hk) H.size) (qI5 htg k1652 k60 k1645 k1648 k1650 (hT.1.2.2.2.2.2.2.1) okx_get rfl rfl ⟨by (first | exact Nat.le_of_ble_eq_true rfl | omega | (simp only [LV, Jvm.D.headSpec]; omega)), by (first | exact Nat.le_of_ble_eq_true rfl | omega | (simp only [LV, Jvm.D.headSpec]; omega))⟩) ⟨(q_pre [.ref (g.2.2 2002), .int (nI i9)] hPc hDc hK hS hT hFc).1, va_Orecv (hT.2.2.2.2.1.1) hS, (q_pre [.ref (g.2.2 2002), .int (nI i9)] hPc hDc hK hS hT hFc).2⟩ rfl rfl hl.1 rfl (lv_room (by (first | exact Nat.le_of_ble_eq_true rfl | omega | (simp only [LV, Jvm.D.headSpec]; omega)))) dX11_endTurn_61 ⟨by (first | exact Nat.le_of_ble_eq_true rfl | omega | (simp only [LV, Jvm.D.headSpec]; omega)), by (first | exact Nat.le_of_ble_eq_true rfl | omega | (simp only [LV, Jvm.D.headSpec]; omega))⟩) hP hD hSr hFc [] [0, 1, 2, 3, 4] rfl rfl (by decide) (by decide) (fun r9 u9 H locs hw hP hD hS8 => ?_)
    have hz := Nat.le_trans hz hS8.1
    have hS := q_Str hS9 hS8
    try dsimp only at hw
    rcases hw with ⟨rfl, rfl⟩
    have hP : va_P g.1 CLS [(q_3, .inl (g.2.1 1, 0, .inl (fun _ => 0))), (mc, .inr (1, [.int v_4, .ref mca, .int (nI (k1 + 1))])), (mca, .inl (g.2.1 5, nc, .inr (.inr (.inr (.inr f_5))))), ((g.2.2 2000), .inr (5, [.ref mh, .ref mg, .ref (g.2.2 2002), .ref (g.2.2 2005), .ref mc, .ref (g.2.2 2006), .int 0, .int n1, .int n2, .int n3, .long n4, .int n5, .int n6, .int 0])), ((g.2.2 2001), .inr (3, [.int 0, .int h1, .int h2, .int h3, .ref (g.2.2 2004), .int h4, .int h5, .int h6, .int h7, .int h8, .int h9, .int h10, .int h11, .int h12]))] H := hP
    have hD : va_D A [(q_3, .inl (g.2.1 1, 0, .inl (fun _ => 0))), (mc, .inr (1, [.int v_4, .ref mca, .int (nI (k1 + 1))])), (mca, .inl (g.2.1 5, nc, .inr (.inr (.inr (.inr f_5))))), ((g.2.2 2000), .inr (5, [.ref mh, .ref mg, .ref (g.2.2 2002), .ref (g.2.2 2005), .ref mc, .ref (g.2.2 2006), .int 0, .int n1, .int n2, .int n3, .long n4, .int n5, .int n6, .int 0])), ((g.2.2 2001), .inr (3, [.int 0, .int h1, .int h2, .int h3, .ref (g.2.2 2004), .int h4, .int h5, .int h6, .int h7, .int h8, .int h9, .int h10, .int h11, .int h12]))] := hD
    refine W.widen (k := (2 + 2 * i9)) (n := (2 + 7 * i9)) (by (first | exact Nat.le_of_ble_eq_true rfl | omega | (simp only [LV, Jvm.D.headSpec]; omega))) (by (first | exact Nat.le_of_ble_eq_true rfl | omega | (simp only [LV, Jvm.D.headSpec]; omega))) ?_
    refine va_castE hx hb hown (htg _ k1673) (va_Orecv ((hT.2.2.2.2.2.2.1 i9 hk).2.1) hS) dX11_endTurn_66 ?_
    refine lv_astore (lv' := [(4, .ref (g.2.2 (3000 + i9))), (3, .int (nI i9)), (2, .int (nI (g.2.2 2010))), (1, .ref (g.2.2 2001)), (0, .ref (g.2.2 2000))]) hx hb dX11_endTurn_69 hl (by decide) rfl (fun ls hl => ?_)
    refine lv_aload hx hb dX11_endTurn_71 (lv_at hl 0 rfl) ?_
    refine q_getfN (v := .int 1) hx hb ((hT.2.2.2.2.2.2.1 i9 hk).2.2.1) hS hown (va_Nw.use rfl (hT.1.1 _ (List.mem_of_getElem? (i := 24) rfl))) (fun _ h9 => h9) dX11_endTurn_73 ?_
    refine lv_if_eq (tgt := 132) hx hb dX11_endTurn_76 (by decide) (fun c_6 => absurd c_6 (by decide)) (fun c_6 => ?_)
    refine lv_aload hx hb dX11_endTurn_79 (lv_at hl 0 rfl) ?_
    refine q_getfN (v := .int 0) hx hb ((hT.2.2.2.2.2.2.1 i9 hk).2.2.2.1) hS hown (va_Nw.use rfl (hT.1.1 _ (List.mem_of_getElem? (i := 17) rfl))) (fun _ h9 => h9) dX11_endTurn_81 ?_
    refine lv_aload_n hx hb dX11_endTurn_84 rfl (lv_at hl 3 rfl) ?_
    refine va_getN (D := g.1) (ci := 3) (v := .int 0) (C := RX9) (T := TX9) (N := 14) hx hb htg inG_X9 hown hK hP 4 rfl rfl 0 (by decide) (va_Nw.use rfl (hT.1.1 _ (List.mem_of_getElem? (i := 3) rfl))) (fun _ h9 => h9) rfl dX11_endTurn_85 ?_
    refine lv_icmp_ne (tgt := 132) hx hb dX11_endTurn_88 (by decide) (fun c_7 => absurd (by decide) c_7) (fun c_7 => ?_)
    refine lv_aload hx hb dX11_endTurn_91 (lv_at hl 0 rfl) ?_
    refine q_getfN (v := .int 99) hx hb ((hT.2.2.2.2.2.2.1 i9 hk).2.2.2.2.2.1) hS hown (va_Nw.use rfl (hT.1.1 _ (List.mem_of_getElem? (i := 19) rfl))) (fun _ h9 => h9) dX11_endTurn_93 ?_
    refine lv_bipush (v := 99) hx hb dX11_endTurn_96 (by decide) ?_
    refine lv_icmp_ne (tgt := 132) hx hb dX11_endTurn_98 (by decide) (fun c_8 => absurd (by decide) c_8) (fun c_8 => ?_)
    refine lv_aload hx hb dX11_endTurn_101 (lv_at hl 0 rfl) ?_
    refine q_getfN (v := .int 30) hx hb ((hT.2.2.2.2.2.2.1 i9 hk).2.2.2.2.2.2.1) hS hown (va_Nw.use rfl (hT.1.1 _ (List.mem_of_getElem? (i := 20) rfl))) (fun _ h9 => h9) dX11_endTurn_103 ?_
    refine lv_if_le (tgt := 132) hx hb dX11_endTurn_106 (by decide) (fun c_9 => absurd c_9 (by decide)) (fun c_9 => ?_)
    refine lv_aload hx hb dX11_endTurn_109 (lv_at hl 0 rfl) ?_
    refine lv_aload_n hx hb dX11_endTurn_111 rfl (lv_at hl 4 rfl) ?_
    refine lv_aload_n hx hb dX11_endTurn_112 rfl (lv_at hl 3 rfl) ?_
    have hPc := hP.sub (ws' := []) [] rfl
    have hDc := hD.sub (ws' := []) [] (by decide) rfl
    have hFc := va_free (wc := []) hD hS hA [] rfl
    have hz0 := hz
    refine q_ciZ (wr := [(q_3, .inl (g.2.1 1, 0, .inl (fun _ => 0))), (mc, .inr (1, [.int v_4, .ref mca, .int (nI (k1 + 1))])), (mca, .inl (g.2.1 5, nc, .inr (.inr (.inr (.inr f_5))))), ((g.2.2 2000), .inr (5, [.ref mh, .ref mg, .ref (g.2.2 2002), .ref (g.2.2 2005), .ref mc, .ref (g.2.2 2006), .int 0, .int n1, .int n2, .int n3, .long n4, .int n5, .int n6, .int 0])), ((g.2.2 2001), .inr (3, [.int 0, .int h1, .int h2, .int h3, .ref (g.2.2 2004), .int h4, .int h5, .int h6, .int h7, .int h8, .int h9, .int h10, .int h11, .int h12]))]) (va_runV (As := [.ref (g.2.2 2001)]) (rest := [.ref (g.2.2 (3000 + i9))]) ⟨hx, hb, hml, hown, htg⟩ (c_check l hfl g   H.size) ⟨(qB htg k2113 k57 k2110 ok_X11_check rfl rfl ⟨by (first | exact Nat.le_of_ble_eq_true rfl | omega | (simp only [LV, Jvm.D.headSpec]; omega)), by (first | exact Nat.le_of_ble_eq_true rfl | omega | (simp only [LV, Jvm.D.headSpec]; omega))⟩), htg _ k2112, htg _ k35⟩ ⟨(q_preab [.ref (g.2.2 2000), .ref (g.2.2 2001)] htg hP hK hS hT hA 3 4 rfl rfl rfl rfl rfl rfl).1, va_recv hK hP (ci := 5) (q0 := 3) rfl rfl, (q_preab [.ref (g.2.2 2000), .ref (g.2.2 2001)] htg hP hK hS hT hA 3 4 rfl rfl rfl rfl rfl rfl).2⟩ rfl rfl hl.1 rfl (lv_room (by (first | exact Nat.le_of_ble_eq_true rfl | omega | (simp only [LV, Jvm.D.headSpec]; omega)))) dX11_endTurn_113 ⟨by (first | exact Nat.le_of_ble_eq_true rfl | omega | (simp only [LV, Jvm.D.headSpec]; omega)), by (first | exact Nat.le_of_ble_eq_true rfl | omega | (simp only [LV, Jvm.D.headSpec]; omega))⟩) hP hD hS hFc [] [0, 1, 2, 3, 4] rfl rfl (by decide) (by decide) (fun r9 u9 H locs hZ hw hP hD hS => ?_)
    have hz := Nat.le_trans (Nat.add_le_add_right hz0 2) hZ
    try dsimp only at hw
    rcases hw with ⟨rfl, rfl⟩
    have hP : va_P g.1 CLS [(q_3, .inl (g.2.1 1, 0, .inl (fun _ => 0))), (mc, .inr (1, [.int v_4, .ref mca, .int (nI (k1 + 1))])), (mca, .inl (g.2.1 5, nc, .inr (.inr (.inr (.inr f_5))))), ((g.2.2 2000), .inr (5, [.ref mh, .ref mg, .ref (g.2.2 2002), .ref (g.2.2 2005), .ref mc, .ref (g.2.2 2006), .int 0, .int n1, .int n2, .int n3, .long n4, .int n5, .int n6, .int 0])), ((g.2.2 2001), .inr (3, [.int 0, .int h1, .int h2, .int h3, .ref (g.2.2 2004), .int h4, .int h5, .int h6, .int h7, .int h8, .int h9, .int h10, .int h11, .int h12]))] H := hP
    have hD : va_D A [(q_3, .inl (g.2.1 1, 0, .inl (fun _ => 0))), (mc, .inr (1, [.int v_4, .ref mca, .int (nI (k1 + 1))])), (mca, .inl (g.2.1 5, nc, .inr (.inr (.inr (.inr f_5))))), ((g.2.2 2000), .inr (5, [.ref mh, .ref mg, .ref (g.2.2 2002), .ref (g.2.2 2005), .ref mc, .ref (g.2.2 2006), .int 0, .int n1, .int n2, .int n3, .long n4, .int n5, .int n6, .int 0])), ((g.2.2 2001), .inr (3, [.int 0, .int h1, .int h2, .int h3, .ref (g.2.2 2004), .int h4, .int h5, .int h6, .int h7, .int h8, .int h9, .int h10, .int h11, .int h12]))] := hD
    refine W.widen (k := (4 + 2 * i9)) (n := (9 + 7 * i9)) (by (first | exact Nat.le_of_ble_eq_true rfl | omega | (simp only [LV, Jvm.D.headSpec]; omega))) (by (first | exact Nat.le_of_ble_eq_true rfl | omega | (simp only [LV, Jvm.D.headSpec]; omega))) ?_
    refine lv_aload hx hb dX11_endTurn_116 (lv_at hl 0 rfl) ?_
    refine q_getfN (v := .int 30) hx hb ((hT.2.2.2.2.2.2.1 i9 hk).2.2.2.2.2.2.1) hS hown (va_Nw.use rfl (hT.1.1 _ (List.mem_of_getElem? (i := 20) rfl))) (fun _ h9 => h9) dX11_endTurn_118 ?_
    refine lv_icmp_ge (tgt := 128) hx hb dX11_endTurn_121 (by decide) (fun c_10 => absurd c_10 (by decide)) (fun c_10 => ?_)
    refine lv_iconst (v := 1) hx hb dX11_endTurn_124 (by decide) ?_
    refine lv_goto (tgt := 129) hx hb dX11_endTurn_125 (by decide) ?_
    refine q_putSame (ci := 4) (v := .int 1) (ty := .boolean) (C := RX10) (T := TX10) (N := 10) hx hb htg inG_X10 hown hK hS ((hT.2.2.2.2.2.2.1 i9 hk).1.1) ((hT.2.2.2.2.2.2.1 i9 hk).1.2) rfl 7 (by decide) (va_Nw.use rfl (hT.1.1 _ (List.mem_of_getElem? (i := 24) rfl))) (fun _ h9 => h9) rfl (by decide +kernel) rfl rfl rfl dX11_endTurn_129 ?_
    refine lv_iinc (v := nI (i9 + 1)) (lv' := [(3, .int (nI (i9 + 1))), (4, .ref (g.2.2 (3000 + i9))), (2, .int (nI (g.2.2 2010))), (1, .ref (g.2.2 2001)), (0, .ref (g.2.2 2000))]) hx hb dX11_endTurn_132 hl (k := 1) rfl (nI_1 i9) (by decide) rfl (fun ls hl => ?_)
    refine lv_goto (tgt := 51) hx hb dX11_endTurn_135 (by decide) ?_
    refine W.widen (k := 2 + 2 * (i9 + 1)) (n := 2 + 7 * (i9 + 1)) (by omega) (by omega) ?_
    exact ih H locs ls ⟨by omega, hP, hD, hS, lv_sub hl [0, 2, 3, 4] rfl⟩
  · obtain ⟨hz, hP, hD, hS, hl⟩ := hp
    refine lv_iload_n hx hb dX11_endTurn_51 rfl (lv_at hl 0 rfl) ?_
    refine lv_iload_n hx hb dX11_endTurn_52 rfl (lv_at hl 1 rfl) ?_
    refine lv_icmp_ge (tgt := 138) hx hb dX11_endTurn_53 (by decide) (fun c9 => ?_) (fun c9 => absurd (Int32.le_refl _) c9)
    refine lv_aload_n hx hb dX11_endTurn_138 rfl (lv_at hl 3 rfl) ?_
    refine lv_dup hx hb dX11_endTurn_139 rfl ?_
    refine va_get (D := g.1) (ci := 5) (v := .int 0) (C := RX11) (T := TX11) (N := 14) hx hb htg inG_X11 hown hK hP 3 rfl rfl 6 (by decide) (htg _ k1346) (fun _ h9 => h9) rfl dX11_endTurn_140 ?_
    refine lv_iconst (v := 1) hx hb dX11_endTurn_143 (by decide) ?_
    refine lv_iadd hx hb dX11_endTurn_144 ?_
    refine lv_topi (fun x_11 ex_11 => ?_)
    obtain rfl : x_11 = 1 := ex_11.trans (by decide)
    have hS9 := hS
    have hSr : va_S A H H locs := ⟨Nat.le_refl _, fun _ _ _ => rfl, hS.2.2⟩
    refine va_put (D := g.1) (ci := 5) (v := .int 1) (ty := .int) (C := RX11) (T := TX11) (N := 14) hx hb htg inG_X11 tyX11 tyX11_ok nmX11 hown hK hP hD hSr 3 rfl rfl 6 (by decide) (htg _ k1346) (fun _ h9 => h9) rfl (by decide +kernel) rfl rfl (by (first | exact Nat.le_of_ble_eq_true rfl | omega | (simp only [LV, Jvm.D.headSpec]; omega))) dX11_endTurn_145 (fun H locs hP hD hS8 => ?_)
    have hz := Nat.le_trans hz hS8.1
    have hS := q_Str hS9 hS8
    have hP : va_P g.1 CLS [(q_3, .inl (g.2.1 1, 0, .inl (fun _ => 0))), (mc, .inr (1, [.int v_4, .ref mca, .int (nI (k1 + 1))])), (mca, .inl (g.2.1 5, nc, .inr (.inr (.inr (.inr f_5))))), ((g.2.2 2000), .inr (5, [.ref mh, .ref mg, .ref (g.2.2 2002), .ref (g.2.2 2005), .ref mc, .ref (g.2.2 2006), .int 1, .int n1, .int n2, .int n3, .long n4, .int n5, .int n6, .int 0])), ((g.2.2 2001), .inr (3, [.int 0, .int h1, .int h2, .int h3, .ref (g.2.2 2004), .int h4, .int h5, .int h6, .int h7, .int h8, .int h9, .int h10, .int h11, .int h12]))] H := hP
    have hD : va_D A [(q_3, .inl (g.2.1 1, 0, .inl (fun _ => 0))), (mc, .inr (1, [.int v_4, .ref mca, .int (nI (k1 + 1))])), (mca, .inl (g.2.1 5, nc, .inr (.inr (.inr (.inr f_5))))), ((g.2.2 2000), .inr (5, [.ref mh, .ref mg, .ref (g.2.2 2002), .ref (g.2.2 2005), .ref mc, .ref (g.2.2 2006), .int 1, .int n1, .int n2, .int n3, .long n4, .int n5, .int n6, .int 0])), ((g.2.2 2001), .inr (3, [.int 0, .int h1, .int h2, .int h3, .ref (g.2.2 2004), .int h4, .int h5, .int h6, .int h7, .int h8, .int h9, .int h10, .int h11, .int h12]))] := hD
    refine lv_aload_n hx hb dX11_endTurn_148 rfl (lv_at hl 3 rfl) ?_
    refine va_get (D := g.1) (ci := 5) (v := .int 1) (C := RX11) (T := TX11) (N := 14) hx hb htg inG_X11 hown hK hP 3 rfl rfl 6 (by decide) (htg _ k1346) (fun _ h9 => h9) rfl dX11_endTurn_149 ?_
    refine lv_aload_n hx hb dX11_endTurn_152 rfl (lv_at hl 3 rfl) ?_
    refine va_get (D := g.1) (ci := 5) (v := .ref (g.2.2 2006)) (C := RX11) (T := TX11) (N := 14) hx hb htg inG_X11 hown hK hP 3 rfl rfl 5 (by decide) (htg _ k1345) (fun _ h9 => h9) rfl dX11_endTurn_153 ?_
    have hPc := hP.sub (ws' := []) [] rfl
    have hDc := hD.sub (ws' := []) [] (by decide) rfl
    have hFc := va_free (wc := []) hD hS hA [] rfl
    have hS9 := hS
    have hSr : va_S A H H locs := ⟨Nat.le_refl _, fun _ _ _ => rfl, hS.2.2⟩
    refine q_cFi (wr := [(q_3, .inl (g.2.1 1, 0, .inl (fun _ => 0))), (mc, .inr (1, [.int v_4, .ref mca, .int (nI (k1 + 1))])), (mca, .inl (g.2.1 5, nc, .inr (.inr (.inr (.inr f_5))))), ((g.2.2 2000), .inr (5, [.ref mh, .ref mg, .ref (g.2.2 2002), .ref (g.2.2 2005), .ref mc, .ref (g.2.2 2006), .int 1, .int n1, .int n2, .int n3, .long n4, .int n5, .int n6, .int 0])), ((g.2.2 2001), .inr (3, [.int 0, .int h1, .int h2, .int h3, .ref (g.2.2 2004), .int h4, .int h5, .int h6, .int h7, .int h8, .int h9, .int h10, .int h11, .int h12]))]) (va_runF (As := []) (rest := [.int 1]) (hK.1 1 _ rfl).2 ⟨hx, hb, hml, hown, htg⟩ (c_sizeO l hfl g   H.size) (qI5 htg k1409 k60 k1401 k1405 k1407 (hT.1.2.2.2.2.2.2.2) okx_size rfl rfl ⟨by (first | exact Nat.le_of_ble_eq_true rfl | omega | (simp only [LV, Jvm.D.headSpec]; omega)), by (first | exact Nat.le_of_ble_eq_true rfl | omega | (simp only [LV, Jvm.D.headSpec]; omega))⟩) ⟨(q_pre [.ref (g.2.2 2006)] hPc hDc hK hS hT hFc).1, va_Orecv (hT.2.2.2.2.2.1.1) hS, (q_pre [.ref (g.2.2 2006)] hPc hDc hK hS hT hFc).2⟩ rfl rfl hl.1 rfl (lv_room (by (first | exact Nat.le_of_ble_eq_true rfl | omega | (simp only [LV, Jvm.D.headSpec]; omega)))) dX11_endTurn_156 ⟨by (first | exact Nat.le_of_ble_eq_true rfl | omega | (simp only [LV, Jvm.D.headSpec]; omega)), by (first | exact Nat.le_of_ble_eq_true rfl | omega | (simp only [LV, Jvm.D.headSpec]; omega))⟩) hP hD hSr hFc [] [0, 1, 2, 3, 4] rfl rfl (by decide) (by decide) (fun r9 u9 H locs hw hP hD hS8 => ?_)
    have hz := Nat.le_trans hz hS8.1
    have hS := q_Str hS9 hS8
    try dsimp only at hw
    rcases hw with ⟨rfl, rfl⟩
    have hP : va_P g.1 CLS [(q_3, .inl (g.2.1 1, 0, .inl (fun _ => 0))), (mc, .inr (1, [.int v_4, .ref mca, .int (nI (k1 + 1))])), (mca, .inl (g.2.1 5, nc, .inr (.inr (.inr (.inr f_5))))), ((g.2.2 2000), .inr (5, [.ref mh, .ref mg, .ref (g.2.2 2002), .ref (g.2.2 2005), .ref mc, .ref (g.2.2 2006), .int 1, .int n1, .int n2, .int n3, .long n4, .int n5, .int n6, .int 0])), ((g.2.2 2001), .inr (3, [.int 0, .int h1, .int h2, .int h3, .ref (g.2.2 2004), .int h4, .int h5, .int h6, .int h7, .int h8, .int h9, .int h10, .int h11, .int h12]))] H := hP
    have hD : va_D A [(q_3, .inl (g.2.1 1, 0, .inl (fun _ => 0))), (mc, .inr (1, [.int v_4, .ref mca, .int (nI (k1 + 1))])), (mca, .inl (g.2.1 5, nc, .inr (.inr (.inr (.inr f_5))))), ((g.2.2 2000), .inr (5, [.ref mh, .ref mg, .ref (g.2.2 2002), .ref (g.2.2 2005), .ref mc, .ref (g.2.2 2006), .int 1, .int n1, .int n2, .int n3, .long n4, .int n5, .int n6, .int 0])), ((g.2.2 2001), .inr (3, [.int 0, .int h1, .int h2, .int h3, .ref (g.2.2 2004), .int h4, .int h5, .int h6, .int h7, .int h8, .int h9, .int h10, .int h11, .int h12]))] := hD
    refine W.widen (k := (2 + 2 * g.2.2 2010)) (n := (2 + 7 * g.2.2 2010)) (by (first | exact Nat.le_of_ble_eq_true rfl | omega | (simp only [LV, Jvm.D.headSpec]; omega))) (by (first | exact Nat.le_of_ble_eq_true rfl | omega | (simp only [LV, Jvm.D.headSpec]; omega))) ?_
    refine lv_icmp_ne (tgt := 179) hx hb dX11_endTurn_161 (by decide) (fun c_12 => absurd (by decide) c_12) (fun c_12 => ?_)
    refine lv_aload_n hx hb dX11_endTurn_164 rfl (lv_at hl 3 rfl) ?_
    refine lv_iconst (v := 0) hx hb dX11_endTurn_165 (by decide) ?_
    have hS9 := hS
    have hSr : va_S A H H locs := ⟨Nat.le_refl _, fun _ _ _ => rfl, hS.2.2⟩
    refine va_put (D := g.1) (ci := 5) (v := .int 0) (ty := .int) (C := RX11) (T := TX11) (N := 14) hx hb htg inG_X11 tyX11 tyX11_ok nmX11 hown hK hP hD hSr 3 rfl rfl 6 (by decide) (htg _ k1346) (fun _ h9 => h9) rfl (by decide +kernel) rfl rfl (by (first | exact Nat.le_of_ble_eq_true rfl | omega | (simp only [LV, Jvm.D.headSpec]; omega))) dX11_endTurn_166 (fun H locs hP hD hS8 => ?_)
    have hz := Nat.le_trans hz hS8.1
    have hS := q_Str hS9 hS8
    have hP : va_P g.1 CLS [(q_3, .inl (g.2.1 1, 0, .inl (fun _ => 0))), (mc, .inr (1, [.int v_4, .ref mca, .int (nI (k1 + 1))])), (mca, .inl (g.2.1 5, nc, .inr (.inr (.inr (.inr f_5))))), ((g.2.2 2000), .inr (5, [.ref mh, .ref mg, .ref (g.2.2 2002), .ref (g.2.2 2005), .ref mc, .ref (g.2.2 2006), .int 0, .int n1, .int n2, .int n3, .long n4, .int n5, .int n6, .int 0])), ((g.2.2 2001), .inr (3, [.int 0, .int h1, .int h2, .int h3, .ref (g.2.2 2004), .int h4, .int h5, .int h6, .int h7, .int h8, .int h9, .int h10, .int h11, .int h12]))] H := hP
    have hD : va_D A [(q_3, .inl (g.2.1 1, 0, .inl (fun _ => 0))), (mc, .inr (1, [.int v_4, .ref mca, .int (nI (k1 + 1))])), (mca, .inl (g.2.1 5, nc, .inr (.inr (.inr (.inr f_5))))), ((g.2.2 2000), .inr (5, [.ref mh, .ref mg, .ref (g.2.2 2002), .ref (g.2.2 2005), .ref mc, .ref (g.2.2 2006), .int 0, .int n1, .int n2, .int n3, .long n4, .int n5, .int n6, .int 0])), ((g.2.2 2001), .inr (3, [.int 0, .int h1, .int h2, .int h3, .ref (g.2.2 2004), .int h4, .int h5, .int h6, .int h7, .int h8, .int h9, .int h10, .int h11, .int h12]))] := hD
    refine lv_aload_n hx hb dX11_endTurn_169 rfl (lv_at hl 3 rfl) ?_
    refine lv_dup hx hb dX11_endTurn_170 rfl ?_
    refine va_get (D := g.1) (ci := 5) (v := .int n1) (C := RX11) (T := TX11) (N := 14) hx hb htg inG_X11 hown hK hP 3 rfl rfl 7 (by decide) (htg _ k1347) (fun _ h9 => h9) rfl dX11_endTurn_171 ?_
    refine lv_iconst (v := 1) hx hb dX11_endTurn_174 (by decide) ?_
    refine lv_iadd hx hb dX11_endTurn_175 ?_
    refine lv_topi (fun x_13 ex_13 => ?_)
    have hS9 := hS
    have hSr : va_S A H H locs := ⟨Nat.le_refl _, fun _ _ _ => rfl, hS.2.2⟩
    refine va_put (D := g.1) (ci := 5) (v := .int x_13) (ty := .int) (C := RX11) (T := TX11) (N := 14) hx hb htg inG_X11 tyX11 tyX11_ok nmX11 hown hK hP hD hSr 3 rfl rfl 7 (by decide) (htg _ k1347) (fun _ h9 => h9) rfl (by decide +kernel) rfl rfl (by (first | exact Nat.le_of_ble_eq_true rfl | omega | (simp only [LV, Jvm.D.headSpec]; omega))) dX11_endTurn_176 (fun H locs hP hD hS8 => ?_)
    have hz := Nat.le_trans hz hS8.1
    have hS := q_Str hS9 hS8
    have hP : va_P g.1 CLS [(q_3, .inl (g.2.1 1, 0, .inl (fun _ => 0))), (mc, .inr (1, [.int v_4, .ref mca, .int (nI (k1 + 1))])), (mca, .inl (g.2.1 5, nc, .inr (.inr (.inr (.inr f_5))))), ((g.2.2 2000), .inr (5, [.ref mh, .ref mg, .ref (g.2.2 2002), .ref (g.2.2 2005), .ref mc, .ref (g.2.2 2006), .int 0, .int x_13, .int n2, .int n3, .long n4, .int n5, .int n6, .int 0])), ((g.2.2 2001), .inr (3, [.int 0, .int h1, .int h2, .int h3, .ref (g.2.2 2004), .int h4, .int h5, .int h6, .int h7, .int h8, .int h9, .int h10, .int h11, .int h12]))] H := hP
    have hD : va_D A [(q_3, .inl (g.2.1 1, 0, .inl (fun _ => 0))), (mc, .inr (1, [.int v_4, .ref mca, .int (nI (k1 + 1))])), (mca, .inl (g.2.1 5, nc, .inr (.inr (.inr (.inr f_5))))), ((g.2.2 2000), .inr (5, [.ref mh, .ref mg, .ref (g.2.2 2002), .ref (g.2.2 2005), .ref mc, .ref (g.2.2 2006), .int 0, .int x_13, .int n2, .int n3, .long n4, .int n5, .int n6, .int 0])), ((g.2.2 2001), .inr (3, [.int 0, .int h1, .int h2, .int h3, .ref (g.2.2 2004), .int h4, .int h5, .int h6, .int h7, .int h8, .int h9, .int h10, .int h11, .int h12]))] := hD
    refine lv_aload_n hx hb dX11_endTurn_179 rfl (lv_at hl 3 rfl) ?_
    have hPc := hP.sub (ws' := [((g.2.2 2000), .inr (5, [.ref mh, .ref mg, .ref (g.2.2 2002), .ref (g.2.2 2005), .ref mc, .ref (g.2.2 2006), .int 0, .int x_13, .int n2, .int n3, .long n4, .int n5, .int n6, .int 0])), ((g.2.2 2001), .inr (3, [.int 0, .int h1, .int h2, .int h3, .ref (g.2.2 2004), .int h4, .int h5, .int h6, .int h7, .int h8, .int h9, .int h10, .int h11, .int h12]))]) [3, 4] rfl
    have hDc := hD.sub (ws' := [((g.2.2 2000), .inr (5, [.ref mh, .ref mg, .ref (g.2.2 2002), .ref (g.2.2 2005), .ref mc, .ref (g.2.2 2006), .int 0, .int x_13, .int n2, .int n3, .long n4, .int n5, .int n6, .int 0])), ((g.2.2 2001), .inr (3, [.int 0, .int h1, .int h2, .int h3, .ref (g.2.2 2004), .int h4, .int h5, .int h6, .int h7, .int h8, .int h9, .int h10, .int h11, .int h12]))]) [3, 4] (by decide) rfl
    have hFc := va_free (wc := [((g.2.2 2000), .inr (5, [.ref mh, .ref mg, .ref (g.2.2 2002), .ref (g.2.2 2005), .ref mc, .ref (g.2.2 2006), .int 0, .int x_13, .int n2, .int n3, .long n4, .int n5, .int n6, .int 0])), ((g.2.2 2001), .inr (3, [.int 0, .int h1, .int h2, .int h3, .ref (g.2.2 2004), .int h4, .int h5, .int h6, .int h7, .int h8, .int h9, .int h10, .int h11, .int h12]))]) hD hS hA [3, 4] rfl
    have hz0 := hz
    refine q_ciZ (wr := [(q_3, .inl (g.2.1 1, 0, .inl (fun _ => 0))), (mc, .inr (1, [.int v_4, .ref mca, .int (nI (k1 + 1))])), (mca, .inl (g.2.1 5, nc, .inr (.inr (.inr (.inr f_5)))))]) (va_runV (As := []) (rest := []) ⟨hx, hb, hml, hown, htg⟩ (c_beginTurn l hfl g mh mg mc x_13 n2 n3 n4 n5 n6 0 h1 h2 h3 h4 h5 h6 h7 h8 h9 h10 h11 h12  H.size) ⟨(qB htg k2101 k57 k2098 ok_X11_beginTurn rfl rfl ⟨by (first | exact Nat.le_of_ble_eq_true rfl | omega | (simp only [LV, Jvm.D.headSpec]; omega)), by (first | exact Nat.le_of_ble_eq_true rfl | omega | (simp only [LV, Jvm.D.headSpec]; omega))⟩), htg _ k2100, htg _ k33⟩ ⟨(q_pre [.ref (g.2.2 2000)] hPc hDc hK hS hT hFc).1, va_recv hK hP (ci := 5) (q0 := 3) rfl rfl, (q_pre [.ref (g.2.2 2000)] hPc hDc hK hS hT hFc).2⟩ rfl rfl hl.1 rfl (lv_room (by (first | exact Nat.le_of_ble_eq_true rfl | omega | (simp only [LV, Jvm.D.headSpec]; omega)))) dX11_endTurn_180 ⟨by (first | exact Nat.le_of_ble_eq_true rfl | omega | (simp only [LV, Jvm.D.headSpec]; omega)), by (first | exact Nat.le_of_ble_eq_true rfl | omega | (simp only [LV, Jvm.D.headSpec]; omega))⟩) hP hD hS hFc [3, 4] [0, 1, 2] rfl rfl (by decide) (by decide) (fun r9 u9 H locs hZ hw hP hD hS => ?_)
    have hz := Nat.le_trans (Nat.add_le_add_right hz0 3) hZ
    try dsimp only at hw
    rcases hw with ⟨rfl, rfl⟩
    have hP : va_P g.1 CLS [(q_3, .inl (g.2.1 1, 0, .inl (fun _ => 0))), (mc, .inr (1, [.int v_4, .ref mca, .int (nI (k1 + 1))])), (mca, .inl (g.2.1 5, nc, .inr (.inr (.inr (.inr f_5))))), ((g.2.2 2000), .inr (5, [.ref mh, .ref mg, .ref (g.2.2 2002), .ref (g.2.2 2005), .ref mc, .ref (g.2.2 2006), .int 0, .int x_13, .int 4, .int 1, .long n4, .int n5, .int n6, .int 0])), ((g.2.2 2001), .inr (3, [.int 0, .int h1, .int h2, .int h3, .ref (g.2.2 2004), .int h4, .int h5, .int h6, .int h7, .int h8, .int h9, .int 1, .int 32, .int h12]))] H := hP
    have hD : va_D A [(q_3, .inl (g.2.1 1, 0, .inl (fun _ => 0))), (mc, .inr (1, [.int v_4, .ref mca, .int (nI (k1 + 1))])), (mca, .inl (g.2.1 5, nc, .inr (.inr (.inr (.inr f_5))))), ((g.2.2 2000), .inr (5, [.ref mh, .ref mg, .ref (g.2.2 2002), .ref (g.2.2 2005), .ref mc, .ref (g.2.2 2006), .int 0, .int x_13, .int 4, .int 1, .long n4, .int n5, .int n6, .int 0])), ((g.2.2 2001), .inr (3, [.int 0, .int h1, .int h2, .int h3, .ref (g.2.2 2004), .int h4, .int h5, .int h6, .int h7, .int h8, .int h9, .int 1, .int 32, .int h12]))] := hD
    refine W.widen (k := (5 + 2 * g.2.2 2010)) (n := (13 + 7 * g.2.2 2010)) (by (first | exact Nat.le_of_ble_eq_true rfl | omega | (simp only [LV, Jvm.D.headSpec]; omega))) (by (first | exact Nat.le_of_ble_eq_true rfl | omega | (simp only [LV, Jvm.D.headSpec]; omega))) ?_
    have hz : s.heap.size + (2 * (g.2.2 2010) + 3) ≤ H.size := by omega
    have hP9 := hP.sub (ws' := [((g.2.2 2000), .inr (5, [.ref mh, .ref mg, .ref (g.2.2 2002), .ref (g.2.2 2005), .ref mc, .ref (g.2.2 2006), .int 0, .int x_13, .int 4, .int 1, .long n4, .int n5, .int n6, .int 0])), ((g.2.2 2001), .inr (3, [.int 0, .int h1, .int h2, .int h3, .ref (g.2.2 2004), .int h4, .int h5, .int h6, .int h7, .int h8, .int h9, .int 1, .int 32, .int h12])), (mc, .inr (1, [.int v_4, .ref mca, .int (nI (k1 + 1))])), (mca, .inl (g.2.1 5, nc, .inr (.inr (.inr (.inr f_5)))))]) [3, 4, 1, 2] rfl
    have hD9 := hD.sub (ws' := [((g.2.2 2000), .inr (5, [.ref mh, .ref mg, .ref (g.2.2 2002), .ref (g.2.2 2005), .ref mc, .ref (g.2.2 2006), .int 0, .int x_13, .int 4, .int 1, .long n4, .int n5, .int n6, .int 0])), ((g.2.2 2001), .inr (3, [.int 0, .int h1, .int h2, .int h3, .ref (g.2.2 2004), .int h4, .int h5, .int h6, .int h7, .int h8, .int h9, .int 1, .int 32, .int h12])), (mc, .inr (1, [.int v_4, .ref mca, .int (nI (k1 + 1))])), (mca, .inl (g.2.1 5, nc, .inr (.inr (.inr (.inr f_5)))))]) [3, 4, 1, 2] (by decide) rfl
    refine W.widen (k := (5 + 2 * g.2.2 2010)) (n := (13 + 7 * g.2.2 2010)) (by (first | exact Nat.le_of_ble_eq_true rfl | omega | (simp only [LV, Jvm.D.headSpec]; omega))) (by (first | exact Nat.le_of_ble_eq_true rfl | omega | (simp only [LV, Jvm.D.headSpec]; omega))) ?_
    exact W.iret (v := 0) hx hb hr (fun t ht hW => ⟨⟨0, [((g.2.2 2000), .inr (5, [.ref mh, .ref mg, .ref (g.2.2 2002), .ref (g.2.2 2005), .ref mc, .ref (g.2.2 2006), .int 0, .int x_13, .int 4, .int 1, .long n4, .int n5, .int n6, .int 0])), ((g.2.2 2001), .inr (3, [.int 0, .int h1, .int h2, .int h3, .ref (g.2.2 2004), .int h4, .int h5, .int h6, .int h7, .int h8, .int h9, .int 1, .int 32, .int h12])), (mc, .inr (1, [.int v_4, .ref mca, .int (nI (k1 + 1))])), (mca, .inl (g.2.1 5, nc, .inr (.inr (.inr (.inr f_5)))))], rfl, ⟨x_13, v_4, f_5, rfl, rfl⟩, ⟨by rw [ht]; exact hP9, va_K.moved hW.alike hK, hD9⟩, by rw [ht, hH0]; exact hz⟩, hS.F ht⟩) hS.2.2 dX11_endTurn_183
end
section
abbrev cX11_does_ : ByteArray := prog_10_method_66_code
def yX11_does_ : MethodName := ⟨RX11, "does", "(LHeroTableModel$Call;[I)V"⟩
abbrev cX11_acts : ByteArray := prog_10_method_67_code
def yX11_acts : MethodName := ⟨RX11, "acts", "(C[I)V"⟩
def ZV (l : Launch) (y : MethodName) (w : List Cond) (rm : Room) (g : GP) (av : List Value) (ws : va_W) (k : Nat) (post : va_W → Prop) : Prop :=
  ∀ sz : Nat, Met l y w rm (va_Pc av (PRE g ws sz)) (va_Qv post (fun u t => POST g (va_A ws sz) u t ∧ sz + k ≤ t.heap.size) (va_A ws sz)) rm.cells rm.slots (va_A ws sz)
section QZ
variable {p : Program} {l : Launch} {e : Env} {R : Room} {s : State} {m : MethodId} {args : Array Value} {below : List Frame} {meth : Method} {c : Code} {H : Heap} {locs : List Loc} {cells slots mc ms : Nat} {Q : State → Prop} {g : GP} {A : Nat → Prop} {ws wc wr : va_W} {pc : Nat} {ls : Array Slot} {rest st0 : List Value} {a : Array Value}
theorem q_cvZ {post : va_W → Prop} {kz : Nat} (hr : va_Run p l e R s m args below meth c H locs cells slots mc ms (F0 m pc ls st0) rest (va_Qv post (fun u t => POST g (va_A wc H.size) u t ∧ H.size + kz ≤ t.heap.size) (va_A wc H.size) a) (va_A wc H.size)) (hP : va_P g.1 CLS ws H) (hD : va_D A ws) {H0 : Heap} (hS : va_S A H0 H locs) (hF : ∀ q, va_A wc H.size q → A q) (isC isR : List Nat) (hC : isC.map (fun i => ws[i]?) = wc.map some) (hR : isR.map (fun i => ws[i]?) = wr.map some) (hn : va_nd isR = true) (hdis : ∀ i ∈ isR, i ∉ isC)
    (kk : ∀ (u : va_W) (H1 : Heap) (locs1 : List Loc), H.size + kz ≤ H1.size → post u → va_P g.1 CLS (wr ++ u) H1 → va_D A (wr ++ u) → va_S A H0 H1 locs1 → W p l e R s m args below meth c H1 locs1 (cells + mc) (slots + ms) Q (F0 m (pc + 3) ls rest)) : W p l e R s m args below meth c H locs cells slots Q (F0 m pc ls st0) := by
  refine va_callv hr hS (fun q _ h => hF q h) hF (fun u t H1 locs1 ht hvm hw hB hz hk hS1 => ?_)
  obtain ⟨⟨hP1, hK1, hD1⟩, hZ⟩ := hB
  rw [ht] at hP1 hZ
  obtain ⟨hP2, hD2⟩ := va_join hP hD isC isR hC hR hn hdis hk hF hP1 hD1
  exact kk u H1 locs1 hZ hw hP2 hD2 hS1
end QZ
theorem k2109 : (Jvm.Cond.code ({ cls := "HeroTableModel", name := "endTurn", desc := "()I" } : Jvm.MethodName) prog_10_method_41_code (5 : Nat) (Option.some Jvm.ClassFile.FieldType.int)) ∈ G9 := g9 2109 (by decide +kernel) rfl
theorem k2265 : (Jvm.Cond.methodLink "HeroTableModel" (411 : Nat) ({ cls := "HeroTableModel", name := "endTurn", desc := "()I" } : Jvm.MethodName)) ∈ G9 := g9 2265 (by decide +kernel) rfl
theorem ok_X11_endTurn : okN yX11_endTurn 0 := by decide +kernel
theorem k2107 : (Jvm.Cond.instanceMethod ({ cls := "HeroTableModel", name := "endTurn", desc := "()I" } : Jvm.MethodName)) ∈ G9 := g9 2107 (by decide +kernel) rfl
theorem k2108 : (Jvm.Cond.selects "HeroTableModel" ({ cls := "HeroTableModel", name := "endTurn", desc := "()I" } : Jvm.MethodName) ({ cls := "HeroTableModel", name := "endTurn", desc := "()I" } : Jvm.MethodName)) ∈ G9 := g9 2108 (by decide +kernel) rfl
theorem k2263 : (Jvm.Cond.code ({ cls := "HeroTableModel", name := "acts", desc := "(C[I)V" } : Jvm.MethodName) prog_10_method_67_code (3 : Nat) (Option.none : Option Jvm.ClassFile.FieldType)) ∈ G9 := g9 2263 (by decide +kernel) rfl
theorem k2260 : (Jvm.Cond.methodLink "HeroTableModel" (405 : Nat) ({ cls := "HeroTableModel", name := "acts", desc := "(C[I)V" } : Jvm.MethodName)) ∈ G9 := g9 2260 (by decide +kernel) rfl
theorem ok_X11_acts : okN yX11_acts 2 := by decide +kernel
theorem k2262 : (Jvm.Cond.instanceMethod ({ cls := "HeroTableModel", name := "acts", desc := "(C[I)V" } : Jvm.MethodName)) ∈ G9 := g9 2262 (by decide +kernel) rfl
theorem k48 : (Jvm.Cond.selects "HeroTableModel" ({ cls := "HeroTableModel", name := "acts", desc := "(C[I)V" } : Jvm.MethodName) ({ cls := "HeroTableModel", name := "acts", desc := "(C[I)V" } : Jvm.MethodName)) ∈ G9 := g9 48 (by decide +kernel) rfl
theorem dX11_acts_0 : decode cX11_acts 0 = .ok (.iload_n 1, 1) := by decide +kernel
theorem dX11_acts_1 : decode cX11_acts 1 = .ok (.tableswitch 188 97 121 #[139, 115, 188, 188, 123, 188, 188, 188, 188, 188, 188, 188, 188, 188, 188, 188, 188, 131, 150, 164, 188, 188, 188, 188, 172], 115) := by decide +kernel
theorem dX11_acts_124 : decode cX11_acts 124 = .ok (.aload_n 0, 1) := by decide +kernel
theorem dX11_acts_125 : decode cX11_acts 125 = .ok (.invokevirtual 411, 3) := by decide +kernel
theorem dX11_acts_128 : decode cX11_acts 128 = .ok (.pop, 1) := by decide +kernel
theorem dX11_acts_129 : decode cX11_acts 129 = .ok (.goto 75, 3) := by decide +kernel
theorem dX11_acts_204 : decode cX11_acts 204 = .ok (.return_, 1) := by decide +kernel
theorem dX11_does__0 : decode cX11_does_ 0 = .ok (.aload_n 1, 1) := by decide +kernel
theorem dX11_does__1 : decode cX11_does_ 1 = .ok (.getfield 366, 3) := by decide +kernel
theorem dX11_does__4 : decode cX11_does_ 4 = .ok (.tableswitch 280 65 83 #[207, 133, 280, 269, 231, 280, 115, 92, 242, 280, 280, 165, 280, 280, 280, 151, 280, 280, 179], 92) := by decide +kernel
theorem dX11_does__284 : decode cX11_does_ 284 = .ok (.aload_n 0, 1) := by decide +kernel
theorem dX11_does__285 : decode cX11_does_ 285 = .ok (.aload_n 1, 1) := by decide +kernel
theorem dX11_does__286 : decode cX11_does_ 286 = .ok (.getfield 366, 3) := by decide +kernel
theorem dX11_does__289 : decode cX11_does_ 289 = .ok (.aload_n 2, 1) := by decide +kernel
theorem dX11_does__290 : decode cX11_does_ 290 = .ok (.invokevirtual 405, 3) := by decide +kernel
theorem dX11_does__293 : decode cX11_does_ 293 = .ok (.return_, 1) := by decide +kernel
set_option maxHeartbeats 4000000 in
set_option maxRecDepth 100000 in
theorem c_acts_e (l : Launch) (hfl : l.stackTraces = false) (g : GP) (mh : Nat) (mg : Nat) (mc : Nat) (n1 : Int32) (n2 : Int32) (n3 : Int32) (n4 : Int64) (n5 : Int32) (n6 : Int32) (n7 : Int32) (h1 : Int32) (h2 : Int32) (h3 : Int32) (h4 : Int32) (h5 : Int32) (h6 : Int32) (h7 : Int32) (h8 : Int32) (h9 : Int32) (h10 : Int32) (h11 : Int32) (h12 : Int32) (mca : Nat) (k1 : Nat) (nc : Nat) (c0 : Int32) (fc : Nat → Option Nat) (zn : Nat) (hkc : k1 < nc) (hnc : nc < 2 ^ 31) : ZV l yX11_acts (wG yX11_acts cX11_acts 3 (Option.none : Option Jvm.ClassFile.FieldType)) (LV 9 (5 + 2 * g.2.2 2010) (13 + 7 * g.2.2 2010)) g [.ref (g.2.2 2000), .int 101, .ref zn] ([((g.2.2 2000), .inr (5, [.ref mh, .ref mg, .ref (g.2.2 2002), .ref (g.2.2 2005), .ref mc, .ref (g.2.2 2006), .int 0, .int n1, .int n2, .int n3, .long n4, .int n5, .int n6, .int n7])), ((g.2.2 2001), .inr (3, [.int 0, .int h1, .int h2, .int h3, .ref (g.2.2 2004), .int h4, .int h5, .int h6, .int h7, .int h8, .int h9, .int h10, .int h11, .int h12])), (mc, .inr (1, [.int c0, .ref mca, .int (nI k1)])), (mca, .inl (g.2.1 5, nc, .inr (.inr (.inr (.inr fc)))))]) (2 * (g.2.2 2010) + 3) (fun (u : va_W) => ∃ (n9 : Int32) (c9 : Int32) (f2 : Nat → Option Nat), u = [((g.2.2 2000), .inr (5, [.ref mh, .ref mg, .ref (g.2.2 2002), .ref (g.2.2 2005), .ref mc, .ref (g.2.2 2006), .int 0, .int n9, .int 4, .int 1, .long n4, .int n5, .int n6, .int 0])), ((g.2.2 2001), .inr (3, [.int 0, .int h1, .int h2, .int h3, .ref (g.2.2 2004), .int h4, .int h5, .int h6, .int h7, .int h8, .int h9, .int 1, .int 32, .int h12])), (mc, .inr (1, [.int c9, .ref mca, .int (nI (k1 + 1))])), (mca, .inl (g.2.1 5, nc, .inr (.inr (.inr (.inr f2)))))]) := by
  intro sz
  refine Met.ofW (cc := cX11_acts) (maxL := 3) (ret := (Option.none : Option Jvm.ClassFile.FieldType)) (by decide) rfl ?_
  intro p e s m args below meth c s₁ B hml hv
  obtain ⟨rfl, hsz, hP, hK, hD0, hT0⟩ := hv
  have hx := B.exec
  have hb := B.bytes
  have hr := B.returns
  have hts := atoms_spec (ws := (wG yX11_acts cX11_acts 3 (Option.none : Option Jvm.ClassFile.FieldType))) B.pre
  have htg : ∀ w ∈ G9, w.before _ s = true := fun w h => hts w (List.mem_cons_of_mem _ h)
  have hown : s.vm.findClass "HeroTableModel" = some m.cls := findClass_of_methodNamed B.named
  have hlocks := B.notSynchronized
  subst hsz
  have hD := hD0.self (sz := s.heap.size)
  have hT := hT0
  clear hT0
  generalize hAe : va_A [((g.2.2 2000), .inr (5, [.ref mh, .ref mg, .ref (g.2.2 2002), .ref (g.2.2 2005), .ref mc, .ref (g.2.2 2006), .int 0, .int n1, .int n2, .int n3, .long n4, .int n5, .int n6, .int n7])), ((g.2.2 2001), .inr (3, [.int 0, .int h1, .int h2, .int h3, .ref (g.2.2 2004), .int h4, .int h5, .int h6, .int h7, .int h8, .int h9, .int h10, .int h11, .int h12])), (mc, .inr (1, [.int c0, .ref mca, .int (nI k1)])), (mca, .inl (g.2.1 5, nc, .inr (.inr (.inr (.inr fc)))))] s.heap.size = A at hD hT ⊢
  have hA : ∀ q : Nat, s.heap.size ≤ q → A q := fun q h => by rw [← hAe]; exact Or.inr h
  obtain ⟨H, hH0⟩ : ∃ H, H = s.heap := ⟨_, rfl⟩
  have hS : va_S A s.heap H [] := by rw [hH0]; exact va_S.rf
  have hP : va_P g.1 CLS [((g.2.2 2000), .inr (5, [.ref mh, .ref mg, .ref (g.2.2 2002), .ref (g.2.2 2005), .ref mc, .ref (g.2.2 2006), .int 0, .int n1, .int n2, .int n3, .long n4, .int n5, .int n6, .int n7])), ((g.2.2 2001), .inr (3, [.int 0, .int h1, .int h2, .int h3, .ref (g.2.2 2004), .int h4, .int h5, .int h6, .int h7, .int h8, .int h9, .int h10, .int h11, .int h12])), (mc, .inr (1, [.int c0, .ref mca, .int (nI k1)])), (mca, .inl (g.2.1 5, nc, .inr (.inr (.inr (.inr fc)))))] H := by rw [hH0]; exact hP
  rw [← hH0]
  have hl := lv_entry ([.ref (g.2.2 2000), .int 101, .ref zn]) (n := 3) (Nat.le_of_ble_eq_true rfl)
  rw [lg_entry_eq]
  generalize (lg_sl ([.ref (g.2.2 2000), .int 101, .ref zn]) ++ List.replicate (3 - (lg_sl ([.ref (g.2.2 2000), .int 101, .ref zn])).length) Slot.unset).toArray = ls at hl ⊢
  have hl : lv_has ls 3 [(0, .ref (g.2.2 2000)), (1, .int 101), (2, .ref zn)] := hl
  refine lv_iload_n hx hb dX11_acts_0 rfl (lv_at hl 1 rfl) ?_
  refine lv_tableIn (off := 123) (tgt := 124) hx hb dX11_acts_1 (by decide) (by decide) (by decide) (by decide) ?_
  refine lv_aload_n hx hb dX11_acts_124 rfl (lv_at hl 0 rfl) ?_
  have hPc := hP.sub (ws' := [((g.2.2 2000), .inr (5, [.ref mh, .ref mg, .ref (g.2.2 2002), .ref (g.2.2 2005), .ref mc, .ref (g.2.2 2006), .int 0, .int n1, .int n2, .int n3, .long n4, .int n5, .int n6, .int n7])), ((g.2.2 2001), .inr (3, [.int 0, .int h1, .int h2, .int h3, .ref (g.2.2 2004), .int h4, .int h5, .int h6, .int h7, .int h8, .int h9, .int h10, .int h11, .int h12])), (mc, .inr (1, [.int c0, .ref mca, .int (nI k1)])), (mca, .inl (g.2.1 5, nc, .inr (.inr (.inr (.inr fc)))))]) [0, 1, 2, 3] rfl
  have hDc := hD.sub (ws' := [((g.2.2 2000), .inr (5, [.ref mh, .ref mg, .ref (g.2.2 2002), .ref (g.2.2 2005), .ref mc, .ref (g.2.2 2006), .int 0, .int n1, .int n2, .int n3, .long n4, .int n5, .int n6, .int n7])), ((g.2.2 2001), .inr (3, [.int 0, .int h1, .int h2, .int h3, .ref (g.2.2 2004), .int h4, .int h5, .int h6, .int h7, .int h8, .int h9, .int h10, .int h11, .int h12])), (mc, .inr (1, [.int c0, .ref mca, .int (nI k1)])), (mca, .inl (g.2.1 5, nc, .inr (.inr (.inr (.inr fc)))))]) [0, 1, 2, 3] (by decide) rfl
  have hFc := va_free (wc := [((g.2.2 2000), .inr (5, [.ref mh, .ref mg, .ref (g.2.2 2002), .ref (g.2.2 2005), .ref mc, .ref (g.2.2 2006), .int 0, .int n1, .int n2, .int n3, .long n4, .int n5, .int n6, .int n7])), ((g.2.2 2001), .inr (3, [.int 0, .int h1, .int h2, .int h3, .ref (g.2.2 2004), .int h4, .int h5, .int h6, .int h7, .int h8, .int h9, .int h10, .int h11, .int h12])), (mc, .inr (1, [.int c0, .ref mca, .int (nI k1)])), (mca, .inl (g.2.1 5, nc, .inr (.inr (.inr (.inr fc)))))]) hD hS hA [0, 1, 2, 3] rfl
  have hz0 := hS.1
  refine q_ciZ (wr := []) (va_runV (As := []) (rest := []) ⟨hx, hb, hml, hown, htg⟩ (c_endTurn l hfl g mh mg mc n1 n2 n3 n4 n5 n6 n7 h1 h2 h3 h4 h5 h6 h7 h8 h9 h10 h11 h12 mca k1 nc c0 fc (hkc) (hnc) H.size) ⟨(qB htg k2109 k57 k2265 ok_X11_endTurn rfl rfl ⟨by (first | exact Nat.le_of_ble_eq_true rfl | omega | (simp only [LV, Jvm.D.headSpec]; omega)), by (first | exact Nat.le_of_ble_eq_true rfl | omega | (simp only [LV, Jvm.D.headSpec]; omega))⟩), htg _ k2107, htg _ k2108⟩ ⟨(q_pre [.ref (g.2.2 2000)] hPc hDc hK hS hT hFc).1, va_recv hK hP (ci := 5) (q0 := 0) rfl rfl, (q_pre [.ref (g.2.2 2000)] hPc hDc hK hS hT hFc).2⟩ rfl rfl hl.1 rfl (lv_room (by (first | exact Nat.le_of_ble_eq_true rfl | omega | (simp only [LV, Jvm.D.headSpec]; omega)))) dX11_acts_125 ⟨by (first | exact Nat.le_of_ble_eq_true rfl | omega | (simp only [LV, Jvm.D.headSpec]; omega)), by (first | exact Nat.le_of_ble_eq_true rfl | omega | (simp only [LV, Jvm.D.headSpec]; omega))⟩) hP hD hS hFc [0, 1, 2, 3] [] rfl rfl (by decide) (by decide) (fun r9 u9 H locs hZ hw hP hD hS => ?_)
  have hz := Nat.le_trans (Nat.add_le_add_right hz0 (2 * (g.2.2 2010) + 3)) hZ
  try dsimp only at hw
  rcases hw with ⟨v_1, v_2, f_3, rfl, rfl⟩
  have hP : va_P g.1 CLS [((g.2.2 2000), .inr (5, [.ref mh, .ref mg, .ref (g.2.2 2002), .ref (g.2.2 2005), .ref mc, .ref (g.2.2 2006), .int 0, .int v_1, .int 4, .int 1, .long n4, .int n5, .int n6, .int 0])), ((g.2.2 2001), .inr (3, [.int 0, .int h1, .int h2, .int h3, .ref (g.2.2 2004), .int h4, .int h5, .int h6, .int h7, .int h8, .int h9, .int 1, .int 32, .int h12])), (mc, .inr (1, [.int v_2, .ref mca, .int (nI (k1 + 1))])), (mca, .inl (g.2.1 5, nc, .inr (.inr (.inr (.inr f_3)))))] H := hP
  have hD : va_D A [((g.2.2 2000), .inr (5, [.ref mh, .ref mg, .ref (g.2.2 2002), .ref (g.2.2 2005), .ref mc, .ref (g.2.2 2006), .int 0, .int v_1, .int 4, .int 1, .long n4, .int n5, .int n6, .int 0])), ((g.2.2 2001), .inr (3, [.int 0, .int h1, .int h2, .int h3, .ref (g.2.2 2004), .int h4, .int h5, .int h6, .int h7, .int h8, .int h9, .int 1, .int 32, .int h12])), (mc, .inr (1, [.int v_2, .ref mca, .int (nI (k1 + 1))])), (mca, .inl (g.2.1 5, nc, .inr (.inr (.inr (.inr f_3)))))] := hD
  refine W.widen (k := (5 + 2 * g.2.2 2010)) (n := (13 + 7 * g.2.2 2010)) (by (first | exact Nat.le_of_ble_eq_true rfl | omega | (simp only [LV, Jvm.D.headSpec]; omega))) (by (first | exact Nat.le_of_ble_eq_true rfl | omega | (simp only [LV, Jvm.D.headSpec]; omega))) ?_
  refine lv_pop hx hb dX11_acts_128 rfl ?_
  refine lv_goto (tgt := 204) hx hb dX11_acts_129 (by decide) ?_
  have hP9 := hP.sub (ws' := [((g.2.2 2000), .inr (5, [.ref mh, .ref mg, .ref (g.2.2 2002), .ref (g.2.2 2005), .ref mc, .ref (g.2.2 2006), .int 0, .int v_1, .int 4, .int 1, .long n4, .int n5, .int n6, .int 0])), ((g.2.2 2001), .inr (3, [.int 0, .int h1, .int h2, .int h3, .ref (g.2.2 2004), .int h4, .int h5, .int h6, .int h7, .int h8, .int h9, .int 1, .int 32, .int h12])), (mc, .inr (1, [.int v_2, .ref mca, .int (nI (k1 + 1))])), (mca, .inl (g.2.1 5, nc, .inr (.inr (.inr (.inr f_3)))))]) [0, 1, 2, 3] rfl
  have hD9 := hD.sub (ws' := [((g.2.2 2000), .inr (5, [.ref mh, .ref mg, .ref (g.2.2 2002), .ref (g.2.2 2005), .ref mc, .ref (g.2.2 2006), .int 0, .int v_1, .int 4, .int 1, .long n4, .int n5, .int n6, .int 0])), ((g.2.2 2001), .inr (3, [.int 0, .int h1, .int h2, .int h3, .ref (g.2.2 2004), .int h4, .int h5, .int h6, .int h7, .int h8, .int h9, .int 1, .int 32, .int h12])), (mc, .inr (1, [.int v_2, .ref mca, .int (nI (k1 + 1))])), (mca, .inl (g.2.1 5, nc, .inr (.inr (.inr (.inr f_3)))))]) [0, 1, 2, 3] (by decide) rfl
  refine W.widen (k := (5 + 2 * g.2.2 2010)) (n := (13 + 7 * g.2.2 2010)) (by (first | exact Nat.le_of_ble_eq_true rfl | omega | (simp only [LV, Jvm.D.headSpec]; omega))) (by (first | exact Nat.le_of_ble_eq_true rfl | omega | (simp only [LV, Jvm.D.headSpec]; omega))) ?_
  exact W.vret hx hb hr (fun t ht hW => ⟨⟨[((g.2.2 2000), .inr (5, [.ref mh, .ref mg, .ref (g.2.2 2002), .ref (g.2.2 2005), .ref mc, .ref (g.2.2 2006), .int 0, .int v_1, .int 4, .int 1, .long n4, .int n5, .int n6, .int 0])), ((g.2.2 2001), .inr (3, [.int 0, .int h1, .int h2, .int h3, .ref (g.2.2 2004), .int h4, .int h5, .int h6, .int h7, .int h8, .int h9, .int 1, .int 32, .int h12])), (mc, .inr (1, [.int v_2, .ref mca, .int (nI (k1 + 1))])), (mca, .inl (g.2.1 5, nc, .inr (.inr (.inr (.inr f_3)))))], rfl, ⟨v_1, v_2, f_3, rfl⟩, ⟨by rw [ht]; exact hP9, va_K.moved hW.alike hK, hD9⟩, by rw [ht, hH0]; exact hz⟩, hS.F ht⟩) hS.2.2 dX11_acts_204

set_option maxHeartbeats 4000000 in
set_option maxRecDepth 100000 in
theorem c_does_e (l : Launch) (hfl : l.stackTraces = false) (g : GP) (mh : Nat) (mg : Nat) (mc : Nat) (n1 : Int32) (n2 : Int32) (n3 : Int32) (n4 : Int64) (n5 : Int32) (n6 : Int32) (n7 : Int32) (h1 : Int32) (h2 : Int32) (h3 : Int32) (h4 : Int32) (h5 : Int32) (h6 : Int32) (h7 : Int32) (h8 : Int32) (h9 : Int32) (h10 : Int32) (h11 : Int32) (h12 : Int32) (mca : Nat) (k1 : Nat) (nc : Nat) (c0 : Int32) (fc : Nat → Option Nat) (zc : Nat) (zm : Nat) (zn : Nat) (hkc : k1 < nc) (hnc : nc < 2 ^ 31) : ZV l yX11_does_ (wG yX11_does_ cX11_does_ 3 (Option.none : Option Jvm.ClassFile.FieldType)) (LV 10 (5 + 2 * g.2.2 2010) (13 + 7 * g.2.2 2010)) g [.ref (g.2.2 2000), .ref zc, .ref zn] ([((g.2.2 2000), .inr (5, [.ref mh, .ref mg, .ref (g.2.2 2002), .ref (g.2.2 2005), .ref mc, .ref (g.2.2 2006), .int 0, .int n1, .int n2, .int n3, .long n4, .int n5, .int n6, .int n7])), ((g.2.2 2001), .inr (3, [.int 0, .int h1, .int h2, .int h3, .ref (g.2.2 2004), .int h4, .int h5, .int h6, .int h7, .int h8, .int h9, .int h10, .int h11, .int h12])), (mc, .inr (1, [.int c0, .ref mca, .int (nI k1)])), (mca, .inl (g.2.1 5, nc, .inr (.inr (.inr (.inr fc))))), (zc, .inr (2, [.int 101, .ref zm]))]) (2 * (g.2.2 2010) + 3) (fun (u : va_W) => ∃ (n9 : Int32) (c9 : Int32) (f2 : Nat → Option Nat), u = [((g.2.2 2000), .inr (5, [.ref mh, .ref mg, .ref (g.2.2 2002), .ref (g.2.2 2005), .ref mc, .ref (g.2.2 2006), .int 0, .int n9, .int 4, .int 1, .long n4, .int n5, .int n6, .int 0])), ((g.2.2 2001), .inr (3, [.int 0, .int h1, .int h2, .int h3, .ref (g.2.2 2004), .int h4, .int h5, .int h6, .int h7, .int h8, .int h9, .int 1, .int 32, .int h12])), (mc, .inr (1, [.int c9, .ref mca, .int (nI (k1 + 1))])), (mca, .inl (g.2.1 5, nc, .inr (.inr (.inr (.inr f2))))), (zc, .inr (2, [.int 101, .ref zm]))]) := by
  intro sz
  refine Met.ofW (cc := cX11_does_) (maxL := 3) (ret := (Option.none : Option Jvm.ClassFile.FieldType)) (by decide) rfl ?_
  intro p e s m args below meth c s₁ B hml hv
  obtain ⟨rfl, hsz, hP, hK, hD0, hT0⟩ := hv
  have hx := B.exec
  have hb := B.bytes
  have hr := B.returns
  have hts := atoms_spec (ws := (wG yX11_does_ cX11_does_ 3 (Option.none : Option Jvm.ClassFile.FieldType))) B.pre
  have htg : ∀ w ∈ G9, w.before _ s = true := fun w h => hts w (List.mem_cons_of_mem _ h)
  have hown : s.vm.findClass "HeroTableModel" = some m.cls := findClass_of_methodNamed B.named
  have hlocks := B.notSynchronized
  subst hsz
  have hD := hD0.self (sz := s.heap.size)
  have hT := hT0
  clear hT0
  generalize hAe : va_A [((g.2.2 2000), .inr (5, [.ref mh, .ref mg, .ref (g.2.2 2002), .ref (g.2.2 2005), .ref mc, .ref (g.2.2 2006), .int 0, .int n1, .int n2, .int n3, .long n4, .int n5, .int n6, .int n7])), ((g.2.2 2001), .inr (3, [.int 0, .int h1, .int h2, .int h3, .ref (g.2.2 2004), .int h4, .int h5, .int h6, .int h7, .int h8, .int h9, .int h10, .int h11, .int h12])), (mc, .inr (1, [.int c0, .ref mca, .int (nI k1)])), (mca, .inl (g.2.1 5, nc, .inr (.inr (.inr (.inr fc))))), (zc, .inr (2, [.int 101, .ref zm]))] s.heap.size = A at hD hT ⊢
  have hA : ∀ q : Nat, s.heap.size ≤ q → A q := fun q h => by rw [← hAe]; exact Or.inr h
  obtain ⟨H, hH0⟩ : ∃ H, H = s.heap := ⟨_, rfl⟩
  have hS : va_S A s.heap H [] := by rw [hH0]; exact va_S.rf
  have hP : va_P g.1 CLS [((g.2.2 2000), .inr (5, [.ref mh, .ref mg, .ref (g.2.2 2002), .ref (g.2.2 2005), .ref mc, .ref (g.2.2 2006), .int 0, .int n1, .int n2, .int n3, .long n4, .int n5, .int n6, .int n7])), ((g.2.2 2001), .inr (3, [.int 0, .int h1, .int h2, .int h3, .ref (g.2.2 2004), .int h4, .int h5, .int h6, .int h7, .int h8, .int h9, .int h10, .int h11, .int h12])), (mc, .inr (1, [.int c0, .ref mca, .int (nI k1)])), (mca, .inl (g.2.1 5, nc, .inr (.inr (.inr (.inr fc))))), (zc, .inr (2, [.int 101, .ref zm]))] H := by rw [hH0]; exact hP
  rw [← hH0]
  have hl := lv_entry ([.ref (g.2.2 2000), .ref zc, .ref zn]) (n := 3) (Nat.le_of_ble_eq_true rfl)
  rw [lg_entry_eq]
  generalize (lg_sl ([.ref (g.2.2 2000), .ref zc, .ref zn]) ++ List.replicate (3 - (lg_sl ([.ref (g.2.2 2000), .ref zc, .ref zn])).length) Slot.unset).toArray = ls at hl ⊢
  have hl : lv_has ls 3 [(0, .ref (g.2.2 2000)), (1, .ref zc), (2, .ref zn)] := hl
  refine lv_aload_n hx hb dX11_does__0 rfl (lv_at hl 1 rfl) ?_
  refine va_getN (D := g.1) (ci := 2) (v := .int 101) (C := RX8) (T := TX8) (N := 2) hx hb htg inG_X8 hown hK hP 4 rfl rfl 0 (by decide) (va_Nw.use rfl (hT.1.1 _ (List.mem_of_getElem? (i := 1) rfl))) (fun _ h9 => h9) rfl dX11_does__1 ?_
  refine lv_tableOut (tgt := 284) hx hb dX11_does__4 (by decide) (by decide) ?_
  refine lv_aload_n hx hb dX11_does__284 rfl (lv_at hl 0 rfl) ?_
  refine lv_aload_n hx hb dX11_does__285 rfl (lv_at hl 1 rfl) ?_
  refine va_getN (D := g.1) (ci := 2) (v := .int 101) (C := RX8) (T := TX8) (N := 2) hx hb htg inG_X8 hown hK hP 4 rfl rfl 0 (by decide) (va_Nw.use rfl (hT.1.1 _ (List.mem_of_getElem? (i := 1) rfl))) (fun _ h9 => h9) rfl dX11_does__286 ?_
  refine lv_aload_n hx hb dX11_does__289 rfl (lv_at hl 2 rfl) ?_
  have hPc := hP.sub (ws' := [((g.2.2 2000), .inr (5, [.ref mh, .ref mg, .ref (g.2.2 2002), .ref (g.2.2 2005), .ref mc, .ref (g.2.2 2006), .int 0, .int n1, .int n2, .int n3, .long n4, .int n5, .int n6, .int n7])), ((g.2.2 2001), .inr (3, [.int 0, .int h1, .int h2, .int h3, .ref (g.2.2 2004), .int h4, .int h5, .int h6, .int h7, .int h8, .int h9, .int h10, .int h11, .int h12])), (mc, .inr (1, [.int c0, .ref mca, .int (nI k1)])), (mca, .inl (g.2.1 5, nc, .inr (.inr (.inr (.inr fc)))))]) [0, 1, 2, 3] rfl
  have hDc := hD.sub (ws' := [((g.2.2 2000), .inr (5, [.ref mh, .ref mg, .ref (g.2.2 2002), .ref (g.2.2 2005), .ref mc, .ref (g.2.2 2006), .int 0, .int n1, .int n2, .int n3, .long n4, .int n5, .int n6, .int n7])), ((g.2.2 2001), .inr (3, [.int 0, .int h1, .int h2, .int h3, .ref (g.2.2 2004), .int h4, .int h5, .int h6, .int h7, .int h8, .int h9, .int h10, .int h11, .int h12])), (mc, .inr (1, [.int c0, .ref mca, .int (nI k1)])), (mca, .inl (g.2.1 5, nc, .inr (.inr (.inr (.inr fc)))))]) [0, 1, 2, 3] (by decide) rfl
  have hFc := va_free (wc := [((g.2.2 2000), .inr (5, [.ref mh, .ref mg, .ref (g.2.2 2002), .ref (g.2.2 2005), .ref mc, .ref (g.2.2 2006), .int 0, .int n1, .int n2, .int n3, .long n4, .int n5, .int n6, .int n7])), ((g.2.2 2001), .inr (3, [.int 0, .int h1, .int h2, .int h3, .ref (g.2.2 2004), .int h4, .int h5, .int h6, .int h7, .int h8, .int h9, .int h10, .int h11, .int h12])), (mc, .inr (1, [.int c0, .ref mca, .int (nI k1)])), (mca, .inl (g.2.1 5, nc, .inr (.inr (.inr (.inr fc)))))]) hD hS hA [0, 1, 2, 3] rfl
  have hz0 := hS.1
  refine q_cvZ (wr := [(zc, .inr (2, [.int 101, .ref zm]))]) (va_runV (As := [.int 101, .ref zn]) (rest := []) ⟨hx, hb, hml, hown, htg⟩ (c_acts_e l hfl g mh mg mc n1 n2 n3 n4 n5 n6 n7 h1 h2 h3 h4 h5 h6 h7 h8 h9 h10 h11 h12 mca k1 nc c0 fc zn (hkc) (hnc) H.size) ⟨(qB htg k2263 k57 k2260 ok_X11_acts rfl rfl ⟨by (first | exact Nat.le_of_ble_eq_true rfl | omega | (simp only [LV, Jvm.D.headSpec]; omega)), by (first | exact Nat.le_of_ble_eq_true rfl | omega | (simp only [LV, Jvm.D.headSpec]; omega))⟩), htg _ k2262, htg _ k48⟩ ⟨(q_pre [.ref (g.2.2 2000), .int 101, .ref zn] hPc hDc hK hS hT hFc).1, va_recv hK hP (ci := 5) (q0 := 0) rfl rfl, (q_pre [.ref (g.2.2 2000), .int 101, .ref zn] hPc hDc hK hS hT hFc).2⟩ rfl rfl hl.1 rfl (lv_room (by (first | exact Nat.le_of_ble_eq_true rfl | omega | (simp only [LV, Jvm.D.headSpec]; omega)))) dX11_does__290 ⟨by (first | exact Nat.le_of_ble_eq_true rfl | omega | (simp only [LV, Jvm.D.headSpec]; omega)), by (first | exact Nat.le_of_ble_eq_true rfl | omega | (simp only [LV, Jvm.D.headSpec]; omega))⟩) hP hD hS hFc [0, 1, 2, 3] [4] rfl rfl (by decide) (by decide) (fun u9 H locs hZ hw hP hD hS => ?_)
  have hz := Nat.le_trans (Nat.add_le_add_right hz0 (2 * (g.2.2 2010) + 3)) hZ
  try dsimp only at hw
  rcases hw with ⟨v_1, v_2, f_3, rfl⟩
  have hP : va_P g.1 CLS [(zc, .inr (2, [.int 101, .ref zm])), ((g.2.2 2000), .inr (5, [.ref mh, .ref mg, .ref (g.2.2 2002), .ref (g.2.2 2005), .ref mc, .ref (g.2.2 2006), .int 0, .int v_1, .int 4, .int 1, .long n4, .int n5, .int n6, .int 0])), ((g.2.2 2001), .inr (3, [.int 0, .int h1, .int h2, .int h3, .ref (g.2.2 2004), .int h4, .int h5, .int h6, .int h7, .int h8, .int h9, .int 1, .int 32, .int h12])), (mc, .inr (1, [.int v_2, .ref mca, .int (nI (k1 + 1))])), (mca, .inl (g.2.1 5, nc, .inr (.inr (.inr (.inr f_3)))))] H := hP
  have hD : va_D A [(zc, .inr (2, [.int 101, .ref zm])), ((g.2.2 2000), .inr (5, [.ref mh, .ref mg, .ref (g.2.2 2002), .ref (g.2.2 2005), .ref mc, .ref (g.2.2 2006), .int 0, .int v_1, .int 4, .int 1, .long n4, .int n5, .int n6, .int 0])), ((g.2.2 2001), .inr (3, [.int 0, .int h1, .int h2, .int h3, .ref (g.2.2 2004), .int h4, .int h5, .int h6, .int h7, .int h8, .int h9, .int 1, .int 32, .int h12])), (mc, .inr (1, [.int v_2, .ref mca, .int (nI (k1 + 1))])), (mca, .inl (g.2.1 5, nc, .inr (.inr (.inr (.inr f_3)))))] := hD
  refine W.widen (k := (5 + 2 * g.2.2 2010)) (n := (13 + 7 * g.2.2 2010)) (by (first | exact Nat.le_of_ble_eq_true rfl | omega | (simp only [LV, Jvm.D.headSpec]; omega))) (by (first | exact Nat.le_of_ble_eq_true rfl | omega | (simp only [LV, Jvm.D.headSpec]; omega))) ?_
  have hP9 := hP.sub (ws' := [((g.2.2 2000), .inr (5, [.ref mh, .ref mg, .ref (g.2.2 2002), .ref (g.2.2 2005), .ref mc, .ref (g.2.2 2006), .int 0, .int v_1, .int 4, .int 1, .long n4, .int n5, .int n6, .int 0])), ((g.2.2 2001), .inr (3, [.int 0, .int h1, .int h2, .int h3, .ref (g.2.2 2004), .int h4, .int h5, .int h6, .int h7, .int h8, .int h9, .int 1, .int 32, .int h12])), (mc, .inr (1, [.int v_2, .ref mca, .int (nI (k1 + 1))])), (mca, .inl (g.2.1 5, nc, .inr (.inr (.inr (.inr f_3))))), (zc, .inr (2, [.int 101, .ref zm]))]) [1, 2, 3, 4, 0] rfl
  have hD9 := hD.sub (ws' := [((g.2.2 2000), .inr (5, [.ref mh, .ref mg, .ref (g.2.2 2002), .ref (g.2.2 2005), .ref mc, .ref (g.2.2 2006), .int 0, .int v_1, .int 4, .int 1, .long n4, .int n5, .int n6, .int 0])), ((g.2.2 2001), .inr (3, [.int 0, .int h1, .int h2, .int h3, .ref (g.2.2 2004), .int h4, .int h5, .int h6, .int h7, .int h8, .int h9, .int 1, .int 32, .int h12])), (mc, .inr (1, [.int v_2, .ref mca, .int (nI (k1 + 1))])), (mca, .inl (g.2.1 5, nc, .inr (.inr (.inr (.inr f_3))))), (zc, .inr (2, [.int 101, .ref zm]))]) [1, 2, 3, 4, 0] (by decide) rfl
  refine W.widen (k := (5 + 2 * g.2.2 2010)) (n := (13 + 7 * g.2.2 2010)) (by (first | exact Nat.le_of_ble_eq_true rfl | omega | (simp only [LV, Jvm.D.headSpec]; omega))) (by (first | exact Nat.le_of_ble_eq_true rfl | omega | (simp only [LV, Jvm.D.headSpec]; omega))) ?_
  exact W.vret hx hb hr (fun t ht hW => ⟨⟨[((g.2.2 2000), .inr (5, [.ref mh, .ref mg, .ref (g.2.2 2002), .ref (g.2.2 2005), .ref mc, .ref (g.2.2 2006), .int 0, .int v_1, .int 4, .int 1, .long n4, .int n5, .int n6, .int 0])), ((g.2.2 2001), .inr (3, [.int 0, .int h1, .int h2, .int h3, .ref (g.2.2 2004), .int h4, .int h5, .int h6, .int h7, .int h8, .int h9, .int 1, .int 32, .int h12])), (mc, .inr (1, [.int v_2, .ref mca, .int (nI (k1 + 1))])), (mca, .inl (g.2.1 5, nc, .inr (.inr (.inr (.inr f_3))))), (zc, .inr (2, [.int 101, .ref zm]))], rfl, ⟨v_1, v_2, f_3, rfl⟩, ⟨by rw [ht]; exact hP9, va_K.moved hW.alike hK, hD9⟩, by rw [ht, hH0]; exact hz⟩, hS.F ht⟩) hS.2.2 dX11_does__293
end
