theorem k1354 : (Jvm.Cond.laysFinal "HeroTableModel" "HeroTableModel" "heroes" "Ljava/util/List;") ∈ G9 := g9 1354 (by decide +kernel) rfl
theorem k1356 : (Jvm.Cond.laysFinal "HeroTableModel" "HeroTableModel" "ground" "[C") ∈ G9 := g9 1356 (by decide +kernel) rfl
theorem k1358 : (Jvm.Cond.laysFinal "HeroTableModel" "HeroTableModel" "sources" "Ljava/util/List;") ∈ G9 := g9 1358 (by decide +kernel) rfl
theorem k1360 : (Jvm.Cond.laysFinal "HeroTableModel" "HeroTableModel" "dice" "Ljava/util/ArrayDeque;") ∈ G9 := g9 1360 (by decide +kernel) rfl
theorem k1362 : (Jvm.Cond.laysFinal "HeroTableModel" "HeroTableModel" "calls" "Ljava/util/List;") ∈ G9 := g9 1362 (by decide +kernel) rfl
theorem k1364 : (Jvm.Cond.laysFinal "HeroTableModel" "HeroTableModel" "order" "Ljava/util/List;") ∈ G9 := g9 1364 (by decide +kernel) rfl
theorem k1366 : (Jvm.Cond.lays "HeroTableModel" "HeroTableModel" "at" "I") ∈ G9 := g9 1366 (by decide +kernel) rfl
theorem k1368 : (Jvm.Cond.lays "HeroTableModel" "HeroTableModel" "round" "I") ∈ G9 := g9 1368 (by decide +kernel) rfl
theorem k1370 : (Jvm.Cond.lays "HeroTableModel" "HeroTableModel" "steps" "I") ∈ G9 := g9 1370 (by decide +kernel) rfl
theorem k1372 : (Jvm.Cond.lays "HeroTableModel" "HeroTableModel" "hasAction" "Z") ∈ G9 := g9 1372 (by decide +kernel) rfl
theorem k1374 : (Jvm.Cond.lays "HeroTableModel" "HeroTableModel" "harmDone" "J") ∈ G9 := g9 1374 (by decide +kernel) rfl
theorem k1376 : (Jvm.Cond.lays "HeroTableModel" "HeroTableModel" "attacks" "I") ∈ G9 := g9 1376 (by decide +kernel) rfl
theorem k1378 : (Jvm.Cond.lays "HeroTableModel" "HeroTableModel" "hits" "I") ∈ G9 := g9 1378 (by decide +kernel) rfl
theorem k1380 : (Jvm.Cond.lays "HeroTableModel" "HeroTableModel" "thrown" "I") ∈ G9 := g9 1380 (by decide +kernel) rfl
theorem inG_X11 : ∀ w ∈ u_ws RX11 TX11 14, w ∈ G9 := by
  intro w h
  have h : w ∈ [u_lay RX11 TX11 0, u_lay RX11 TX11 1, u_lay RX11 TX11 2, u_lay RX11 TX11 3, u_lay RX11 TX11 4, u_lay RX11 TX11 5, u_lay RX11 TX11 6, u_lay RX11 TX11 7, u_lay RX11 TX11 8, u_lay RX11 TX11 9, u_lay RX11 TX11 10, u_lay RX11 TX11 11, u_lay RX11 TX11 12, u_lay RX11 TX11 13] := h
  simp only [List.mem_cons, List.not_mem_nil, or_false] at h
  rcases h with rfl | rfl | rfl | rfl | rfl | rfl | rfl | rfl | rfl | rfl | rfl | rfl | rfl | rfl
  · exact k1354
  · exact k1356
  · exact k1358
  · exact k1360
  · exact k1362
  · exact k1364
  · exact k1366
  · exact k1368
  · exact k1370
  · exact k1372
  · exact k1374
  · exact k1376
  · exact k1378
  · exact k1380
theorem k1598 : (Jvm.Cond.laysFinal "HeroTableModel$Hero" "HeroTableModel$Hero" "number" "I") ∈ G9 := g9 1598 (by decide +kernel) rfl
theorem k1600 : (Jvm.Cond.laysFinal "HeroTableModel$Hero" "HeroTableModel$Hero" "side" "I") ∈ G9 := g9 1600 (by decide +kernel) rfl
theorem k1602 : (Jvm.Cond.laysFinal "HeroTableModel$Hero" "HeroTableModel$Hero" "most" "I") ∈ G9 := g9 1602 (by decide +kernel) rfl
theorem k1604 : (Jvm.Cond.laysFinal "HeroTableModel$Hero" "HeroTableModel$Hero" "initiative" "I") ∈ G9 := g9 1604 (by decide +kernel) rfl
theorem k1606 : (Jvm.Cond.laysFinal "HeroTableModel$Hero" "HeroTableModel$Hero" "bases" "[I") ∈ G9 := g9 1606 (by decide +kernel) rfl
theorem k1608 : (Jvm.Cond.lays "HeroTableModel$Hero" "HeroTableModel$Hero" "life" "I") ∈ G9 := g9 1608 (by decide +kernel) rfl
theorem k1610 : (Jvm.Cond.lays "HeroTableModel$Hero" "HeroTableModel$Hero" "spare" "I") ∈ G9 := g9 1610 (by decide +kernel) rfl
theorem k1612 : (Jvm.Cond.lays "HeroTableModel$Hero" "HeroTableModel$Hero" "x" "I") ∈ G9 := g9 1612 (by decide +kernel) rfl
theorem k1614 : (Jvm.Cond.lays "HeroTableModel$Hero" "HeroTableModel$Hero" "y" "I") ∈ G9 := g9 1614 (by decide +kernel) rfl
theorem k1616 : (Jvm.Cond.lays "HeroTableModel$Hero" "HeroTableModel$Hero" "immune" "I") ∈ G9 := g9 1616 (by decide +kernel) rfl
theorem k1618 : (Jvm.Cond.lays "HeroTableModel$Hero" "HeroTableModel$Hero" "slots" "I") ∈ G9 := g9 1618 (by decide +kernel) rfl
theorem k1620 : (Jvm.Cond.lays "HeroTableModel$Hero" "HeroTableModel$Hero" "hasReaction" "Z") ∈ G9 := g9 1620 (by decide +kernel) rfl
theorem k1622 : (Jvm.Cond.lays "HeroTableModel$Hero" "HeroTableModel$Hero" "trigger" "C") ∈ G9 := g9 1622 (by decide +kernel) rfl
theorem k1624 : (Jvm.Cond.lays "HeroTableModel$Hero" "HeroTableModel$Hero" "reaction" "C") ∈ G9 := g9 1624 (by decide +kernel) rfl
theorem inG_X9 : ∀ w ∈ u_ws RX9 TX9 14, w ∈ G9 := by
  intro w h
  have h : w ∈ [u_lay RX9 TX9 0, u_lay RX9 TX9 1, u_lay RX9 TX9 2, u_lay RX9 TX9 3, u_lay RX9 TX9 4, u_lay RX9 TX9 5, u_lay RX9 TX9 6, u_lay RX9 TX9 7, u_lay RX9 TX9 8, u_lay RX9 TX9 9, u_lay RX9 TX9 10, u_lay RX9 TX9 11, u_lay RX9 TX9 12, u_lay RX9 TX9 13] := h
  simp only [List.mem_cons, List.not_mem_nil, or_false] at h
  rcases h with rfl | rfl | rfl | rfl | rfl | rfl | rfl | rfl | rfl | rfl | rfl | rfl | rfl | rfl
  · exact k1598
  · exact k1600
  · exact k1602
  · exact k1604
  · exact k1606
  · exact k1608
  · exact k1610
  · exact k1612
  · exact k1614
  · exact k1616
  · exact k1618
  · exact k1620
  · exact k1622
  · exact k1624
theorem k1747 : (Jvm.Cond.laysFinal "HeroTableModel$Source" "HeroTableModel$Source" "hero" "I") ∈ G9 := g9 1747 (by decide +kernel) rfl
theorem k1749 : (Jvm.Cond.laysFinal "HeroTableModel$Source" "HeroTableModel$Source" "letter" "C") ∈ G9 := g9 1749 (by decide +kernel) rfl
theorem k1751 : (Jvm.Cond.laysFinal "HeroTableModel$Source" "HeroTableModel$Source" "type" "C") ∈ G9 := g9 1751 (by decide +kernel) rfl
theorem k1753 : (Jvm.Cond.laysFinal "HeroTableModel$Source" "HeroTableModel$Source" "amount" "I") ∈ G9 := g9 1753 (by decide +kernel) rfl
theorem k1755 : (Jvm.Cond.laysFinal "HeroTableModel$Source" "HeroTableModel$Source" "whose" "I") ∈ G9 := g9 1755 (by decide +kernel) rfl
theorem k1757 : (Jvm.Cond.laysFinal "HeroTableModel$Source" "HeroTableModel$Source" "hasRounds" "Z") ∈ G9 := g9 1757 (by decide +kernel) rfl
theorem k1759 : (Jvm.Cond.lays "HeroTableModel$Source" "HeroTableModel$Source" "rounds" "I") ∈ G9 := g9 1759 (by decide +kernel) rfl
theorem k1761 : (Jvm.Cond.lays "HeroTableModel$Source" "HeroTableModel$Source" "isLive" "Z") ∈ G9 := g9 1761 (by decide +kernel) rfl
theorem k1763 : (Jvm.Cond.lays "HeroTableModel$Source" "HeroTableModel$Source" "minder" "I") ∈ G9 := g9 1763 (by decide +kernel) rfl
theorem k1765 : (Jvm.Cond.lays "HeroTableModel$Source" "HeroTableModel$Source" "isOfHarm" "Z") ∈ G9 := g9 1765 (by decide +kernel) rfl
theorem inG_X10 : ∀ w ∈ u_ws RX10 TX10 10, w ∈ G9 := by
  intro w h
  have h : w ∈ [u_lay RX10 TX10 0, u_lay RX10 TX10 1, u_lay RX10 TX10 2, u_lay RX10 TX10 3, u_lay RX10 TX10 4, u_lay RX10 TX10 5, u_lay RX10 TX10 6, u_lay RX10 TX10 7, u_lay RX10 TX10 8, u_lay RX10 TX10 9] := h
  simp only [List.mem_cons, List.not_mem_nil, or_false] at h
  rcases h with rfl | rfl | rfl | rfl | rfl | rfl | rfl | rfl | rfl | rfl
  · exact k1747
  · exact k1749
  · exact k1751
  · exact k1753
  · exact k1755
  · exact k1757
  · exact k1759
  · exact k1761
  · exact k1763
  · exact k1765
theorem k1319 : (Jvm.Cond.lays "java/util/ArrayList" "java/util/AbstractList" "modCount" "I") ∈ G9 := g9 1319 (by decide +kernel) rfl
theorem k1315 : (Jvm.Cond.lays "java/util/ArrayList" "java/util/ArrayList" "elementData" "[Ljava/lang/Object;") ∈ G9 := g9 1315 (by decide +kernel) rfl
theorem k1317 : (Jvm.Cond.lays "java/util/ArrayList" "java/util/ArrayList" "size" "I") ∈ G9 := g9 1317 (by decide +kernel) rfl
theorem inG_Jx4a65c : ∀ w ∈ u_ws RJx4a65c TJx4a65c 3, w ∈ G9 := by
  intro w h
  have h : w ∈ [u_lay RJx4a65c TJx4a65c 0, u_lay RJx4a65c TJx4a65c 1, u_lay RJx4a65c TJx4a65c 2] := h
  simp only [List.mem_cons, List.not_mem_nil, or_false] at h
  rcases h with rfl | rfl | rfl
  · exact k1319
  · exact k1315
  · exact k1317
theorem k1310 : (Jvm.Cond.fieldLink "java/util/ArrayList" (48 : Nat) "java/util/ArrayList" "size" "I") ∈ G9 := g9 1310 (by decide +kernel) rfl
theorem k1313 : (Jvm.Cond.sameField "java/util/ArrayList" "java/util/AbstractList" "modCount" "I") ∈ G9 := g9 1313 (by decide +kernel) rfl
theorem k1314 : (Jvm.Cond.fieldLink "java/util/ArrayList" (63 : Nat) "java/util/ArrayList" "modCount" "I") ∈ G9 := g9 1314 (by decide +kernel) rfl
theorem k1307 : (Jvm.Cond.fieldLink "java/util/ArrayList" (9 : Nat) "java/util/ArrayList" "elementData" "[Ljava/lang/Object;") ∈ G9 := g9 1307 (by decide +kernel) rfl
theorem k1512 : (Jvm.Cond.code ({ cls := "java/util/ArrayList", name := "add", desc := "(Ljava/lang/Object;[Ljava/lang/Object;I)V" } : Jvm.MethodName) prog_45_method_24_code (4 : Nat) (Option.none : Option Jvm.ClassFile.FieldType)) ∈ G9 := g9 1512 (by decide +kernel) rfl
theorem k1509 : (Jvm.Cond.methodLink "java/util/ArrayList" (131 : Nat) ({ cls := "java/util/ArrayList", name := "add", desc := "(Ljava/lang/Object;[Ljava/lang/Object;I)V" } : Jvm.MethodName)) ∈ G9 := g9 1509 (by decide +kernel) rfl
theorem ok_Jx4a65c_add_72be8 : okN yJx4a65c_add_72be8 3 := by decide +kernel
theorem k1511 : (Jvm.Cond.instanceMethod ({ cls := "java/util/ArrayList", name := "add", desc := "(Ljava/lang/Object;[Ljava/lang/Object;I)V" } : Jvm.MethodName)) ∈ G9 := g9 1511 (by decide +kernel) rfl
theorem k20 : (Jvm.Cond.selects "java/util/ArrayList" ({ cls := "java/util/ArrayList", name := "add", desc := "(Ljava/lang/Object;[Ljava/lang/Object;I)V" } : Jvm.MethodName) ({ cls := "java/util/ArrayList", name := "add", desc := "(Ljava/lang/Object;[Ljava/lang/Object;I)V" } : Jvm.MethodName)) ∈ G9 := g9 20 (by decide +kernel) rfl
theorem k1490 : (Jvm.Cond.methodLink "HeroTableModel$Call" (1 : Nat) ({ cls := "java/lang/Object", name := "<init>", desc := "()V" } : Jvm.MethodName)) ∈ G9 := g9 1490 (by decide +kernel) rfl
theorem k1495 : (Jvm.Cond.laysFinal "HeroTableModel$Call" "HeroTableModel$Call" "what" "C") ∈ G9 := g9 1495 (by decide +kernel) rfl
theorem k1497 : (Jvm.Cond.laysFinal "HeroTableModel$Call" "HeroTableModel$Call" "numbers" "[I") ∈ G9 := g9 1497 (by decide +kernel) rfl
theorem inG_X8 : ∀ w ∈ u_ws RX8 TX8 2, w ∈ G9 := by
  intro w h
  have h : w ∈ [u_lay RX8 TX8 0, u_lay RX8 TX8 1] := h
  simp only [List.mem_cons, List.not_mem_nil, or_false] at h
  rcases h with rfl | rfl
  · exact k1495
  · exact k1497
theorem k1491 : (Jvm.Cond.fieldLink "HeroTableModel$Call" (7 : Nat) "HeroTableModel$Call" "what" "C") ∈ G9 := g9 1491 (by decide +kernel) rfl
theorem k1493 : (Jvm.Cond.fieldLink "HeroTableModel$Call" (13 : Nat) "HeroTableModel$Call" "numbers" "[I") ∈ G9 := g9 1493 (by decide +kernel) rfl
theorem k1344 : (Jvm.Cond.fieldLink "HeroTableModel" (30 : Nat) "HeroTableModel" "calls" "Ljava/util/List;") ∈ G9 := g9 1344 (by decide +kernel) rfl
theorem k1485 : (Jvm.Cond.classLink "HeroTableModel" (61 : Nat) "HeroTableModel$Call") ∈ G9 := g9 1485 (by decide +kernel) rfl
theorem k1486 : (Jvm.Cond.instantiable "HeroTableModel$Call" (2 : Nat)) ∈ G9 := g9 1486 (by decide +kernel) rfl
theorem k74 : (Jvm.Cond.initialized "HeroTableModel$Call") ∈ G9 := g9 74 (by decide +kernel) rfl
theorem k1489 : (Jvm.Cond.code ({ cls := "HeroTableModel$Call", name := "<init>", desc := "(C[I)V" } : Jvm.MethodName) prog_11_method_1_code (3 : Nat) (Option.none : Option Jvm.ClassFile.FieldType)) ∈ G9 := g9 1489 (by decide +kernel) rfl
theorem k1487 : (Jvm.Cond.methodLink "HeroTableModel" (63 : Nat) ({ cls := "HeroTableModel$Call", name := "<init>", desc := "(C[I)V" } : Jvm.MethodName)) ∈ G9 := g9 1487 (by decide +kernel) rfl
theorem ok_X8_init : okN yX8_init 2 := by decide +kernel
theorem k1488 : (Jvm.Cond.instanceMethod ({ cls := "HeroTableModel$Call", name := "<init>", desc := "(C[I)V" } : Jvm.MethodName)) ∈ G9 := g9 1488 (by decide +kernel) rfl
theorem k1508 : (Jvm.Cond.code ({ cls := "java/util/ArrayList", name := "add", desc := "(Ljava/lang/Object;)Z" } : Jvm.MethodName) prog_45_method_25_code (2 : Nat) (Option.some Jvm.ClassFile.FieldType.boolean)) ∈ G9 := g9 1508 (by decide +kernel) rfl
theorem k1501 : (Jvm.Cond.methodLink "HeroTableModel" (66 : Nat) ({ cls := "java/util/List", name := "add", desc := "(Ljava/lang/Object;)Z" } : Jvm.MethodName)) ∈ G9 := g9 1501 (by decide +kernel) rfl
theorem k1504 : (Jvm.Cond.selects "java/util/ArrayList" ({ cls := "java/util/List", name := "add", desc := "(Ljava/lang/Object;)Z" } : Jvm.MethodName) ({ cls := "java/util/ArrayList", name := "add", desc := "(Ljava/lang/Object;)Z" } : Jvm.MethodName)) ∈ G9 := g9 1504 (by decide +kernel) rfl
theorem k1506 : (Jvm.Cond.instanceMethod ({ cls := "java/util/ArrayList", name := "add", desc := "(Ljava/lang/Object;)Z" } : Jvm.MethodName)) ∈ G9 := g9 1506 (by decide +kernel) rfl
theorem okx_add : okN yI_add 1 := by decide +kernel
theorem k1346 : (Jvm.Cond.fieldLink "HeroTableModel" (36 : Nat) "HeroTableModel" "at" "I") ∈ G9 := g9 1346 (by decide +kernel) rfl
theorem k1658 : (Jvm.Cond.code ({ cls := "jdk/internal/util/Preconditions", name := "checkIndex", desc := "(IILjava/util/function/BiFunction;)I" } : Jvm.MethodName) prog_58_method_11_code (3 : Nat) (Option.some Jvm.ClassFile.FieldType.int)) ∈ G9 := g9 1658 (by decide +kernel) rfl
theorem k80 : (Jvm.Cond.initialized "jdk/internal/util/Preconditions") ∈ G9 := g9 80 (by decide +kernel) rfl
theorem k1656 : (Jvm.Cond.methodLink "java/util/Objects" (105 : Nat) ({ cls := "jdk/internal/util/Preconditions", name := "checkIndex", desc := "(IILjava/util/function/BiFunction;)I" } : Jvm.MethodName)) ∈ G9 := g9 1656 (by decide +kernel) rfl
theorem ok_J3_checkIndex_8e157 : okN yJ3_checkIndex_8e157 3 := by decide +kernel
theorem k1657 : (Jvm.Cond.static ({ cls := "jdk/internal/util/Preconditions", name := "checkIndex", desc := "(IILjava/util/function/BiFunction;)I" } : Jvm.MethodName)) ∈ G9 := g9 1657 (by decide +kernel) rfl
theorem k1655 : (Jvm.Cond.code ({ cls := "java/util/Objects", name := "checkIndex", desc := "(II)I" } : Jvm.MethodName) prog_53_method_17_code (2 : Nat) (Option.some Jvm.ClassFile.FieldType.int)) ∈ G9 := g9 1655 (by decide +kernel) rfl
theorem k83 : (Jvm.Cond.initialized "java/util/Objects") ∈ G9 := g9 83 (by decide +kernel) rfl
theorem k1653 : (Jvm.Cond.methodLink "java/util/ArrayList" (118 : Nat) ({ cls := "java/util/Objects", name := "checkIndex", desc := "(II)I" } : Jvm.MethodName)) ∈ G9 := g9 1653 (by decide +kernel) rfl
theorem ok_J15_checkIndex_7cf53 : okN yJ15_checkIndex_7cf53 2 := by decide +kernel
theorem k1654 : (Jvm.Cond.static ({ cls := "java/util/Objects", name := "checkIndex", desc := "(II)I" } : Jvm.MethodName)) ∈ G9 := g9 1654 (by decide +kernel) rfl
theorem k1662 : (Jvm.Cond.code ({ cls := "java/util/ArrayList", name := "elementData", desc := "(I)Ljava/lang/Object;" } : Jvm.MethodName) prog_45_method_18_code (2 : Nat) (Option.some (Jvm.ClassFile.FieldType.object "java/lang/Object"))) ∈ G9 := g9 1662 (by decide +kernel) rfl
theorem k1659 : (Jvm.Cond.methodLink "java/util/ArrayList" (123 : Nat) ({ cls := "java/util/ArrayList", name := "elementData", desc := "(I)Ljava/lang/Object;" } : Jvm.MethodName)) ∈ G9 := g9 1659 (by decide +kernel) rfl
theorem ok_Jx4a65c_elementData_915e3 : okN yJx4a65c_elementData_915e3 1 := by decide +kernel
theorem k1660 : (Jvm.Cond.instanceMethod ({ cls := "java/util/ArrayList", name := "elementData", desc := "(I)Ljava/lang/Object;" } : Jvm.MethodName)) ∈ G9 := g9 1660 (by decide +kernel) rfl
theorem k1661 : (Jvm.Cond.selects "java/util/ArrayList" ({ cls := "java/util/ArrayList", name := "elementData", desc := "(I)Ljava/lang/Object;" } : Jvm.MethodName) ({ cls := "java/util/ArrayList", name := "elementData", desc := "(I)Ljava/lang/Object;" } : Jvm.MethodName)) ∈ G9 := g9 1661 (by decide +kernel) rfl
theorem k1345 : (Jvm.Cond.fieldLink "HeroTableModel" (33 : Nat) "HeroTableModel" "order" "Ljava/util/List;") ∈ G9 := g9 1345 (by decide +kernel) rfl
theorem k1652 : (Jvm.Cond.code ({ cls := "java/util/ArrayList", name := "get", desc := "(I)Ljava/lang/Object;" } : Jvm.MethodName) prog_45_method_20_code (2 : Nat) (Option.some (Jvm.ClassFile.FieldType.object "java/lang/Object"))) ∈ G9 := g9 1652 (by decide +kernel) rfl
theorem k1645 : (Jvm.Cond.methodLink "HeroTableModel" (55 : Nat) ({ cls := "java/util/List", name := "get", desc := "(I)Ljava/lang/Object;" } : Jvm.MethodName)) ∈ G9 := g9 1645 (by decide +kernel) rfl
theorem k1648 : (Jvm.Cond.selects "java/util/ArrayList" ({ cls := "java/util/List", name := "get", desc := "(I)Ljava/lang/Object;" } : Jvm.MethodName) ({ cls := "java/util/ArrayList", name := "get", desc := "(I)Ljava/lang/Object;" } : Jvm.MethodName)) ∈ G9 := g9 1648 (by decide +kernel) rfl
theorem k1650 : (Jvm.Cond.instanceMethod ({ cls := "java/util/ArrayList", name := "get", desc := "(I)Ljava/lang/Object;" } : Jvm.MethodName)) ∈ G9 := g9 1650 (by decide +kernel) rfl
theorem okx_get : okN yI_get 1 := by decide +kernel
theorem k1480 : (Jvm.Cond.classLink "HeroTableModel" (59 : Nat) "HeroTableModel$Hero") ∈ G9 := g9 1480 (by decide +kernel) rfl
theorem k2105 : (Jvm.Cond.code ({ cls := "HeroTableModel", name := "now", desc := "()LHeroTableModel$Hero;" } : Jvm.MethodName) prog_10_method_7_code (1 : Nat) (Option.some (Jvm.ClassFile.FieldType.object "HeroTableModel$Hero"))) ∈ G9 := g9 2105 (by decide +kernel) rfl
theorem k2102 : (Jvm.Cond.methodLink "HeroTableModel" (253 : Nat) ({ cls := "HeroTableModel", name := "now", desc := "()LHeroTableModel$Hero;" } : Jvm.MethodName)) ∈ G9 := g9 2102 (by decide +kernel) rfl
theorem ok_X11_now : okN yX11_now 0 := by decide +kernel
theorem k2104 : (Jvm.Cond.instanceMethod ({ cls := "HeroTableModel", name := "now", desc := "()LHeroTableModel$Hero;" } : Jvm.MethodName)) ∈ G9 := g9 2104 (by decide +kernel) rfl
theorem k34 : (Jvm.Cond.selects "HeroTableModel" ({ cls := "HeroTableModel", name := "now", desc := "()LHeroTableModel$Hero;" } : Jvm.MethodName) ({ cls := "HeroTableModel", name := "now", desc := "()LHeroTableModel$Hero;" } : Jvm.MethodName)) ∈ G9 := g9 34 (by decide +kernel) rfl
theorem k1349 : (Jvm.Cond.fieldLink "HeroTableModel" (272 : Nat) "HeroTableModel" "hasAction" "Z") ∈ G9 := g9 1349 (by decide +kernel) rfl
theorem k1711 : (Jvm.Cond.methodLink "HeroTableModel" (165 : Nat) ({ cls := "java/lang/Math", name := "max", desc := "(II)I" } : Jvm.MethodName)) ∈ G9 := g9 1711 (by decide +kernel) rfl
theorem k1348 : (Jvm.Cond.fieldLink "HeroTableModel" (275 : Nat) "HeroTableModel" "steps" "I") ∈ G9 := g9 1348 (by decide +kernel) rfl
theorem k1413 : (Jvm.Cond.code ({ cls := "HeroTableModel", name := "isOn", desc := "()Z" } : Jvm.MethodName) prog_10_method_6_code (1 : Nat) (Option.some Jvm.ClassFile.FieldType.boolean)) ∈ G9 := g9 1413 (by decide +kernel) rfl
theorem k1410 : (Jvm.Cond.methodLink "HeroTableModel" (98 : Nat) ({ cls := "HeroTableModel", name := "isOn", desc := "()Z" } : Jvm.MethodName)) ∈ G9 := g9 1410 (by decide +kernel) rfl
theorem ok_X11_isOn : okN yX11_isOn 0 := by decide +kernel
theorem k1412 : (Jvm.Cond.instanceMethod ({ cls := "HeroTableModel", name := "isOn", desc := "()Z" } : Jvm.MethodName)) ∈ G9 := g9 1412 (by decide +kernel) rfl
theorem k17 : (Jvm.Cond.selects "HeroTableModel" ({ cls := "HeroTableModel", name := "isOn", desc := "()Z" } : Jvm.MethodName) ({ cls := "HeroTableModel", name := "isOn", desc := "()Z" } : Jvm.MethodName)) ∈ G9 := g9 17 (by decide +kernel) rfl
theorem k1353 : (Jvm.Cond.fieldLink "HeroTableModel" (40 : Nat) "HeroTableModel" "thrown" "I") ∈ G9 := g9 1353 (by decide +kernel) rfl
theorem k1484 : (Jvm.Cond.code ({ cls := "HeroTableModel", name := "keep", desc := "(C[I)V" } : Jvm.MethodName) prog_10_method_8_code (3 : Nat) (Option.none : Option Jvm.ClassFile.FieldType)) ∈ G9 := g9 1484 (by decide +kernel) rfl
theorem k1481 : (Jvm.Cond.methodLink "HeroTableModel" (105 : Nat) ({ cls := "HeroTableModel", name := "keep", desc := "(C[I)V" } : Jvm.MethodName)) ∈ G9 := g9 1481 (by decide +kernel) rfl
theorem ok_X11_keep : okN yX11_keep 2 := by decide +kernel
theorem k1483 : (Jvm.Cond.instanceMethod ({ cls := "HeroTableModel", name := "keep", desc := "(C[I)V" } : Jvm.MethodName)) ∈ G9 := g9 1483 (by decide +kernel) rfl
theorem k19 : (Jvm.Cond.selects "HeroTableModel" ({ cls := "HeroTableModel", name := "keep", desc := "(C[I)V" } : Jvm.MethodName) ({ cls := "HeroTableModel", name := "keep", desc := "(C[I)V" } : Jvm.MethodName)) ∈ G9 := g9 19 (by decide +kernel) rfl
theorem k1409 : (Jvm.Cond.code ({ cls := "java/util/ArrayList", name := "size", desc := "()I" } : Jvm.MethodName) prog_45_method_8_code (1 : Nat) (Option.some Jvm.ClassFile.FieldType.int)) ∈ G9 := g9 1409 (by decide +kernel) rfl
theorem k1401 : (Jvm.Cond.methodLink "HeroTableModel" (43 : Nat) ({ cls := "java/util/List", name := "size", desc := "()I" } : Jvm.MethodName)) ∈ G9 := g9 1401 (by decide +kernel) rfl
theorem k1405 : (Jvm.Cond.selects "java/util/ArrayList" ({ cls := "java/util/List", name := "size", desc := "()I" } : Jvm.MethodName) ({ cls := "java/util/ArrayList", name := "size", desc := "()I" } : Jvm.MethodName)) ∈ G9 := g9 1405 (by decide +kernel) rfl
theorem k1407 : (Jvm.Cond.instanceMethod ({ cls := "java/util/ArrayList", name := "size", desc := "()I" } : Jvm.MethodName)) ∈ G9 := g9 1407 (by decide +kernel) rfl
theorem okx_size : okN yI_size 0 := by decide +kernel
theorem k2113 : (Jvm.Cond.code ({ cls := "HeroTableModel", name := "check", desc := "(LHeroTableModel$Hero;)I" } : Jvm.MethodName) prog_10_method_36_code (2 : Nat) (Option.some Jvm.ClassFile.FieldType.int)) ∈ G9 := g9 2113 (by decide +kernel) rfl
theorem k2110 : (Jvm.Cond.methodLink "HeroTableModel" (294 : Nat) ({ cls := "HeroTableModel", name := "check", desc := "(LHeroTableModel$Hero;)I" } : Jvm.MethodName)) ∈ G9 := g9 2110 (by decide +kernel) rfl
theorem ok_X11_check : okN yX11_check 1 := by decide +kernel
theorem k2112 : (Jvm.Cond.instanceMethod ({ cls := "HeroTableModel", name := "check", desc := "(LHeroTableModel$Hero;)I" } : Jvm.MethodName)) ∈ G9 := g9 2112 (by decide +kernel) rfl
theorem k35 : (Jvm.Cond.selects "HeroTableModel" ({ cls := "HeroTableModel", name := "check", desc := "(LHeroTableModel$Hero;)I" } : Jvm.MethodName) ({ cls := "HeroTableModel", name := "check", desc := "(LHeroTableModel$Hero;)I" } : Jvm.MethodName)) ∈ G9 := g9 35 (by decide +kernel) rfl
theorem k1347 : (Jvm.Cond.fieldLink "HeroTableModel" (288 : Nat) "HeroTableModel" "round" "I") ∈ G9 := g9 1347 (by decide +kernel) rfl
theorem k2101 : (Jvm.Cond.code ({ cls := "HeroTableModel", name := "beginTurn", desc := "()I" } : Jvm.MethodName) prog_10_method_39_code (4 : Nat) (Option.some Jvm.ClassFile.FieldType.int)) ∈ G9 := g9 2101 (by decide +kernel) rfl
theorem k2098 : (Jvm.Cond.methodLink "HeroTableModel" (291 : Nat) ({ cls := "HeroTableModel", name := "beginTurn", desc := "()I" } : Jvm.MethodName)) ∈ G9 := g9 2098 (by decide +kernel) rfl
theorem ok_X11_beginTurn : okN yX11_beginTurn 0 := by decide +kernel
theorem k2100 : (Jvm.Cond.instanceMethod ({ cls := "HeroTableModel", name := "beginTurn", desc := "()I" } : Jvm.MethodName)) ∈ G9 := g9 2100 (by decide +kernel) rfl
theorem k33 : (Jvm.Cond.selects "HeroTableModel" ({ cls := "HeroTableModel", name := "beginTurn", desc := "()I" } : Jvm.MethodName) ({ cls := "HeroTableModel", name := "beginTurn", desc := "()I" } : Jvm.MethodName)) ∈ G9 := g9 33 (by decide +kernel) rfl
theorem dJx4a65c_add_72be8_0 : decode cJx4a65c_add_72be8 0 = .ok (.iload_n 3, 1) := by decide +kernel
theorem dJx4a65c_add_72be8_1 : decode cJx4a65c_add_72be8 1 = .ok (.aload_n 2, 1) := by decide +kernel
theorem dJx4a65c_add_72be8_2 : decode cJx4a65c_add_72be8 2 = .ok (.arraylength, 1) := by decide +kernel
theorem dJx4a65c_add_72be8_3 : decode cJx4a65c_add_72be8 3 = .ok (.if_icmp .ne 8, 3) := by decide +kernel
theorem dJx4a65c_add_72be8_11 : decode cJx4a65c_add_72be8 11 = .ok (.aload_n 2, 1) := by decide +kernel
theorem dJx4a65c_add_72be8_12 : decode cJx4a65c_add_72be8 12 = .ok (.iload_n 3, 1) := by decide +kernel
theorem dJx4a65c_add_72be8_13 : decode cJx4a65c_add_72be8 13 = .ok (.aload_n 1, 1) := by decide +kernel
theorem dJx4a65c_add_72be8_14 : decode cJx4a65c_add_72be8 14 = .ok (.aastore, 1) := by decide +kernel
theorem dJx4a65c_add_72be8_15 : decode cJx4a65c_add_72be8 15 = .ok (.aload_n 0, 1) := by decide +kernel
theorem dJx4a65c_add_72be8_16 : decode cJx4a65c_add_72be8 16 = .ok (.iload_n 3, 1) := by decide +kernel
theorem dJx4a65c_add_72be8_17 : decode cJx4a65c_add_72be8 17 = .ok (.iconst 1, 1) := by decide +kernel
theorem dJx4a65c_add_72be8_18 : decode cJx4a65c_add_72be8 18 = .ok (.iadd, 1) := by decide +kernel
theorem dJx4a65c_add_72be8_19 : decode cJx4a65c_add_72be8 19 = .ok (.putfield 48, 3) := by decide +kernel
theorem dJx4a65c_add_72be8_22 : decode cJx4a65c_add_72be8 22 = .ok (.return_, 1) := by decide +kernel
theorem dJx4a65c_add_9ea2d_0 : decode cJx4a65c_add_9ea2d 0 = .ok (.aload_n 0, 1) := by decide +kernel
theorem dJx4a65c_add_9ea2d_1 : decode cJx4a65c_add_9ea2d 1 = .ok (.dup, 1) := by decide +kernel
theorem dJx4a65c_add_9ea2d_2 : decode cJx4a65c_add_9ea2d 2 = .ok (.getfield 63, 3) := by decide +kernel
theorem dJx4a65c_add_9ea2d_5 : decode cJx4a65c_add_9ea2d 5 = .ok (.iconst 1, 1) := by decide +kernel
theorem dJx4a65c_add_9ea2d_6 : decode cJx4a65c_add_9ea2d 6 = .ok (.iadd, 1) := by decide +kernel
theorem dJx4a65c_add_9ea2d_7 : decode cJx4a65c_add_9ea2d 7 = .ok (.putfield 63, 3) := by decide +kernel
theorem dJx4a65c_add_9ea2d_10 : decode cJx4a65c_add_9ea2d 10 = .ok (.aload_n 0, 1) := by decide +kernel
theorem dJx4a65c_add_9ea2d_11 : decode cJx4a65c_add_9ea2d 11 = .ok (.aload_n 1, 1) := by decide +kernel
theorem dJx4a65c_add_9ea2d_12 : decode cJx4a65c_add_9ea2d 12 = .ok (.aload_n 0, 1) := by decide +kernel
theorem dJx4a65c_add_9ea2d_13 : decode cJx4a65c_add_9ea2d 13 = .ok (.getfield 9, 3) := by decide +kernel
theorem dJx4a65c_add_9ea2d_16 : decode cJx4a65c_add_9ea2d 16 = .ok (.aload_n 0, 1) := by decide +kernel
theorem dJx4a65c_add_9ea2d_17 : decode cJx4a65c_add_9ea2d 17 = .ok (.getfield 48, 3) := by decide +kernel
theorem dJx4a65c_add_9ea2d_20 : decode cJx4a65c_add_9ea2d 20 = .ok (.invokevirtual 131, 3) := by decide +kernel
theorem dJx4a65c_add_9ea2d_23 : decode cJx4a65c_add_9ea2d 23 = .ok (.iconst 1, 1) := by decide +kernel
theorem dJx4a65c_add_9ea2d_24 : decode cJx4a65c_add_9ea2d 24 = .ok (.ireturn, 1) := by decide +kernel
theorem dX8_init_0 : decode cX8_init 0 = .ok (.aload_n 0, 1) := by decide +kernel
theorem dX8_init_1 : decode cX8_init 1 = .ok (.invokespecial 1, 3) := by decide +kernel
theorem dX8_init_4 : decode cX8_init 4 = .ok (.aload_n 0, 1) := by decide +kernel
theorem dX8_init_5 : decode cX8_init 5 = .ok (.iload_n 1, 1) := by decide +kernel
theorem dX8_init_6 : decode cX8_init 6 = .ok (.putfield 7, 3) := by decide +kernel
theorem dX8_init_9 : decode cX8_init 9 = .ok (.aload_n 0, 1) := by decide +kernel
theorem dX8_init_10 : decode cX8_init 10 = .ok (.aload_n 2, 1) := by decide +kernel
theorem dX8_init_11 : decode cX8_init 11 = .ok (.putfield 13, 3) := by decide +kernel
theorem dX8_init_14 : decode cX8_init 14 = .ok (.return_, 1) := by decide +kernel
theorem dX11_keep_0 : decode cX11_keep 0 = .ok (.aload_n 0, 1) := by decide +kernel
theorem dX11_keep_1 : decode cX11_keep 1 = .ok (.getfield 30, 3) := by decide +kernel
theorem dX11_keep_4 : decode cX11_keep 4 = .ok (.new 61, 3) := by decide +kernel
theorem dX11_keep_7 : decode cX11_keep 7 = .ok (.dup, 1) := by decide +kernel
theorem dX11_keep_8 : decode cX11_keep 8 = .ok (.iload_n 1, 1) := by decide +kernel
theorem dX11_keep_9 : decode cX11_keep 9 = .ok (.aload_n 2, 1) := by decide +kernel
theorem dX11_keep_10 : decode cX11_keep 10 = .ok (.invokespecial 63, 3) := by decide +kernel
theorem dX11_keep_13 : decode cX11_keep 13 = .ok (.invokeinterface 66 2, 5) := by decide +kernel
theorem dX11_keep_18 : decode cX11_keep 18 = .ok (.pop, 1) := by decide +kernel
theorem dX11_keep_19 : decode cX11_keep 19 = .ok (.return_, 1) := by decide +kernel
theorem dX11_isOn_0 : decode cX11_isOn 0 = .ok (.aload_n 0, 1) := by decide +kernel
theorem dX11_isOn_1 : decode cX11_isOn 1 = .ok (.getfield 36, 3) := by decide +kernel
theorem dX11_isOn_4 : decode cX11_isOn 4 = .ok (.iconst (-1), 1) := by decide +kernel
theorem dX11_isOn_5 : decode cX11_isOn 5 = .ok (.if_icmp .eq 7, 3) := by decide +kernel
theorem dX11_isOn_8 : decode cX11_isOn 8 = .ok (.iconst 1, 1) := by decide +kernel
theorem dX11_isOn_9 : decode cX11_isOn 9 = .ok (.goto 4, 3) := by decide +kernel
theorem dX11_isOn_13 : decode cX11_isOn 13 = .ok (.ireturn, 1) := by decide +kernel
theorem dJ3_checkIndex_8e157_0 : decode cJ3_checkIndex_8e157 0 = .ok (.iload_n 0, 1) := by decide +kernel
theorem dJ3_checkIndex_8e157_1 : decode cJ3_checkIndex_8e157 1 = .ok (.ifCond .lt 8, 3) := by decide +kernel
theorem dJ3_checkIndex_8e157_4 : decode cJ3_checkIndex_8e157 4 = .ok (.iload_n 0, 1) := by decide +kernel
theorem dJ3_checkIndex_8e157_5 : decode cJ3_checkIndex_8e157 5 = .ok (.iload_n 1, 1) := by decide +kernel
theorem dJ3_checkIndex_8e157_6 : decode cJ3_checkIndex_8e157 6 = .ok (.if_icmp .lt 10, 3) := by decide +kernel
theorem dJ3_checkIndex_8e157_16 : decode cJ3_checkIndex_8e157 16 = .ok (.iload_n 0, 1) := by decide +kernel
theorem dJ3_checkIndex_8e157_17 : decode cJ3_checkIndex_8e157 17 = .ok (.ireturn, 1) := by decide +kernel
theorem dJ15_checkIndex_7cf53_0 : decode cJ15_checkIndex_7cf53 0 = .ok (.iload_n 0, 1) := by decide +kernel
theorem dJ15_checkIndex_7cf53_1 : decode cJ15_checkIndex_7cf53 1 = .ok (.iload_n 1, 1) := by decide +kernel
theorem dJ15_checkIndex_7cf53_2 : decode cJ15_checkIndex_7cf53 2 = .ok (.aconst_null, 1) := by decide +kernel
theorem dJ15_checkIndex_7cf53_3 : decode cJ15_checkIndex_7cf53 3 = .ok (.invokestatic 105, 3) := by decide +kernel
theorem dJ15_checkIndex_7cf53_6 : decode cJ15_checkIndex_7cf53 6 = .ok (.ireturn, 1) := by decide +kernel
theorem dJx4a65c_elementData_915e3_0 : decode cJx4a65c_elementData_915e3 0 = .ok (.aload_n 0, 1) := by decide +kernel
theorem dJx4a65c_elementData_915e3_1 : decode cJx4a65c_elementData_915e3 1 = .ok (.getfield 9, 3) := by decide +kernel
theorem dJx4a65c_elementData_915e3_4 : decode cJx4a65c_elementData_915e3 4 = .ok (.iload_n 1, 1) := by decide +kernel
theorem dJx4a65c_elementData_915e3_5 : decode cJx4a65c_elementData_915e3 5 = .ok (.aaload, 1) := by decide +kernel
theorem dJx4a65c_elementData_915e3_6 : decode cJx4a65c_elementData_915e3 6 = .ok (.areturn, 1) := by decide +kernel
theorem dJx4a65c_get_915e3_0 : decode cJx4a65c_get_915e3 0 = .ok (.iload_n 1, 1) := by decide +kernel
theorem dJx4a65c_get_915e3_1 : decode cJx4a65c_get_915e3 1 = .ok (.aload_n 0, 1) := by decide +kernel
theorem dJx4a65c_get_915e3_2 : decode cJx4a65c_get_915e3 2 = .ok (.getfield 48, 3) := by decide +kernel
theorem dJx4a65c_get_915e3_5 : decode cJx4a65c_get_915e3 5 = .ok (.invokestatic 118, 3) := by decide +kernel
theorem dJx4a65c_get_915e3_8 : decode cJx4a65c_get_915e3 8 = .ok (.pop, 1) := by decide +kernel
theorem dJx4a65c_get_915e3_9 : decode cJx4a65c_get_915e3 9 = .ok (.aload_n 0, 1) := by decide +kernel
theorem dJx4a65c_get_915e3_10 : decode cJx4a65c_get_915e3 10 = .ok (.iload_n 1, 1) := by decide +kernel
theorem dJx4a65c_get_915e3_11 : decode cJx4a65c_get_915e3 11 = .ok (.invokevirtual 123, 3) := by decide +kernel
theorem dJx4a65c_get_915e3_14 : decode cJx4a65c_get_915e3 14 = .ok (.areturn, 1) := by decide +kernel
theorem dX11_now_0 : decode cX11_now 0 = .ok (.aload_n 0, 1) := by decide +kernel
theorem dX11_now_1 : decode cX11_now 1 = .ok (.getfield 33, 3) := by decide +kernel
theorem dX11_now_4 : decode cX11_now 4 = .ok (.aload_n 0, 1) := by decide +kernel
theorem dX11_now_5 : decode cX11_now 5 = .ok (.getfield 36, 3) := by decide +kernel
theorem dX11_now_8 : decode cX11_now 8 = .ok (.invokeinterface 55 2, 5) := by decide +kernel
theorem dX11_now_13 : decode cX11_now 13 = .ok (.checkcast 59, 3) := by decide +kernel
theorem dX11_now_16 : decode cX11_now 16 = .ok (.areturn, 1) := by decide +kernel
theorem dJx4a65c_size_8abf5_0 : decode cJx4a65c_size_8abf5 0 = .ok (.aload_n 0, 1) := by decide +kernel
theorem dJx4a65c_size_8abf5_1 : decode cJx4a65c_size_8abf5 1 = .ok (.getfield 48, 3) := by decide +kernel
theorem dJx4a65c_size_8abf5_4 : decode cJx4a65c_size_8abf5 4 = .ok (.ireturn, 1) := by decide +kernel
theorem dX11_beginTurn_0 : decode cX11_beginTurn 0 = .ok (.aload_n 0, 1) := by decide +kernel
theorem dX11_beginTurn_1 : decode cX11_beginTurn 1 = .ok (.invokevirtual 253, 3) := by decide +kernel
theorem dX11_beginTurn_4 : decode cX11_beginTurn 4 = .ok (.astore_n 1, 1) := by decide +kernel
theorem dX11_beginTurn_5 : decode cX11_beginTurn 5 = .ok (.aload_n 0, 1) := by decide +kernel
theorem dX11_beginTurn_6 : decode cX11_beginTurn 6 = .ok (.getfield 20, 3) := by decide +kernel
theorem dX11_beginTurn_9 : decode cX11_beginTurn 9 = .ok (.invokeinterface 70 1, 5) := by decide +kernel
theorem dX11_beginTurn_14 : decode cX11_beginTurn 14 = .ok (.astore_n 2, 1) := by decide +kernel
theorem dX11_beginTurn_15 : decode cX11_beginTurn 15 = .ok (.aload_n 2, 1) := by decide +kernel
theorem dX11_beginTurn_16 : decode cX11_beginTurn 16 = .ok (.invokeinterface 74 1, 5) := by decide +kernel
theorem dX11_beginTurn_21 : decode cX11_beginTurn 21 = .ok (.ifCond .eq 67, 3) := by decide +kernel
theorem dX11_beginTurn_24 : decode cX11_beginTurn 24 = .ok (.aload_n 2, 1) := by decide +kernel
theorem dX11_beginTurn_25 : decode cX11_beginTurn 25 = .ok (.invokeinterface 80 1, 5) := by decide +kernel
theorem dX11_beginTurn_30 : decode cX11_beginTurn 30 = .ok (.checkcast 150, 3) := by decide +kernel
theorem dX11_beginTurn_33 : decode cX11_beginTurn 33 = .ok (.astore_n 3, 1) := by decide +kernel
theorem dX11_beginTurn_34 : decode cX11_beginTurn 34 = .ok (.aload_n 3, 1) := by decide +kernel
theorem dX11_beginTurn_35 : decode cX11_beginTurn 35 = .ok (.getfield 152, 3) := by decide +kernel
theorem dX11_beginTurn_38 : decode cX11_beginTurn 38 = .ok (.ifCond .eq 47, 3) := by decide +kernel
theorem dX11_beginTurn_41 : decode cX11_beginTurn 41 = .ok (.aload_n 3, 1) := by decide +kernel
theorem dX11_beginTurn_42 : decode cX11_beginTurn 42 = .ok (.getfield 257, 3) := by decide +kernel
theorem dX11_beginTurn_45 : decode cX11_beginTurn 45 = .ok (.ifCond .eq 40, 3) := by decide +kernel
theorem dX11_beginTurn_85 : decode cX11_beginTurn 85 = .ok (.goto (-70), 3) := by decide +kernel
theorem dX11_beginTurn_88 : decode cX11_beginTurn 88 = .ok (.aload_n 1, 1) := by decide +kernel
theorem dX11_beginTurn_89 : decode cX11_beginTurn 89 = .ok (.bipush 32, 2) := by decide +kernel
theorem dX11_beginTurn_91 : decode cX11_beginTurn 91 = .ok (.putfield 266, 3) := by decide +kernel
theorem dX11_beginTurn_94 : decode cX11_beginTurn 94 = .ok (.aload_n 1, 1) := by decide +kernel
theorem dX11_beginTurn_95 : decode cX11_beginTurn 95 = .ok (.iconst 1, 1) := by decide +kernel
theorem dX11_beginTurn_96 : decode cX11_beginTurn 96 = .ok (.putfield 269, 3) := by decide +kernel
theorem dX11_beginTurn_99 : decode cX11_beginTurn 99 = .ok (.aload_n 0, 1) := by decide +kernel
theorem dX11_beginTurn_100 : decode cX11_beginTurn 100 = .ok (.iconst 1, 1) := by decide +kernel
theorem dX11_beginTurn_101 : decode cX11_beginTurn 101 = .ok (.putfield 272, 3) := by decide +kernel
theorem dX11_beginTurn_104 : decode cX11_beginTurn 104 = .ok (.aload_n 0, 1) := by decide +kernel
theorem dX11_beginTurn_105 : decode cX11_beginTurn 105 = .ok (.iconst 0, 1) := by decide +kernel
theorem dX11_beginTurn_106 : decode cX11_beginTurn 106 = .ok (.aload_n 0, 1) := by decide +kernel
theorem dX11_beginTurn_107 : decode cX11_beginTurn 107 = .ok (.aload_n 1, 1) := by decide +kernel
theorem dX11_beginTurn_108 : decode cX11_beginTurn 108 = .ok (.bipush 115, 2) := by decide +kernel
theorem dX11_beginTurn_110 : decode cX11_beginTurn 110 = .ok (.invokevirtual 217, 3) := by decide +kernel
theorem dX11_beginTurn_113 : decode cX11_beginTurn 113 = .ok (.invokestatic 165, 3) := by decide +kernel
theorem dX11_beginTurn_116 : decode cX11_beginTurn 116 = .ok (.putfield 275, 3) := by decide +kernel
theorem dX11_beginTurn_119 : decode cX11_beginTurn 119 = .ok (.aload_n 1, 1) := by decide +kernel
theorem dX11_beginTurn_120 : decode cX11_beginTurn 120 = .ok (.getfield 202, 3) := by decide +kernel
theorem dX11_beginTurn_123 : decode cX11_beginTurn 123 = .ok (.ireturn, 1) := by decide +kernel
theorem dX11_endTurn_0 : decode cX11_endTurn 0 = .ok (.aload_n 0, 1) := by decide +kernel
theorem dX11_endTurn_1 : decode cX11_endTurn 1 = .ok (.aload_n 0, 1) := by decide +kernel
theorem dX11_endTurn_2 : decode cX11_endTurn 2 = .ok (.invokevirtual 98, 3) := by decide +kernel
theorem dX11_endTurn_5 : decode cX11_endTurn 5 = .ok (.ifCond .eq 7, 3) := by decide +kernel
theorem dX11_endTurn_8 : decode cX11_endTurn 8 = .ok (.iconst 0, 1) := by decide +kernel
theorem dX11_endTurn_9 : decode cX11_endTurn 9 = .ok (.goto 4, 3) := by decide +kernel
theorem dX11_endTurn_13 : decode cX11_endTurn 13 = .ok (.putfield 40, 3) := by decide +kernel
theorem dX11_endTurn_16 : decode cX11_endTurn 16 = .ok (.aload_n 0, 1) := by decide +kernel
theorem dX11_endTurn_17 : decode cX11_endTurn 17 = .ok (.getfield 40, 3) := by decide +kernel
theorem dX11_endTurn_20 : decode cX11_endTurn 20 = .ok (.ifCond .le 5, 3) := by decide +kernel
theorem dX11_endTurn_25 : decode cX11_endTurn 25 = .ok (.aload_n 0, 1) := by decide +kernel
theorem dX11_endTurn_26 : decode cX11_endTurn 26 = .ok (.bipush 101, 2) := by decide +kernel
theorem dX11_endTurn_28 : decode cX11_endTurn 28 = .ok (.iconst 0, 1) := by decide +kernel
theorem dX11_endTurn_29 : decode cX11_endTurn 29 = .ok (.newarray .int, 2) := by decide +kernel
theorem dX11_endTurn_31 : decode cX11_endTurn 31 = .ok (.invokevirtual 105, 3) := by decide +kernel
theorem dX11_endTurn_34 : decode cX11_endTurn 34 = .ok (.aload_n 0, 1) := by decide +kernel
theorem dX11_endTurn_35 : decode cX11_endTurn 35 = .ok (.invokevirtual 253, 3) := by decide +kernel
theorem dX11_endTurn_38 : decode cX11_endTurn 38 = .ok (.astore_n 1, 1) := by decide +kernel
theorem dX11_endTurn_39 : decode cX11_endTurn 39 = .ok (.aload_n 0, 1) := by decide +kernel
theorem dX11_endTurn_40 : decode cX11_endTurn 40 = .ok (.getfield 20, 3) := by decide +kernel
theorem dX11_endTurn_43 : decode cX11_endTurn 43 = .ok (.invokeinterface 43 1, 5) := by decide +kernel
theorem dX11_endTurn_48 : decode cX11_endTurn 48 = .ok (.istore_n 2, 1) := by decide +kernel
theorem dX11_endTurn_49 : decode cX11_endTurn 49 = .ok (.iconst 0, 1) := by decide +kernel
theorem dX11_endTurn_50 : decode cX11_endTurn 50 = .ok (.istore_n 3, 1) := by decide +kernel
theorem dX11_endTurn_51 : decode cX11_endTurn 51 = .ok (.iload_n 3, 1) := by decide +kernel
theorem dX11_endTurn_52 : decode cX11_endTurn 52 = .ok (.iload_n 2, 1) := by decide +kernel
theorem dX11_endTurn_53 : decode cX11_endTurn 53 = .ok (.if_icmp .ge 85, 3) := by decide +kernel
theorem dX11_endTurn_56 : decode cX11_endTurn 56 = .ok (.aload_n 0, 1) := by decide +kernel
theorem dX11_endTurn_57 : decode cX11_endTurn 57 = .ok (.getfield 20, 3) := by decide +kernel
theorem dX11_endTurn_60 : decode cX11_endTurn 60 = .ok (.iload_n 3, 1) := by decide +kernel
theorem dX11_endTurn_61 : decode cX11_endTurn 61 = .ok (.invokeinterface 55 2, 5) := by decide +kernel
theorem dX11_endTurn_66 : decode cX11_endTurn 66 = .ok (.checkcast 150, 3) := by decide +kernel
theorem dX11_endTurn_69 : decode cX11_endTurn 69 = .ok (.astore 4, 2) := by decide +kernel
theorem dX11_endTurn_71 : decode cX11_endTurn 71 = .ok (.aload 4, 2) := by decide +kernel
theorem dX11_endTurn_73 : decode cX11_endTurn 73 = .ok (.getfield 152, 3) := by decide +kernel
theorem dX11_endTurn_76 : decode cX11_endTurn 76 = .ok (.ifCond .eq 56, 3) := by decide +kernel
theorem dX11_endTurn_79 : decode cX11_endTurn 79 = .ok (.aload 4, 2) := by decide +kernel
theorem dX11_endTurn_81 : decode cX11_endTurn 81 = .ok (.getfield 159, 3) := by decide +kernel
theorem dX11_endTurn_84 : decode cX11_endTurn 84 = .ok (.aload_n 1, 1) := by decide +kernel
theorem dX11_endTurn_85 : decode cX11_endTurn 85 = .ok (.getfield 202, 3) := by decide +kernel
theorem dX11_endTurn_88 : decode cX11_endTurn 88 = .ok (.if_icmp .ne 44, 3) := by decide +kernel
theorem dX11_endTurn_91 : decode cX11_endTurn 91 = .ok (.aload 4, 2) := by decide +kernel
theorem dX11_endTurn_93 : decode cX11_endTurn 93 = .ok (.getfield 209, 3) := by decide +kernel
theorem dX11_endTurn_96 : decode cX11_endTurn 96 = .ok (.bipush 99, 2) := by decide +kernel
theorem dX11_endTurn_98 : decode cX11_endTurn 98 = .ok (.if_icmp .ne 34, 3) := by decide +kernel
theorem dX11_endTurn_101 : decode cX11_endTurn 101 = .ok (.aload 4, 2) := by decide +kernel
theorem dX11_endTurn_103 : decode cX11_endTurn 103 = .ok (.getfield 212, 3) := by decide +kernel
theorem dX11_endTurn_106 : decode cX11_endTurn 106 = .ok (.ifCond .le 26, 3) := by decide +kernel
theorem dX11_endTurn_109 : decode cX11_endTurn 109 = .ok (.aload 4, 2) := by decide +kernel
theorem dX11_endTurn_111 : decode cX11_endTurn 111 = .ok (.aload_n 0, 1) := by decide +kernel
theorem dX11_endTurn_112 : decode cX11_endTurn 112 = .ok (.aload_n 1, 1) := by decide +kernel
theorem dX11_endTurn_113 : decode cX11_endTurn 113 = .ok (.invokevirtual 294, 3) := by decide +kernel
theorem dX11_endTurn_116 : decode cX11_endTurn 116 = .ok (.aload 4, 2) := by decide +kernel
theorem dX11_endTurn_118 : decode cX11_endTurn 118 = .ok (.getfield 212, 3) := by decide +kernel
theorem dX11_endTurn_121 : decode cX11_endTurn 121 = .ok (.if_icmp .ge 7, 3) := by decide +kernel
theorem dX11_endTurn_124 : decode cX11_endTurn 124 = .ok (.iconst 1, 1) := by decide +kernel
theorem dX11_endTurn_125 : decode cX11_endTurn 125 = .ok (.goto 4, 3) := by decide +kernel
theorem dX11_endTurn_129 : decode cX11_endTurn 129 = .ok (.putfield 152, 3) := by decide +kernel
theorem dX11_endTurn_132 : decode cX11_endTurn 132 = .ok (.iinc 3 1, 3) := by decide +kernel
theorem dX11_endTurn_135 : decode cX11_endTurn 135 = .ok (.goto (-84), 3) := by decide +kernel
theorem dX11_endTurn_138 : decode cX11_endTurn 138 = .ok (.aload_n 0, 1) := by decide +kernel
theorem dX11_endTurn_139 : decode cX11_endTurn 139 = .ok (.dup, 1) := by decide +kernel
theorem dX11_endTurn_140 : decode cX11_endTurn 140 = .ok (.getfield 36, 3) := by decide +kernel
theorem dX11_endTurn_143 : decode cX11_endTurn 143 = .ok (.iconst 1, 1) := by decide +kernel
theorem dX11_endTurn_144 : decode cX11_endTurn 144 = .ok (.iadd, 1) := by decide +kernel
theorem dX11_endTurn_145 : decode cX11_endTurn 145 = .ok (.putfield 36, 3) := by decide +kernel
theorem dX11_endTurn_148 : decode cX11_endTurn 148 = .ok (.aload_n 0, 1) := by decide +kernel
theorem dX11_endTurn_149 : decode cX11_endTurn 149 = .ok (.getfield 36, 3) := by decide +kernel
theorem dX11_endTurn_152 : decode cX11_endTurn 152 = .ok (.aload_n 0, 1) := by decide +kernel
theorem dX11_endTurn_153 : decode cX11_endTurn 153 = .ok (.getfield 33, 3) := by decide +kernel
theorem dX11_endTurn_156 : decode cX11_endTurn 156 = .ok (.invokeinterface 43 1, 5) := by decide +kernel
theorem dX11_endTurn_161 : decode cX11_endTurn 161 = .ok (.if_icmp .ne 18, 3) := by decide +kernel
theorem dX11_endTurn_164 : decode cX11_endTurn 164 = .ok (.aload_n 0, 1) := by decide +kernel
theorem dX11_endTurn_165 : decode cX11_endTurn 165 = .ok (.iconst 0, 1) := by decide +kernel
theorem dX11_endTurn_166 : decode cX11_endTurn 166 = .ok (.putfield 36, 3) := by decide +kernel
theorem dX11_endTurn_169 : decode cX11_endTurn 169 = .ok (.aload_n 0, 1) := by decide +kernel
theorem dX11_endTurn_170 : decode cX11_endTurn 170 = .ok (.dup, 1) := by decide +kernel
theorem dX11_endTurn_171 : decode cX11_endTurn 171 = .ok (.getfield 288, 3) := by decide +kernel
theorem dX11_endTurn_174 : decode cX11_endTurn 174 = .ok (.iconst 1, 1) := by decide +kernel
theorem dX11_endTurn_175 : decode cX11_endTurn 175 = .ok (.iadd, 1) := by decide +kernel
theorem dX11_endTurn_176 : decode cX11_endTurn 176 = .ok (.putfield 288, 3) := by decide +kernel
theorem dX11_endTurn_179 : decode cX11_endTurn 179 = .ok (.aload_n 0, 1) := by decide +kernel
theorem dX11_endTurn_180 : decode cX11_endTurn 180 = .ok (.invokevirtual 291, 3) := by decide +kernel
theorem dX11_endTurn_183 : decode cX11_endTurn 183 = .ok (.ireturn, 1) := by decide +kernel
theorem q_preab {g : GP} {s : State} {args : Array Value} {A : Nat → Prop} {ws : va_W} {H : Heap} {locs : List Loc} (av : List Value) (htg : ∀ w ∈ G9, w.before args s = true) (hP : va_P g.1 CLS ws H) (hK : va_K g.1 CLS (TYS g.2.1) s) (hS : va_S A s.heap H locs) (hT : SF g A s s.heap) (hA : ∀ q : Nat, s.heap.size ≤ q → A q) (i0 i1 : Nat) {f0 f1 : List Value} (h0 : ws[i0]? = some (g.2.2 2000, .inr (5, f0))) (h1 : ws[i1]? = some (g.2.2 2001, .inr (3, f1))) (e1 : f0[2]? = some (.ref (g.2.2 2002))) (e2 : f0[3]? = some (.ref (g.2.2 2005))) (e3 : f1[0]? = some (.int 0)) (e4 : f1[4]? = some (.ref (g.2.2 2004))) :
    FrameBlind (va_Pc av (PREa g [] H.size)) ∧ ∀ U : State, U.heap = H → s.WarmedH U.vm → va_Pc av (PREa g [] H.size) av.toArray U := by
  have nA : ∀ {a : Nat}, a < H.size → ¬ va_A [] H.size a := fun h q => q.elim (fun ⟨k, e, z⟩ => by simp at z) (fun z => absurd h (Nat.not_lt.mpr z))
  have hF : ∀ q, va_A [] H.size q → A q := fun q z => z.elim (fun ⟨k, e, z⟩ => by simp at z) (fun z => hA q (Nat.le_trans hS.1 z))
  have l0 : g.2.2 2000 < H.size := (hP i0 _ h0).lt
  have l1 : g.2.2 2001 < H.size := (hP i1 _ h1).lt
  refine ⟨q_blinda, fun U hU hW => ⟨rfl, ((q_pre av (wc := []) (fun k x hx => by simp at hx) ⟨fun i j p q hx => by simp at hx, fun k q hx => by simp at hx⟩ hK hS hT hF).2 U hU hW).2, ?_⟩⟩
  rw [hU]
  exact EXT.moved hW.alike ⟨q_o hK hP i0 h0 rfl (nA l0), q_of htg inG_X11 hK hP i0 h0 rfl 2 (by decide) e1 (nA l0), q_of htg inG_X11 hK hP i0 h0 rfl 3 (by decide) e2 (nA l0), q_of htg inG_X9 hK hP i1 h1 rfl 0 (by decide) e3 (nA l1), q_of htg inG_X9 hK hP i1 h1 rfl 4 (by decide) e4 (nA l1)⟩

set_option maxHeartbeats 4000000 in
set_option maxRecDepth 100000 in
theorem c_add3 (l : Launch) (hfl : l.stackTraces = false) (g : GP) (mc : Nat) (mca : Nat) (k1 : Nat) (nc : Nat) (c0 : Int32) (fc : Nat → Option Nat) (z2 : Nat) (w1 : Int32) (w2 : Nat) (hkc : k1 < nc) (hnc : nc < 2 ^ 31) : CV l yJx4a65c_add_72be8 (wG yJx4a65c_add_72be8 cJx4a65c_add_72be8 4 (Option.none : Option Jvm.ClassFile.FieldType)) (LV 2 0 0) g [.ref mc, .ref z2, .ref mca, .int (nI k1)] ([(mc, .inr (1, [.int c0, .ref mca, .int (nI k1)])), (mca, .inl (g.2.1 5, nc, .inr (.inr (.inr (.inr fc))))), (z2, .inr (2, [.int w1, .ref w2]))]) (fun (u : va_W) => ∃ (f2 : Nat → Option Nat), u = [(mc, .inr (1, [.int c0, .ref mca, .int (nI (k1 + 1))])), (mca, .inl (g.2.1 5, nc, .inr (.inr (.inr (.inr f2)))))]) := by
  intro sz
  refine Met.ofW (cc := cJx4a65c_add_72be8) (maxL := 4) (ret := (Option.none : Option Jvm.ClassFile.FieldType)) (by decide) rfl ?_
  intro p e s m args below meth c s₁ B hml hv
  obtain ⟨rfl, hsz, hP, hK, hD0, hT0⟩ := hv
  have hx := B.exec
  have hb := B.bytes
  have hr := B.returns
  have hts := atoms_spec (ws := (wG yJx4a65c_add_72be8 cJx4a65c_add_72be8 4 (Option.none : Option Jvm.ClassFile.FieldType))) B.pre
  have htg : ∀ w ∈ G9, w.before _ s = true := fun w h => hts w (List.mem_cons_of_mem _ h)
  have hown : s.vm.findClass "java/util/ArrayList" = some m.cls := findClass_of_methodNamed B.named
  have hlocks := B.notSynchronized
  subst hsz
  have hD := hD0.self (sz := s.heap.size)
  have hT := hT0
  clear hT0
  generalize hAe : va_A [(mc, .inr (1, [.int c0, .ref mca, .int (nI k1)])), (mca, .inl (g.2.1 5, nc, .inr (.inr (.inr (.inr fc))))), (z2, .inr (2, [.int w1, .ref w2]))] s.heap.size = A at hD hT ⊢
  have hA : ∀ q : Nat, s.heap.size ≤ q → A q := fun q h => by rw [← hAe]; exact Or.inr h
  obtain ⟨H, hH0⟩ : ∃ H, H = s.heap := ⟨_, rfl⟩
  have hS : va_S A s.heap H [] := by rw [hH0]; exact va_S.rf
  have hP : va_P g.1 CLS [(mc, .inr (1, [.int c0, .ref mca, .int (nI k1)])), (mca, .inl (g.2.1 5, nc, .inr (.inr (.inr (.inr fc))))), (z2, .inr (2, [.int w1, .ref w2]))] H := by rw [hH0]; exact hP
  rw [← hH0]
  have hl := lv_entry ([.ref mc, .ref z2, .ref mca, .int (nI k1)]) (n := 4) (Nat.le_of_ble_eq_true rfl)
  rw [lg_entry_eq]
  generalize (lg_sl ([.ref mc, .ref z2, .ref mca, .int (nI k1)]) ++ List.replicate (4 - (lg_sl ([.ref mc, .ref z2, .ref mca, .int (nI k1)])).length) Slot.unset).toArray = ls at hl ⊢
  have hl : lv_has ls 4 [(0, .ref mc), (1, .ref z2), (2, .ref mca), (3, .int (nI k1))] := hl
  refine lv_iload_n hx hb dJx4a65c_add_72be8_0 rfl (lv_at hl 3 rfl) ?_
  refine lv_aload_n hx hb dJx4a65c_add_72be8_1 rfl (lv_at hl 2 rfl) ?_
  refine va_alen (v := nI nc) hx hb hK hP 1 5 rfl rfl rfl dJx4a65c_add_72be8_2 ?_
  refine lv_icmp_ne (tgt := 11) hx hb dJx4a65c_add_72be8_3 (by decide) (fun c_1 => ?_) (fun c_1 => absurd c_1 (q_ne hkc hnc))
  refine lv_aload_n hx hb dJx4a65c_add_72be8_11 rfl (lv_at hl 2 rfl) ?_
  refine lv_iload_n hx hb dJx4a65c_add_72be8_12 rfl (lv_at hl 3 rfl) ?_
  refine lv_aload_n hx hb dJx4a65c_add_72be8_13 rfl (lv_at hl 1 rfl) ?_
  refine va_astqO hx hb hK hP hD hS 1 5 2 2 rfl rfl hT.1.2.1 rfl rfl (i := (nI k1)) (vp_in_nI hkc hnc) dJx4a65c_add_72be8_14 (fun H locs hP hD hS => ?_)
  have hP : va_P g.1 CLS [(mc, .inr (1, [.int c0, .ref mca, .int (nI k1)])), (mca, .inl (g.2.1 5, nc, .inr (.inr (.inr (.inr (va_up fc ((nI k1).toNatClampNeg) (some z2))))))), (z2, .inr (2, [.int w1, .ref w2]))] H := hP
  have hD : va_D A [(mc, .inr (1, [.int c0, .ref mca, .int (nI k1)])), (mca, .inl (g.2.1 5, nc, .inr (.inr (.inr (.inr (va_up fc ((nI k1).toNatClampNeg) (some z2))))))), (z2, .inr (2, [.int w1, .ref w2]))] := hD
  refine lv_aload_n hx hb dJx4a65c_add_72be8_15 rfl (lv_at hl 0 rfl) ?_
  refine lv_iload_n hx hb dJx4a65c_add_72be8_16 rfl (lv_at hl 3 rfl) ?_
  refine lv_iconst (v := 1) hx hb dJx4a65c_add_72be8_17 (by decide) ?_
  refine lv_iadd hx hb dJx4a65c_add_72be8_18 ?_
  refine lv_topi (fun x9 e9 => ?_)
  obtain rfl : x9 = nI (k1 + 1) := e9.trans (nI_1 k1)
  refine va_put (D := g.1) (ci := 1) (v := .int (nI (k1 + 1))) (ty := .int) (C := RJx4a65c) (T := TJx4a65c) (N := 3) hx hb htg inG_Jx4a65c tyJx4a65c tyJx4a65c_ok nmJx4a65c hown hK hP hD hS 0 rfl rfl 2 (by decide) (htg _ k1310) (fun _ h9 => h9) rfl (by decide +kernel) rfl rfl (Nat.le_of_ble_eq_true rfl) dJx4a65c_add_72be8_19 (fun H locs hP hD hS => ?_)
  have hP : va_P g.1 CLS [(mc, .inr (1, [.int c0, .ref mca, .int (nI (k1 + 1))])), (mca, .inl (g.2.1 5, nc, .inr (.inr (.inr (.inr (va_up fc ((nI k1).toNatClampNeg) (some z2))))))), (z2, .inr (2, [.int w1, .ref w2]))] H := hP
  have hD : va_D A [(mc, .inr (1, [.int c0, .ref mca, .int (nI (k1 + 1))])), (mca, .inl (g.2.1 5, nc, .inr (.inr (.inr (.inr (va_up fc ((nI k1).toNatClampNeg) (some z2))))))), (z2, .inr (2, [.int w1, .ref w2]))] := hD
  have hP9 := hP.sub (ws' := [(mc, .inr (1, [.int c0, .ref mca, .int (nI (k1 + 1))])), (mca, .inl (g.2.1 5, nc, .inr (.inr (.inr (.inr (va_up fc ((nI k1).toNatClampNeg) (some z2)))))))]) [0, 1] rfl
  have hD9 := hD.sub (ws' := [(mc, .inr (1, [.int c0, .ref mca, .int (nI (k1 + 1))])), (mca, .inl (g.2.1 5, nc, .inr (.inr (.inr (.inr (va_up fc ((nI k1).toNatClampNeg) (some z2)))))))]) [0, 1] (by decide) rfl
  refine W.widen (k := 0) (n := 0) (Nat.le_of_ble_eq_true rfl) (Nat.le_of_ble_eq_true rfl) ?_
  exact W.vret hx hb hr (fun t ht hW => ⟨⟨[(mc, .inr (1, [.int c0, .ref mca, .int (nI (k1 + 1))])), (mca, .inl (g.2.1 5, nc, .inr (.inr (.inr (.inr (va_up fc ((nI k1).toNatClampNeg) (some z2)))))))], rfl, ⟨(va_up fc ((nI k1).toNatClampNeg) (some z2)), rfl⟩, by rw [ht]; exact hP9, va_K.moved hW.alike hK, hD9⟩, hS.F ht⟩) hS.2.2 dJx4a65c_add_72be8_22

set_option maxHeartbeats 4000000 in
set_option maxRecDepth 100000 in
theorem c_add (l : Launch) (hfl : l.stackTraces = false) (g : GP) (mc : Nat) (mca : Nat) (k1 : Nat) (nc : Nat) (c0 : Int32) (fc : Nat → Option Nat) (z2 : Nat) (w1 : Int32) (w2 : Nat) (hkc : k1 < nc) (hnc : nc < 2 ^ 31) : CI l yJx4a65c_add_9ea2d (wG yJx4a65c_add_9ea2d cJx4a65c_add_9ea2d 2 (Option.some Jvm.ClassFile.FieldType.boolean)) (LV 3 0 0) g [.ref mc, .ref z2] ([(mc, .inr (1, [.int c0, .ref mca, .int (nI k1)])), (mca, .inl (g.2.1 5, nc, .inr (.inr (.inr (.inr fc))))), (z2, .inr (2, [.int w1, .ref w2]))]) (fun (r : Int32) (u : va_W) => ∃ (c9 : Int32) (f2 : Nat → Option Nat), r = 1 ∧ u = [(mc, .inr (1, [.int c9, .ref mca, .int (nI (k1 + 1))])), (mca, .inl (g.2.1 5, nc, .inr (.inr (.inr (.inr f2)))))]) := by
  intro sz
  refine Met.ofW (cc := cJx4a65c_add_9ea2d) (maxL := 2) (ret := (Option.some Jvm.ClassFile.FieldType.boolean)) (by decide) rfl ?_
  intro p e s m args below meth c s₁ B hml hv
  obtain ⟨rfl, hsz, hP, hK, hD0, hT0⟩ := hv
  have hx := B.exec
  have hb := B.bytes
  have hr := B.returns
  have hts := atoms_spec (ws := (wG yJx4a65c_add_9ea2d cJx4a65c_add_9ea2d 2 (Option.some Jvm.ClassFile.FieldType.boolean))) B.pre
  have htg : ∀ w ∈ G9, w.before _ s = true := fun w h => hts w (List.mem_cons_of_mem _ h)
  have hown : s.vm.findClass "java/util/ArrayList" = some m.cls := findClass_of_methodNamed B.named
  have hlocks := B.notSynchronized
  subst hsz
  have hD := hD0.self (sz := s.heap.size)
  have hT := hT0
  clear hT0
  generalize hAe : va_A [(mc, .inr (1, [.int c0, .ref mca, .int (nI k1)])), (mca, .inl (g.2.1 5, nc, .inr (.inr (.inr (.inr fc))))), (z2, .inr (2, [.int w1, .ref w2]))] s.heap.size = A at hD hT ⊢
  have hA : ∀ q : Nat, s.heap.size ≤ q → A q := fun q h => by rw [← hAe]; exact Or.inr h
  obtain ⟨H, hH0⟩ : ∃ H, H = s.heap := ⟨_, rfl⟩
  have hS : va_S A s.heap H [] := by rw [hH0]; exact va_S.rf
  have hP : va_P g.1 CLS [(mc, .inr (1, [.int c0, .ref mca, .int (nI k1)])), (mca, .inl (g.2.1 5, nc, .inr (.inr (.inr (.inr fc))))), (z2, .inr (2, [.int w1, .ref w2]))] H := by rw [hH0]; exact hP
  rw [← hH0]
  have hl := lv_entry ([.ref mc, .ref z2]) (n := 2) (Nat.le_of_ble_eq_true rfl)
  rw [lg_entry_eq]
  generalize (lg_sl ([.ref mc, .ref z2]) ++ List.replicate (2 - (lg_sl ([.ref mc, .ref z2])).length) Slot.unset).toArray = ls at hl ⊢
  have hl : lv_has ls 2 [(0, .ref mc), (1, .ref z2)] := hl
  refine lv_aload_n hx hb dJx4a65c_add_9ea2d_0 rfl (lv_at hl 0 rfl) ?_
  refine lv_dup hx hb dJx4a65c_add_9ea2d_1 rfl ?_
  refine va_get (D := g.1) (ci := 1) (v := .int c0) (C := RJx4a65c) (T := TJx4a65c) (N := 3) hx hb htg inG_Jx4a65c hown hK hP 0 rfl rfl 0 (by decide) (htg _ k1314) (fun x9 h9 => u_same (htg _ k1313) x9 h9) rfl dJx4a65c_add_9ea2d_2 ?_
  refine lv_iconst (v := 1) hx hb dJx4a65c_add_9ea2d_5 (by decide) ?_
  refine lv_iadd hx hb dJx4a65c_add_9ea2d_6 ?_
  refine lv_topi (fun x_1 ex_1 => ?_)
  refine va_put (D := g.1) (ci := 1) (v := .int x_1) (ty := .int) (C := RJx4a65c) (T := TJx4a65c) (N := 3) hx hb htg inG_Jx4a65c tyJx4a65c tyJx4a65c_ok nmJx4a65c hown hK hP hD hS 0 rfl rfl 0 (by decide) (htg _ k1314) (fun x9 h9 => u_same (htg _ k1313) x9 h9) rfl (by decide +kernel) rfl rfl (Nat.le_of_ble_eq_true rfl) dJx4a65c_add_9ea2d_7 (fun H locs hP hD hS => ?_)
  have hP : va_P g.1 CLS [(mc, .inr (1, [.int x_1, .ref mca, .int (nI k1)])), (mca, .inl (g.2.1 5, nc, .inr (.inr (.inr (.inr fc))))), (z2, .inr (2, [.int w1, .ref w2]))] H := hP
  have hD : va_D A [(mc, .inr (1, [.int x_1, .ref mca, .int (nI k1)])), (mca, .inl (g.2.1 5, nc, .inr (.inr (.inr (.inr fc))))), (z2, .inr (2, [.int w1, .ref w2]))] := hD
  refine lv_aload_n hx hb dJx4a65c_add_9ea2d_10 rfl (lv_at hl 0 rfl) ?_
  refine lv_aload_n hx hb dJx4a65c_add_9ea2d_11 rfl (lv_at hl 1 rfl) ?_
  refine lv_aload_n hx hb dJx4a65c_add_9ea2d_12 rfl (lv_at hl 0 rfl) ?_
  refine va_get (D := g.1) (ci := 1) (v := .ref mca) (C := RJx4a65c) (T := TJx4a65c) (N := 3) hx hb htg inG_Jx4a65c hown hK hP 0 rfl rfl 1 (by decide) (htg _ k1307) (fun _ h9 => h9) rfl dJx4a65c_add_9ea2d_13 ?_
  refine lv_aload_n hx hb dJx4a65c_add_9ea2d_16 rfl (lv_at hl 0 rfl) ?_
  refine va_get (D := g.1) (ci := 1) (v := .int (nI k1)) (C := RJx4a65c) (T := TJx4a65c) (N := 3) hx hb htg inG_Jx4a65c hown hK hP 0 rfl rfl 2 (by decide) (htg _ k1310) (fun _ h9 => h9) rfl dJx4a65c_add_9ea2d_17 ?_
  have hPc := hP.sub (ws' := [(mc, .inr (1, [.int x_1, .ref mca, .int (nI k1)])), (mca, .inl (g.2.1 5, nc, .inr (.inr (.inr (.inr fc))))), (z2, .inr (2, [.int w1, .ref w2]))]) [0, 1, 2] rfl
  have hDc := hD.sub (ws' := [(mc, .inr (1, [.int x_1, .ref mca, .int (nI k1)])), (mca, .inl (g.2.1 5, nc, .inr (.inr (.inr (.inr fc))))), (z2, .inr (2, [.int w1, .ref w2]))]) [0, 1, 2] (by decide) rfl
  have hFc := va_free (wc := [(mc, .inr (1, [.int x_1, .ref mca, .int (nI k1)])), (mca, .inl (g.2.1 5, nc, .inr (.inr (.inr (.inr fc))))), (z2, .inr (2, [.int w1, .ref w2]))]) hD hS hA [0, 1, 2] rfl
  refine q_cv (wr := []) (va_runV (As := [.ref z2, .ref mca, .int (nI k1)]) (rest := []) ⟨hx, hb, hml, hown, htg⟩ (c_add3 l hfl g mc mca k1 nc x_1 fc z2 w1 w2 (hkc) (hnc) H.size) ⟨(qB htg k1512 k60 k1509 ok_Jx4a65c_add_72be8 rfl rfl ⟨Nat.le_of_ble_eq_true rfl, Nat.le_of_ble_eq_true rfl⟩), htg _ k1511, htg _ k20⟩ ⟨(q_pre [.ref mc, .ref z2, .ref mca, .int (nI k1)] hPc hDc hK hS hT hFc).1, va_recv hK hP (ci := 1) (q0 := 0) rfl rfl, (q_pre [.ref mc, .ref z2, .ref mca, .int (nI k1)] hPc hDc hK hS hT hFc).2⟩ rfl rfl hl.1 rfl (lv_room (Nat.le_of_ble_eq_true rfl)) dJx4a65c_add_9ea2d_20 ⟨Nat.le_of_ble_eq_true rfl, Nat.le_of_ble_eq_true rfl⟩) hP hD hS hFc [0, 1, 2] [] rfl rfl (by decide) (by decide) (fun u9 H locs hw hP hD hS => ?_)
  try dsimp only at hw
  rcases hw with ⟨f_2, rfl⟩
  have hP : va_P g.1 CLS [(mc, .inr (1, [.int x_1, .ref mca, .int (nI (k1 + 1))])), (mca, .inl (g.2.1 5, nc, .inr (.inr (.inr (.inr f_2)))))] H := hP
  have hD : va_D A [(mc, .inr (1, [.int x_1, .ref mca, .int (nI (k1 + 1))])), (mca, .inl (g.2.1 5, nc, .inr (.inr (.inr (.inr f_2)))))] := hD
  refine W.widen (k := 0) (n := 0) (Nat.le_of_ble_eq_true rfl) (Nat.le_of_ble_eq_true rfl) ?_
  refine lv_iconst (v := 1) hx hb dJx4a65c_add_9ea2d_23 (by decide) ?_
  have hP9 := hP.sub (ws' := [(mc, .inr (1, [.int x_1, .ref mca, .int (nI (k1 + 1))])), (mca, .inl (g.2.1 5, nc, .inr (.inr (.inr (.inr f_2)))))]) [0, 1] rfl
  have hD9 := hD.sub (ws' := [(mc, .inr (1, [.int x_1, .ref mca, .int (nI (k1 + 1))])), (mca, .inl (g.2.1 5, nc, .inr (.inr (.inr (.inr f_2)))))]) [0, 1] (by decide) rfl
  refine W.widen (k := 0) (n := 0) (Nat.le_of_ble_eq_true rfl) (Nat.le_of_ble_eq_true rfl) ?_
  exact W.zret (v := 1) hx hb hr rfl (fun t ht hW => ⟨⟨1, [(mc, .inr (1, [.int x_1, .ref mca, .int (nI (k1 + 1))])), (mca, .inl (g.2.1 5, nc, .inr (.inr (.inr (.inr f_2)))))], rfl, ⟨x_1, f_2, rfl, rfl⟩, by rw [ht]; exact hP9, va_K.moved hW.alike hK, hD9⟩, hS.F ht⟩) hS.2.2 dJx4a65c_add_9ea2d_24

set_option maxHeartbeats 4000000 in
set_option maxRecDepth 100000 in
theorem c_X8_init (l : Launch) (hfl : l.stackTraces = false) (g : GP) (z0 : Nat) (z1 : Nat)  : CV l yX8_init (wG yX8_init cX8_init 3 (Option.none : Option Jvm.ClassFile.FieldType)) (LV 2 0 0) g [.ref z0, .int 101, .ref z1] ([(z0, .inr (2, [.int 0, .null]))]) (fun (u : va_W) => u = [(z0, .inr (2, [.int 101, .ref z1]))]) := by
  intro sz
  refine Met.ofW (cc := cX8_init) (maxL := 3) (ret := (Option.none : Option Jvm.ClassFile.FieldType)) (by decide) rfl ?_
  intro p e s m args below meth c s₁ B hml hv
  obtain ⟨rfl, hsz, hP, hK, hD0, hT0⟩ := hv
  have hx := B.exec
  have hb := B.bytes
  have hr := B.returns
  have hts := atoms_spec (ws := (wG yX8_init cX8_init 3 (Option.none : Option Jvm.ClassFile.FieldType))) B.pre
  have htg : ∀ w ∈ G9, w.before _ s = true := fun w h => hts w (List.mem_cons_of_mem _ h)
  have hown : s.vm.findClass "HeroTableModel$Call" = some m.cls := findClass_of_methodNamed B.named
  have hlocks := B.notSynchronized
  have hin : meth.name = "<init>" := (name_of_methodNamed B.named B.method).1
  subst hsz
  have hD := hD0.self (sz := s.heap.size)
  have hT := hT0
  clear hT0
  generalize hAe : va_A [(z0, .inr (2, [.int 0, .null]))] s.heap.size = A at hD hT ⊢
  have hA : ∀ q : Nat, s.heap.size ≤ q → A q := fun q h => by rw [← hAe]; exact Or.inr h
  obtain ⟨H, hH0⟩ : ∃ H, H = s.heap := ⟨_, rfl⟩
  have hS : va_S A s.heap H [] := by rw [hH0]; exact va_S.rf
  have hP : va_P g.1 CLS [(z0, .inr (2, [.int 0, .null]))] H := by rw [hH0]; exact hP
  rw [← hH0]
  have hl := lv_entry ([.ref z0, .int 101, .ref z1]) (n := 3) (Nat.le_of_ble_eq_true rfl)
  rw [lg_entry_eq]
  generalize (lg_sl ([.ref z0, .int 101, .ref z1]) ++ List.replicate (3 - (lg_sl ([.ref z0, .int 101, .ref z1])).length) Slot.unset).toArray = ls at hl ⊢
  have hl : lv_has ls 3 [(0, .ref z0), (1, .int 101), (2, .ref z1)] := hl
  refine lv_aload_n hx hb dX8_init_0 rfl (lv_at hl 0 rfl) ?_
  refine W.objInit hx hb hown (htg _ k1490) (htg _ k98) (htg _ k99) rfl (by rw [hml]; exact hl.1) rfl dX8_init_1 (Nat.le_of_ble_eq_true rfl) (Nat.le_of_ble_eq_true rfl) ?_
  refine W.eq (g2 := F0 m 4 ls []) rfl ?_
  refine lv_aload_n hx hb dX8_init_4 rfl (lv_at hl 0 rfl) ?_
  refine lv_iload_n hx hb dX8_init_5 rfl (lv_at hl 1 rfl) ?_
  refine va_putF (D := g.1) (ci := 2) (v := .int 101) (ty := .char) (C := RX8) (T := TX8) (N := 2) hx hb htg inG_X8 tyX8 tyX8_ok nmX8 hown hK hP hD hS 0 rfl rfl 0 (by decide) (htg _ k1491) (fun _ h9 => h9) rfl hin rfl (by decide +kernel) rfl rfl (Nat.le_of_ble_eq_true rfl) dX8_init_6 (fun H locs hP hD hS => ?_)
  have hP : va_P g.1 CLS [(z0, .inr (2, [.int 101, .null]))] H := hP
  have hD : va_D A [(z0, .inr (2, [.int 101, .null]))] := hD
  refine lv_aload_n hx hb dX8_init_9 rfl (lv_at hl 0 rfl) ?_
  refine lv_aload_n hx hb dX8_init_10 rfl (lv_at hl 2 rfl) ?_
  refine va_putF (D := g.1) (ci := 2) (v := .ref z1) (ty := (.array .int)) (C := RX8) (T := TX8) (N := 2) hx hb htg inG_X8 tyX8 tyX8_ok nmX8 hown hK hP hD hS 0 rfl rfl 1 (by decide) (htg _ k1493) (fun _ h9 => h9) rfl hin rfl (by decide +kernel) rfl rfl (Nat.le_of_ble_eq_true rfl) dX8_init_11 (fun H locs hP hD hS => ?_)
  have hP : va_P g.1 CLS [(z0, .inr (2, [.int 101, .ref z1]))] H := hP
  have hD : va_D A [(z0, .inr (2, [.int 101, .ref z1]))] := hD
  have hP9 := hP.sub (ws' := [(z0, .inr (2, [.int 101, .ref z1]))]) [0] rfl
  have hD9 := hD.sub (ws' := [(z0, .inr (2, [.int 101, .ref z1]))]) [0] (by decide) rfl
  refine W.widen (k := 0) (n := 0) (Nat.le_of_ble_eq_true rfl) (Nat.le_of_ble_eq_true rfl) ?_
  exact W.vret hx hb hr (fun t ht hW => ⟨⟨[(z0, .inr (2, [.int 101, .ref z1]))], rfl, rfl, by rw [ht]; exact hP9, va_K.moved hW.alike hK, hD9⟩, hS.F ht⟩) hS.2.2 dX8_init_14

set_option maxHeartbeats 4000000 in
set_option maxRecDepth 100000 in
theorem c_keep (l : Launch) (hfl : l.stackTraces = false) (g : GP) (mh : Nat) (mg : Nat) (mc : Nat) (n1 : Int32) (n2 : Int32) (n3 : Int32) (n4 : Int64) (n5 : Int32) (n6 : Int32) (n7 : Int32) (mca : Nat) (k1 : Nat) (nc : Nat) (c0 : Int32) (fc : Nat → Option Nat) (z1 : Nat) (hkc : k1 < nc) (hnc : nc < 2 ^ 31) : CV l yX11_keep (wG yX11_keep cX11_keep 3 (Option.none : Option Jvm.ClassFile.FieldType)) (LV 4 1 2) g [.ref (g.2.2 2000), .int 101, .ref z1] ([((g.2.2 2000), .inr (5, [.ref mh, .ref mg, .ref (g.2.2 2002), .ref (g.2.2 2005), .ref mc, .ref (g.2.2 2006), .int 0, .int n1, .int n2, .int n3, .long n4, .int n5, .int n6, .int n7])), (mc, .inr (1, [.int c0, .ref mca, .int (nI k1)])), (mca, .inl (g.2.1 5, nc, .inr (.inr (.inr (.inr fc)))))]) (fun (u : va_W) => ∃ (c9 : Int32) (f2 : Nat → Option Nat), u = [((g.2.2 2000), .inr (5, [.ref mh, .ref mg, .ref (g.2.2 2002), .ref (g.2.2 2005), .ref mc, .ref (g.2.2 2006), .int 0, .int n1, .int n2, .int n3, .long n4, .int n5, .int n6, .int n7])), (mc, .inr (1, [.int c9, .ref mca, .int (nI (k1 + 1))])), (mca, .inl (g.2.1 5, nc, .inr (.inr (.inr (.inr f2)))))]) := by
  intro sz
  refine Met.ofW (cc := cX11_keep) (maxL := 3) (ret := (Option.none : Option Jvm.ClassFile.FieldType)) (by decide) rfl ?_
  intro p e s m args below meth c s₁ B hml hv
  obtain ⟨rfl, hsz, hP, hK, hD0, hT0⟩ := hv
  have hx := B.exec
  have hb := B.bytes
  have hr := B.returns
  have hts := atoms_spec (ws := (wG yX11_keep cX11_keep 3 (Option.none : Option Jvm.ClassFile.FieldType))) B.pre
  have htg : ∀ w ∈ G9, w.before _ s = true := fun w h => hts w (List.mem_cons_of_mem _ h)
  have hown : s.vm.findClass "HeroTableModel" = some m.cls := findClass_of_methodNamed B.named
  have hlocks := B.notSynchronized
  subst hsz
  have hD := hD0.self (sz := s.heap.size)
  have hT := hT0
  clear hT0
  generalize hAe : va_A [((g.2.2 2000), .inr (5, [.ref mh, .ref mg, .ref (g.2.2 2002), .ref (g.2.2 2005), .ref mc, .ref (g.2.2 2006), .int 0, .int n1, .int n2, .int n3, .long n4, .int n5, .int n6, .int n7])), (mc, .inr (1, [.int c0, .ref mca, .int (nI k1)])), (mca, .inl (g.2.1 5, nc, .inr (.inr (.inr (.inr fc)))))] s.heap.size = A at hD hT ⊢
  have hA : ∀ q : Nat, s.heap.size ≤ q → A q := fun q h => by rw [← hAe]; exact Or.inr h
  obtain ⟨H, hH0⟩ : ∃ H, H = s.heap := ⟨_, rfl⟩
  have hS : va_S A s.heap H [] := by rw [hH0]; exact va_S.rf
  have hP : va_P g.1 CLS [((g.2.2 2000), .inr (5, [.ref mh, .ref mg, .ref (g.2.2 2002), .ref (g.2.2 2005), .ref mc, .ref (g.2.2 2006), .int 0, .int n1, .int n2, .int n3, .long n4, .int n5, .int n6, .int n7])), (mc, .inr (1, [.int c0, .ref mca, .int (nI k1)])), (mca, .inl (g.2.1 5, nc, .inr (.inr (.inr (.inr fc)))))] H := by rw [hH0]; exact hP
  rw [← hH0]
  have hl := lv_entry ([.ref (g.2.2 2000), .int 101, .ref z1]) (n := 3) (Nat.le_of_ble_eq_true rfl)
  rw [lg_entry_eq]
  generalize (lg_sl ([.ref (g.2.2 2000), .int 101, .ref z1]) ++ List.replicate (3 - (lg_sl ([.ref (g.2.2 2000), .int 101, .ref z1])).length) Slot.unset).toArray = ls at hl ⊢
  have hl : lv_has ls 3 [(0, .ref (g.2.2 2000)), (1, .int 101), (2, .ref z1)] := hl
  refine lv_aload_n hx hb dX11_keep_0 rfl (lv_at hl 0 rfl) ?_
  refine va_get (D := g.1) (ci := 5) (v := .ref mc) (C := RX11) (T := TX11) (N := 14) hx hb htg inG_X11 hown hK hP 0 rfl rfl 4 (by decide) (htg _ k1344) (fun _ h9 => h9) rfl dX11_keep_1 ?_
  refine va_new (ci := 2) (fs := [.int 0, .null]) (C := RX8) (T := TX8) (N := 2) hx hb htg inG_X8 tyX8 tyX8_ok hown (htg _ k1485) (htg _ k1486) (htg _ k74) hK hP hD hS hA rfl (by decide) (Nat.le_of_ble_eq_true rfl) (Nat.le_of_ble_eq_true rfl) dX11_keep_4 (fun q_1 H hP hD hS => ?_)
  have hP : va_P g.1 CLS [((g.2.2 2000), .inr (5, [.ref mh, .ref mg, .ref (g.2.2 2002), .ref (g.2.2 2005), .ref mc, .ref (g.2.2 2006), .int 0, .int n1, .int n2, .int n3, .long n4, .int n5, .int n6, .int n7])), (mc, .inr (1, [.int c0, .ref mca, .int (nI k1)])), (mca, .inl (g.2.1 5, nc, .inr (.inr (.inr (.inr fc))))), (q_1, .inr (2, [.int 0, .null]))] H := hP
  have hD : va_D A [((g.2.2 2000), .inr (5, [.ref mh, .ref mg, .ref (g.2.2 2002), .ref (g.2.2 2005), .ref mc, .ref (g.2.2 2006), .int 0, .int n1, .int n2, .int n3, .long n4, .int n5, .int n6, .int n7])), (mc, .inr (1, [.int c0, .ref mca, .int (nI k1)])), (mca, .inl (g.2.1 5, nc, .inr (.inr (.inr (.inr fc))))), (q_1, .inr (2, [.int 0, .null]))] := hD
  refine W.widen (k := 1) (n := 2) (Nat.le_of_ble_eq_true rfl) (Nat.le_of_ble_eq_true rfl) ?_
  refine lv_dup hx hb dX11_keep_7 rfl ?_
  refine lv_iload_n hx hb dX11_keep_8 rfl (lv_at hl 1 rfl) ?_
  refine lv_aload_n hx hb dX11_keep_9 rfl (lv_at hl 2 rfl) ?_
  have hPc := hP.sub (ws' := [(q_1, .inr (2, [.int 0, .null]))]) [3] rfl
  have hDc := hD.sub (ws' := [(q_1, .inr (2, [.int 0, .null]))]) [3] (by decide) rfl
  have hFc := va_free (wc := [(q_1, .inr (2, [.int 0, .null]))]) hD hS hA [3] rfl
  refine q_cv (wr := [((g.2.2 2000), .inr (5, [.ref mh, .ref mg, .ref (g.2.2 2002), .ref (g.2.2 2005), .ref mc, .ref (g.2.2 2006), .int 0, .int n1, .int n2, .int n3, .long n4, .int n5, .int n6, .int n7])), (mc, .inr (1, [.int c0, .ref mca, .int (nI k1)])), (mca, .inl (g.2.1 5, nc, .inr (.inr (.inr (.inr fc)))))]) (va_runI (As := [.int 101, .ref z1]) (rest := [.ref q_1, .ref mc]) ⟨hx, hb, hml, hown, htg⟩ (c_X8_init l hfl g q_1 z1  H.size) ⟨(qB htg k1489 k74 k1487 ok_X8_init rfl rfl ⟨Nat.le_of_ble_eq_true rfl, Nat.le_of_ble_eq_true rfl⟩), rfl, htg _ k1488⟩ (q_pre [.ref q_1, .int 101, .ref z1] hPc hDc hK hS hT hFc) rfl rfl hl.1 rfl (lv_room (Nat.le_of_ble_eq_true rfl)) dX11_keep_10 ⟨Nat.le_of_ble_eq_true rfl, Nat.le_of_ble_eq_true rfl⟩) hP hD hS hFc [3] [0, 1, 2] rfl rfl (by decide) (by decide) (fun u9 H locs hw hP hD hS => ?_)
  try dsimp only at hw
  rcases hw with rfl
  have hP : va_P g.1 CLS [((g.2.2 2000), .inr (5, [.ref mh, .ref mg, .ref (g.2.2 2002), .ref (g.2.2 2005), .ref mc, .ref (g.2.2 2006), .int 0, .int n1, .int n2, .int n3, .long n4, .int n5, .int n6, .int n7])), (mc, .inr (1, [.int c0, .ref mca, .int (nI k1)])), (mca, .inl (g.2.1 5, nc, .inr (.inr (.inr (.inr fc))))), (q_1, .inr (2, [.int 101, .ref z1]))] H := hP
  have hD : va_D A [((g.2.2 2000), .inr (5, [.ref mh, .ref mg, .ref (g.2.2 2002), .ref (g.2.2 2005), .ref mc, .ref (g.2.2 2006), .int 0, .int n1, .int n2, .int n3, .long n4, .int n5, .int n6, .int n7])), (mc, .inr (1, [.int c0, .ref mca, .int (nI k1)])), (mca, .inl (g.2.1 5, nc, .inr (.inr (.inr (.inr fc))))), (q_1, .inr (2, [.int 101, .ref z1]))] := hD
  refine W.widen (k := 1) (n := 2) (Nat.le_of_ble_eq_true rfl) (Nat.le_of_ble_eq_true rfl) ?_
  have hPc := hP.sub (ws' := [(mc, .inr (1, [.int c0, .ref mca, .int (nI k1)])), (mca, .inl (g.2.1 5, nc, .inr (.inr (.inr (.inr fc))))), (q_1, .inr (2, [.int 101, .ref z1]))]) [1, 2, 3] rfl
  have hDc := hD.sub (ws' := [(mc, .inr (1, [.int c0, .ref mca, .int (nI k1)])), (mca, .inl (g.2.1 5, nc, .inr (.inr (.inr (.inr fc))))), (q_1, .inr (2, [.int 101, .ref z1]))]) [1, 2, 3] (by decide) rfl
  have hFc := va_free (wc := [(mc, .inr (1, [.int c0, .ref mca, .int (nI k1)])), (mca, .inl (g.2.1 5, nc, .inr (.inr (.inr (.inr fc))))), (q_1, .inr (2, [.int 101, .ref z1]))]) hD hS hA [1, 2, 3] rfl
  refine q_cFi (wr := [((g.2.2 2000), .inr (5, [.ref mh, .ref mg, .ref (g.2.2 2002), .ref (g.2.2 2005), .ref mc, .ref (g.2.2 2006), .int 0, .int n1, .int n2, .int n3, .long n4, .int n5, .int n6, .int n7]))]) (va_runF (As := [.ref q_1]) (rest := []) (hK.1 1 _ rfl).2 ⟨hx, hb, hml, hown, htg⟩ (c_add l hfl g mc mca k1 nc c0 fc q_1 101 z1 (hkc) (hnc) H.size) (qI5 htg k1508 k60 k1501 k1504 k1506 (hT.1.2.2.2.2.2.1) okx_add rfl rfl ⟨Nat.le_of_ble_eq_true rfl, Nat.le_of_ble_eq_true rfl⟩) ⟨(q_pre [.ref mc, .ref q_1] hPc hDc hK hS hT hFc).1, va_recv hK hP (ci := 1) (q0 := 1) rfl rfl, (q_pre [.ref mc, .ref q_1] hPc hDc hK hS hT hFc).2⟩ rfl rfl hl.1 rfl (lv_room (Nat.le_of_ble_eq_true rfl)) dX11_keep_13 ⟨Nat.le_of_ble_eq_true rfl, Nat.le_of_ble_eq_true rfl⟩) hP hD hS hFc [1, 2, 3] [0] rfl rfl (by decide) (by decide) (fun r9 u9 H locs hw hP hD hS => ?_)
  try dsimp only at hw
  rcases hw with ⟨v_2, f_3, rfl, rfl⟩
  have hP : va_P g.1 CLS [((g.2.2 2000), .inr (5, [.ref mh, .ref mg, .ref (g.2.2 2002), .ref (g.2.2 2005), .ref mc, .ref (g.2.2 2006), .int 0, .int n1, .int n2, .int n3, .long n4, .int n5, .int n6, .int n7])), (mc, .inr (1, [.int v_2, .ref mca, .int (nI (k1 + 1))])), (mca, .inl (g.2.1 5, nc, .inr (.inr (.inr (.inr f_3)))))] H := hP
  have hD : va_D A [((g.2.2 2000), .inr (5, [.ref mh, .ref mg, .ref (g.2.2 2002), .ref (g.2.2 2005), .ref mc, .ref (g.2.2 2006), .int 0, .int n1, .int n2, .int n3, .long n4, .int n5, .int n6, .int n7])), (mc, .inr (1, [.int v_2, .ref mca, .int (nI (k1 + 1))])), (mca, .inl (g.2.1 5, nc, .inr (.inr (.inr (.inr f_3)))))] := hD
  refine W.widen (k := 1) (n := 2) (Nat.le_of_ble_eq_true rfl) (Nat.le_of_ble_eq_true rfl) ?_
  refine lv_pop hx hb dX11_keep_18 rfl ?_
  have hP9 := hP.sub (ws' := [((g.2.2 2000), .inr (5, [.ref mh, .ref mg, .ref (g.2.2 2002), .ref (g.2.2 2005), .ref mc, .ref (g.2.2 2006), .int 0, .int n1, .int n2, .int n3, .long n4, .int n5, .int n6, .int n7])), (mc, .inr (1, [.int v_2, .ref mca, .int (nI (k1 + 1))])), (mca, .inl (g.2.1 5, nc, .inr (.inr (.inr (.inr f_3)))))]) [0, 1, 2] rfl
  have hD9 := hD.sub (ws' := [((g.2.2 2000), .inr (5, [.ref mh, .ref mg, .ref (g.2.2 2002), .ref (g.2.2 2005), .ref mc, .ref (g.2.2 2006), .int 0, .int n1, .int n2, .int n3, .long n4, .int n5, .int n6, .int n7])), (mc, .inr (1, [.int v_2, .ref mca, .int (nI (k1 + 1))])), (mca, .inl (g.2.1 5, nc, .inr (.inr (.inr (.inr f_3)))))]) [0, 1, 2] (by decide) rfl
  refine W.widen (k := 1) (n := 2) (Nat.le_of_ble_eq_true rfl) (Nat.le_of_ble_eq_true rfl) ?_
  exact W.vret hx hb hr (fun t ht hW => ⟨⟨[((g.2.2 2000), .inr (5, [.ref mh, .ref mg, .ref (g.2.2 2002), .ref (g.2.2 2005), .ref mc, .ref (g.2.2 2006), .int 0, .int n1, .int n2, .int n3, .long n4, .int n5, .int n6, .int n7])), (mc, .inr (1, [.int v_2, .ref mca, .int (nI (k1 + 1))])), (mca, .inl (g.2.1 5, nc, .inr (.inr (.inr (.inr f_3)))))], rfl, ⟨v_2, f_3, rfl⟩, by rw [ht]; exact hP9, va_K.moved hW.alike hK, hD9⟩, hS.F ht⟩) hS.2.2 dX11_keep_19

set_option maxHeartbeats 4000000 in
set_option maxRecDepth 100000 in
theorem c_isOn (l : Launch) (hfl : l.stackTraces = false) (g : GP) (mh : Nat) (mg : Nat) (mc : Nat) (n1 : Int32) (n2 : Int32) (n3 : Int32) (n4 : Int64) (n5 : Int32) (n6 : Int32) (n7 : Int32)  : CI l yX11_isOn (wG yX11_isOn cX11_isOn 1 (Option.some Jvm.ClassFile.FieldType.boolean)) (LV 1 0 0) g [.ref (g.2.2 2000)] ([((g.2.2 2000), .inr (5, [.ref mh, .ref mg, .ref (g.2.2 2002), .ref (g.2.2 2005), .ref mc, .ref (g.2.2 2006), .int 0, .int n1, .int n2, .int n3, .long n4, .int n5, .int n6, .int n7]))]) (fun (r : Int32) (u : va_W) => r = 1 ∧ u = [((g.2.2 2000), .inr (5, [.ref mh, .ref mg, .ref (g.2.2 2002), .ref (g.2.2 2005), .ref mc, .ref (g.2.2 2006), .int 0, .int n1, .int n2, .int n3, .long n4, .int n5, .int n6, .int n7]))]) := by
  intro sz
  refine Met.ofW (cc := cX11_isOn) (maxL := 1) (ret := (Option.some Jvm.ClassFile.FieldType.boolean)) (by decide) rfl ?_
  intro p e s m args below meth c s₁ B hml hv
  obtain ⟨rfl, hsz, hP, hK, hD0, hT0⟩ := hv
  have hx := B.exec
  have hb := B.bytes
  have hr := B.returns
  have hts := atoms_spec (ws := (wG yX11_isOn cX11_isOn 1 (Option.some Jvm.ClassFile.FieldType.boolean))) B.pre
  have htg : ∀ w ∈ G9, w.before _ s = true := fun w h => hts w (List.mem_cons_of_mem _ h)
  have hown : s.vm.findClass "HeroTableModel" = some m.cls := findClass_of_methodNamed B.named
  have hlocks := B.notSynchronized
  subst hsz
  have hD := hD0.self (sz := s.heap.size)
  have hT := hT0
  clear hT0
  generalize hAe : va_A [((g.2.2 2000), .inr (5, [.ref mh, .ref mg, .ref (g.2.2 2002), .ref (g.2.2 2005), .ref mc, .ref (g.2.2 2006), .int 0, .int n1, .int n2, .int n3, .long n4, .int n5, .int n6, .int n7]))] s.heap.size = A at hD hT ⊢
  have hA : ∀ q : Nat, s.heap.size ≤ q → A q := fun q h => by rw [← hAe]; exact Or.inr h
  obtain ⟨H, hH0⟩ : ∃ H, H = s.heap := ⟨_, rfl⟩
  have hS : va_S A s.heap H [] := by rw [hH0]; exact va_S.rf
  have hP : va_P g.1 CLS [((g.2.2 2000), .inr (5, [.ref mh, .ref mg, .ref (g.2.2 2002), .ref (g.2.2 2005), .ref mc, .ref (g.2.2 2006), .int 0, .int n1, .int n2, .int n3, .long n4, .int n5, .int n6, .int n7]))] H := by rw [hH0]; exact hP
  rw [← hH0]
  have hl := lv_entry ([.ref (g.2.2 2000)]) (n := 1) (Nat.le_of_ble_eq_true rfl)
  rw [lg_entry_eq]
  generalize (lg_sl ([.ref (g.2.2 2000)]) ++ List.replicate (1 - (lg_sl ([.ref (g.2.2 2000)])).length) Slot.unset).toArray = ls at hl ⊢
  have hl : lv_has ls 1 [(0, .ref (g.2.2 2000))] := hl
  refine lv_aload_n hx hb dX11_isOn_0 rfl (lv_at hl 0 rfl) ?_
  refine va_get (D := g.1) (ci := 5) (v := .int 0) (C := RX11) (T := TX11) (N := 14) hx hb htg inG_X11 hown hK hP 0 rfl rfl 6 (by decide) (htg _ k1346) (fun _ h9 => h9) rfl dX11_isOn_1 ?_
  refine lv_iconst (v := (-1)) hx hb dX11_isOn_4 (by decide) ?_
  refine lv_icmp_eq (tgt := 12) hx hb dX11_isOn_5 (by decide) (fun c_1 => absurd c_1 (by decide)) (fun c_1 => ?_)
  refine lv_iconst (v := 1) hx hb dX11_isOn_8 (by decide) ?_
  refine lv_goto (tgt := 13) hx hb dX11_isOn_9 (by decide) ?_
  have hP9 := hP.sub (ws' := [((g.2.2 2000), .inr (5, [.ref mh, .ref mg, .ref (g.2.2 2002), .ref (g.2.2 2005), .ref mc, .ref (g.2.2 2006), .int 0, .int n1, .int n2, .int n3, .long n4, .int n5, .int n6, .int n7]))]) [0] rfl
  have hD9 := hD.sub (ws' := [((g.2.2 2000), .inr (5, [.ref mh, .ref mg, .ref (g.2.2 2002), .ref (g.2.2 2005), .ref mc, .ref (g.2.2 2006), .int 0, .int n1, .int n2, .int n3, .long n4, .int n5, .int n6, .int n7]))]) [0] (by decide) rfl
  refine W.widen (k := 0) (n := 0) (Nat.le_of_ble_eq_true rfl) (Nat.le_of_ble_eq_true rfl) ?_
  exact W.zret (v := 1) hx hb hr rfl (fun t ht hW => ⟨⟨1, [((g.2.2 2000), .inr (5, [.ref mh, .ref mg, .ref (g.2.2 2002), .ref (g.2.2 2005), .ref mc, .ref (g.2.2 2006), .int 0, .int n1, .int n2, .int n3, .long n4, .int n5, .int n6, .int n7]))], rfl, ⟨rfl, rfl⟩, by rw [ht]; exact hP9, va_K.moved hW.alike hK, hD9⟩, hS.F ht⟩) hS.2.2 dX11_isOn_13

set_option maxHeartbeats 4000000 in
set_option maxRecDepth 100000 in
theorem c_chk3_0 (l : Launch) (hfl : l.stackTraces = false) (g : GP)   : CI l yJ3_checkIndex_8e157 (wG yJ3_checkIndex_8e157 cJ3_checkIndex_8e157 3 (Option.some Jvm.ClassFile.FieldType.int)) (LV 1 0 0) g [.int 0, .int 1, .null] ([]) (fun (r : Int32) (u : va_W) => r = 0 ∧ u = []) := by
  intro sz
  refine Met.ofW (cc := cJ3_checkIndex_8e157) (maxL := 3) (ret := (Option.some Jvm.ClassFile.FieldType.int)) (by decide) rfl ?_
  intro p e s m args below meth c s₁ B hml hv
  obtain ⟨rfl, hsz, hP, hK, hD0, hT0⟩ := hv
  have hx := B.exec
  have hb := B.bytes
  have hr := B.returns
  have hts := atoms_spec (ws := (wG yJ3_checkIndex_8e157 cJ3_checkIndex_8e157 3 (Option.some Jvm.ClassFile.FieldType.int))) B.pre
  have htg : ∀ w ∈ G9, w.before _ s = true := fun w h => hts w (List.mem_cons_of_mem _ h)
  have hown : s.vm.findClass "jdk/internal/util/Preconditions" = some m.cls := findClass_of_methodNamed B.named
  have hlocks := B.notSynchronized
  subst hsz
  have hD := hD0.self (sz := s.heap.size)
  have hT := hT0
  clear hT0
  generalize hAe : va_A [] s.heap.size = A at hD hT ⊢
  have hA : ∀ q : Nat, s.heap.size ≤ q → A q := fun q h => by rw [← hAe]; exact Or.inr h
  obtain ⟨H, hH0⟩ : ∃ H, H = s.heap := ⟨_, rfl⟩
  have hS : va_S A s.heap H [] := by rw [hH0]; exact va_S.rf
  have hP : va_P g.1 CLS [] H := by rw [hH0]; exact hP
  rw [← hH0]
  have hl := lv_entry ([.int 0, .int 1, .null]) (n := 3) (Nat.le_of_ble_eq_true rfl)
  rw [lg_entry_eq]
  generalize (lg_sl ([.int 0, .int 1, .null]) ++ List.replicate (3 - (lg_sl ([.int 0, .int 1, .null])).length) Slot.unset).toArray = ls at hl ⊢
  have hl : lv_has ls 3 [(0, .int 0), (1, .int 1), (2, .null)] := hl
  refine lv_iload_n hx hb dJ3_checkIndex_8e157_0 rfl (lv_at hl 0 rfl) ?_
  refine lv_if_lt (tgt := 9) hx hb dJ3_checkIndex_8e157_1 (by decide) (fun c_1 => absurd c_1 (by decide)) (fun c_1 => ?_)
  refine lv_iload_n hx hb dJ3_checkIndex_8e157_4 rfl (lv_at hl 0 rfl) ?_
  refine lv_iload_n hx hb dJ3_checkIndex_8e157_5 rfl (lv_at hl 1 rfl) ?_
  refine lv_icmp_lt (tgt := 16) hx hb dJ3_checkIndex_8e157_6 (by decide) (fun c_2 => ?_) (fun c_2 => absurd (by decide) c_2)
  refine lv_iload_n hx hb dJ3_checkIndex_8e157_16 rfl (lv_at hl 0 rfl) ?_
  have hP9 := hP.sub (ws' := []) [] rfl
  have hD9 := hD.sub (ws' := []) [] (by decide) rfl
  refine W.widen (k := 0) (n := 0) (Nat.le_of_ble_eq_true rfl) (Nat.le_of_ble_eq_true rfl) ?_
  exact W.iret (v := 0) hx hb hr (fun t ht hW => ⟨⟨0, [], rfl, ⟨rfl, rfl⟩, by rw [ht]; exact hP9, va_K.moved hW.alike hK, hD9⟩, hS.F ht⟩) hS.2.2 dJ3_checkIndex_8e157_17

set_option maxHeartbeats 4000000 in
set_option maxRecDepth 100000 in
theorem c_chk_0 (l : Launch) (hfl : l.stackTraces = false) (g : GP)   : CI l yJ15_checkIndex_7cf53 (wG yJ15_checkIndex_7cf53 cJ15_checkIndex_7cf53 2 (Option.some Jvm.ClassFile.FieldType.int)) (LV 2 0 0) g [.int 0, .int 1] ([]) (fun (r : Int32) (u : va_W) => r = 0 ∧ u = []) := by
  intro sz
  refine Met.ofW (cc := cJ15_checkIndex_7cf53) (maxL := 2) (ret := (Option.some Jvm.ClassFile.FieldType.int)) (by decide) rfl ?_
  intro p e s m args below meth c s₁ B hml hv
  obtain ⟨rfl, hsz, hP, hK, hD0, hT0⟩ := hv
  have hx := B.exec
  have hb := B.bytes
  have hr := B.returns
  have hts := atoms_spec (ws := (wG yJ15_checkIndex_7cf53 cJ15_checkIndex_7cf53 2 (Option.some Jvm.ClassFile.FieldType.int))) B.pre
  have htg : ∀ w ∈ G9, w.before _ s = true := fun w h => hts w (List.mem_cons_of_mem _ h)
  have hown : s.vm.findClass "java/util/Objects" = some m.cls := findClass_of_methodNamed B.named
  have hlocks := B.notSynchronized
  subst hsz
  have hD := hD0.self (sz := s.heap.size)
  have hT := hT0
  clear hT0
  generalize hAe : va_A [] s.heap.size = A at hD hT ⊢
  have hA : ∀ q : Nat, s.heap.size ≤ q → A q := fun q h => by rw [← hAe]; exact Or.inr h
  obtain ⟨H, hH0⟩ : ∃ H, H = s.heap := ⟨_, rfl⟩
  have hS : va_S A s.heap H [] := by rw [hH0]; exact va_S.rf
  have hP : va_P g.1 CLS [] H := by rw [hH0]; exact hP
  rw [← hH0]
  have hl := lv_entry ([.int 0, .int 1]) (n := 2) (Nat.le_of_ble_eq_true rfl)
  rw [lg_entry_eq]
  generalize (lg_sl ([.int 0, .int 1]) ++ List.replicate (2 - (lg_sl ([.int 0, .int 1])).length) Slot.unset).toArray = ls at hl ⊢
  have hl : lv_has ls 2 [(0, .int 0), (1, .int 1)] := hl
  refine lv_iload_n hx hb dJ15_checkIndex_7cf53_0 rfl (lv_at hl 0 rfl) ?_
  refine lv_iload_n hx hb dJ15_checkIndex_7cf53_1 rfl (lv_at hl 1 rfl) ?_
  refine lv_null hx hb dJ15_checkIndex_7cf53_2 ?_
  have hPc := hP.sub (ws' := []) [] rfl
  have hDc := hD.sub (ws' := []) [] (by decide) rfl
  have hFc := va_free (wc := []) hD hS hA [] rfl
  refine q_ci (wr := []) (va_runS (As := [.int 0, .int 1, .null]) (rest := []) ⟨hx, hb, hml, hown, htg⟩ (c_chk3_0 l hfl g   H.size) ⟨(qB htg k1658 k80 k1656 ok_J3_checkIndex_8e157 rfl rfl ⟨Nat.le_of_ble_eq_true rfl, Nat.le_of_ble_eq_true rfl⟩), htg _ k1657⟩ (q_pre [.int 0, .int 1, .null] hPc hDc hK hS hT hFc) rfl rfl hl.1 rfl (lv_room (Nat.le_of_ble_eq_true rfl)) dJ15_checkIndex_7cf53_3 ⟨Nat.le_of_ble_eq_true rfl, Nat.le_of_ble_eq_true rfl⟩) hP hD hS hFc [] [] rfl rfl (by decide) (by decide) (fun r9 u9 H locs hw hP hD hS => ?_)
  try dsimp only at hw
  rcases hw with ⟨rfl, rfl⟩
  have hP : va_P g.1 CLS [] H := hP
  have hD : va_D A [] := hD
  refine W.widen (k := 0) (n := 0) (Nat.le_of_ble_eq_true rfl) (Nat.le_of_ble_eq_true rfl) ?_
  have hP9 := hP.sub (ws' := []) [] rfl
  have hD9 := hD.sub (ws' := []) [] (by decide) rfl
  refine W.widen (k := 0) (n := 0) (Nat.le_of_ble_eq_true rfl) (Nat.le_of_ble_eq_true rfl) ?_
  exact W.iret (v := 0) hx hb hr (fun t ht hW => ⟨⟨0, [], rfl, ⟨rfl, rfl⟩, by rw [ht]; exact hP9, va_K.moved hW.alike hK, hD9⟩, hS.F ht⟩) hS.2.2 dJ15_checkIndex_7cf53_6

set_option maxHeartbeats 4000000 in
set_option maxRecDepth 100000 in
theorem c_eD_0 (l : Launch) (hfl : l.stackTraces = false) (g : GP)   : CQ l yJx4a65c_elementData_915e3 (wG yJx4a65c_elementData_915e3 cJx4a65c_elementData_915e3 2 (Option.some (Jvm.ClassFile.FieldType.object "java/lang/Object"))) (LV 1 0 0) g [.ref (g.2.2 2006), .int 0] ([]) (fun (r : Option Nat) (u : va_W) => r = some (g.2.2 2001) ∧ u = []) := by
  intro sz
  refine Met.ofW (cc := cJx4a65c_elementData_915e3) (maxL := 2) (ret := (Option.some (Jvm.ClassFile.FieldType.object "java/lang/Object"))) (by decide) rfl ?_
  intro p e s m args below meth c s₁ B hml hv
  obtain ⟨rfl, hsz, hP, hK, hD0, hT0⟩ := hv
  have hx := B.exec
  have hb := B.bytes
  have hr := B.returns
  have hts := atoms_spec (ws := (wG yJx4a65c_elementData_915e3 cJx4a65c_elementData_915e3 2 (Option.some (Jvm.ClassFile.FieldType.object "java/lang/Object")))) B.pre
  have htg : ∀ w ∈ G9, w.before _ s = true := fun w h => hts w (List.mem_cons_of_mem _ h)
  have hown : s.vm.findClass "java/util/ArrayList" = some m.cls := findClass_of_methodNamed B.named
  have hlocks := B.notSynchronized
  subst hsz
  have hD := hD0.self (sz := s.heap.size)
  have hT := hT0
  clear hT0
  generalize hAe : va_A [] s.heap.size = A at hD hT ⊢
  have hA : ∀ q : Nat, s.heap.size ≤ q → A q := fun q h => by rw [← hAe]; exact Or.inr h
  obtain ⟨H, hH0⟩ : ∃ H, H = s.heap := ⟨_, rfl⟩
  have hS : va_S A s.heap H [] := by rw [hH0]; exact va_S.rf
  have hP : va_P g.1 CLS [] H := by rw [hH0]; exact hP
  rw [← hH0]
  have hl := lv_entry ([.ref (g.2.2 2006), .int 0]) (n := 2) (Nat.le_of_ble_eq_true rfl)
  rw [lg_entry_eq]
  generalize (lg_sl ([.ref (g.2.2 2006), .int 0]) ++ List.replicate (2 - (lg_sl ([.ref (g.2.2 2006), .int 0])).length) Slot.unset).toArray = ls at hl ⊢
  have hl : lv_has ls 2 [(0, .ref (g.2.2 2006)), (1, .int 0)] := hl
  refine lv_aload_n hx hb dJx4a65c_elementData_915e3_0 rfl (lv_at hl 0 rfl) ?_
  refine vk_getf (v := .ref (g.2.2 2007)) hx hb (hT.2.2.2.2.2.1.2.2.1) hS hown (htg _ k1307) (fun _ h9 => h9) dJx4a65c_elementData_915e3_1 ?_
  refine lv_iload_n hx hb dJx4a65c_elementData_915e3_4 rfl (lv_at hl 1 rfl) ?_
  refine vb_tq hx hb (hT.2.2.2.2.2.1.2.2.2) hS (i := nI 0) (vp_in_nI hT.2.2.2.2.2.2.2.2.2.2.1 hT.2.2.2.2.2.2.2.2.2.2.2) (v := .ref (g.2.2 2001)) rfl dJx4a65c_elementData_915e3_5 ?_
  have hP9 := hP.sub (ws' := []) [] rfl
  have hD9 := hD.sub (ws' := []) [] (by decide) rfl
  refine W.widen (k := 0) (n := 0) (Nat.le_of_ble_eq_true rfl) (Nat.le_of_ble_eq_true rfl) ?_
  exact W.aret (v := .ref (g.2.2 2001)) hx hb hr (Or.inl ⟨_, rfl⟩) (Or.inr ⟨_, rfl⟩) (fun t ht hW => ⟨⟨some (g.2.2 2001), [], rfl, ⟨rfl, rfl⟩, by rw [ht]; exact hP9, va_K.moved hW.alike hK, hD9⟩, hS.F ht⟩) hS.2.2 dJx4a65c_elementData_915e3_6

set_option maxHeartbeats 4000000 in
set_option maxRecDepth 100000 in
theorem c_get_0 (l : Launch) (hfl : l.stackTraces = false) (g : GP)   : CQ l yJx4a65c_get_915e3 (wG yJx4a65c_get_915e3 cJx4a65c_get_915e3 2 (Option.some (Jvm.ClassFile.FieldType.object "java/lang/Object"))) (LV 3 0 0) g [.ref (g.2.2 2006), .int 0] ([]) (fun (r : Option Nat) (u : va_W) => r = some (g.2.2 2001) ∧ u = []) := by
  intro sz
  refine Met.ofW (cc := cJx4a65c_get_915e3) (maxL := 2) (ret := (Option.some (Jvm.ClassFile.FieldType.object "java/lang/Object"))) (by decide) rfl ?_
  intro p e s m args below meth c s₁ B hml hv
  obtain ⟨rfl, hsz, hP, hK, hD0, hT0⟩ := hv
  have hx := B.exec
  have hb := B.bytes
  have hr := B.returns
  have hts := atoms_spec (ws := (wG yJx4a65c_get_915e3 cJx4a65c_get_915e3 2 (Option.some (Jvm.ClassFile.FieldType.object "java/lang/Object")))) B.pre
  have htg : ∀ w ∈ G9, w.before _ s = true := fun w h => hts w (List.mem_cons_of_mem _ h)
  have hown : s.vm.findClass "java/util/ArrayList" = some m.cls := findClass_of_methodNamed B.named
  have hlocks := B.notSynchronized
  subst hsz
  have hD := hD0.self (sz := s.heap.size)
  have hT := hT0
  clear hT0
  generalize hAe : va_A [] s.heap.size = A at hD hT ⊢
  have hA : ∀ q : Nat, s.heap.size ≤ q → A q := fun q h => by rw [← hAe]; exact Or.inr h
  obtain ⟨H, hH0⟩ : ∃ H, H = s.heap := ⟨_, rfl⟩
  have hS : va_S A s.heap H [] := by rw [hH0]; exact va_S.rf
  have hP : va_P g.1 CLS [] H := by rw [hH0]; exact hP
  rw [← hH0]
  have hl := lv_entry ([.ref (g.2.2 2006), .int 0]) (n := 2) (Nat.le_of_ble_eq_true rfl)
  rw [lg_entry_eq]
  generalize (lg_sl ([.ref (g.2.2 2006), .int 0]) ++ List.replicate (2 - (lg_sl ([.ref (g.2.2 2006), .int 0])).length) Slot.unset).toArray = ls at hl ⊢
  have hl : lv_has ls 2 [(0, .ref (g.2.2 2006)), (1, .int 0)] := hl
  refine lv_iload_n hx hb dJx4a65c_get_915e3_0 rfl (lv_at hl 1 rfl) ?_
  refine lv_aload_n hx hb dJx4a65c_get_915e3_1 rfl (lv_at hl 0 rfl) ?_
  refine vk_getf (v := .int 1) hx hb (hT.2.2.2.2.2.1.2.1) hS hown (htg _ k1310) (fun _ h9 => h9) dJx4a65c_get_915e3_2 ?_
  have hPc := hP.sub (ws' := []) [] rfl
  have hDc := hD.sub (ws' := []) [] (by decide) rfl
  have hFc := va_free (wc := []) hD hS hA [] rfl
  refine q_ci (wr := []) (va_runS (As := [.int 0, .int 1]) (rest := []) ⟨hx, hb, hml, hown, htg⟩ (c_chk_0 l hfl g   H.size) ⟨(qB htg k1655 k83 k1653 ok_J15_checkIndex_7cf53 rfl rfl ⟨Nat.le_of_ble_eq_true rfl, Nat.le_of_ble_eq_true rfl⟩), htg _ k1654⟩ (q_pre [.int 0, .int 1] hPc hDc hK hS hT hFc) rfl rfl hl.1 rfl (lv_room (Nat.le_of_ble_eq_true rfl)) dJx4a65c_get_915e3_5 ⟨Nat.le_of_ble_eq_true rfl, Nat.le_of_ble_eq_true rfl⟩) hP hD hS hFc [] [] rfl rfl (by decide) (by decide) (fun r9 u9 H locs hw hP hD hS => ?_)
  try dsimp only at hw
  rcases hw with ⟨rfl, rfl⟩
  have hP : va_P g.1 CLS [] H := hP
  have hD : va_D A [] := hD
  refine W.widen (k := 0) (n := 0) (Nat.le_of_ble_eq_true rfl) (Nat.le_of_ble_eq_true rfl) ?_
  refine lv_pop hx hb dJx4a65c_get_915e3_8 rfl ?_
  refine lv_aload_n hx hb dJx4a65c_get_915e3_9 rfl (lv_at hl 0 rfl) ?_
  refine lv_iload_n hx hb dJx4a65c_get_915e3_10 rfl (lv_at hl 1 rfl) ?_
  have hPc := hP.sub (ws' := []) [] rfl
  have hDc := hD.sub (ws' := []) [] (by decide) rfl
  have hFc := va_free (wc := []) hD hS hA [] rfl
  refine q_cq (wr := []) (va_runV (As := [.int 0]) (rest := []) ⟨hx, hb, hml, hown, htg⟩ (c_eD_0 l hfl g   H.size) ⟨(qB htg k1662 k60 k1659 ok_Jx4a65c_elementData_915e3 rfl rfl ⟨Nat.le_of_ble_eq_true rfl, Nat.le_of_ble_eq_true rfl⟩), htg _ k1660, htg _ k1661⟩ ⟨(q_pre [.ref (g.2.2 2006), .int 0] hPc hDc hK hS hT hFc).1, va_Orecv (hT.2.2.2.2.2.1.1) hS, (q_pre [.ref (g.2.2 2006), .int 0] hPc hDc hK hS hT hFc).2⟩ rfl rfl hl.1 rfl (lv_room (Nat.le_of_ble_eq_true rfl)) dJx4a65c_get_915e3_11 ⟨Nat.le_of_ble_eq_true rfl, Nat.le_of_ble_eq_true rfl⟩) hP hD hS hFc [] [] rfl rfl (by decide) (by decide) (fun r9 u9 H locs hw hP hD hS => ?_)
  try dsimp only at hw
  rcases hw with ⟨rfl, rfl⟩
  have hP : va_P g.1 CLS [] H := hP
  have hD : va_D A [] := hD
  refine W.widen (k := 0) (n := 0) (Nat.le_of_ble_eq_true rfl) (Nat.le_of_ble_eq_true rfl) ?_
  have hP9 := hP.sub (ws' := []) [] rfl
  have hD9 := hD.sub (ws' := []) [] (by decide) rfl
  refine W.widen (k := 0) (n := 0) (Nat.le_of_ble_eq_true rfl) (Nat.le_of_ble_eq_true rfl) ?_
  exact W.aret (v := .ref (g.2.2 2001)) hx hb hr (Or.inl ⟨_, rfl⟩) (Or.inr ⟨_, rfl⟩) (fun t ht hW => ⟨⟨some (g.2.2 2001), [], rfl, ⟨rfl, rfl⟩, by rw [ht]; exact hP9, va_K.moved hW.alike hK, hD9⟩, hS.F ht⟩) hS.2.2 dJx4a65c_get_915e3_14

set_option maxHeartbeats 4000000 in
set_option maxRecDepth 100000 in
theorem c_now (l : Launch) (hfl : l.stackTraces = false) (g : GP) (mh : Nat) (mg : Nat) (mc : Nat) (n1 : Int32) (n2 : Int32) (n3 : Int32) (n4 : Int64) (n5 : Int32) (n6 : Int32) (n7 : Int32) (h1 : Int32) (h2 : Int32) (h3 : Int32) (h4 : Int32) (h5 : Int32) (h6 : Int32) (h7 : Int32) (h8 : Int32) (h9 : Int32) (h10 : Int32) (h11 : Int32) (h12 : Int32)  : CQ l yX11_now (wG yX11_now cX11_now 1 (Option.some (Jvm.ClassFile.FieldType.object "HeroTableModel$Hero"))) (LV 4 0 0) g [.ref (g.2.2 2000)] ([((g.2.2 2000), .inr (5, [.ref mh, .ref mg, .ref (g.2.2 2002), .ref (g.2.2 2005), .ref mc, .ref (g.2.2 2006), .int 0, .int n1, .int n2, .int n3, .long n4, .int n5, .int n6, .int n7])), ((g.2.2 2001), .inr (3, [.int 0, .int h1, .int h2, .int h3, .ref (g.2.2 2004), .int h4, .int h5, .int h6, .int h7, .int h8, .int h9, .int h10, .int h11, .int h12]))]) (fun (r : Option Nat) (u : va_W) => r = some (g.2.2 2001) ∧ u = [((g.2.2 2000), .inr (5, [.ref mh, .ref mg, .ref (g.2.2 2002), .ref (g.2.2 2005), .ref mc, .ref (g.2.2 2006), .int 0, .int n1, .int n2, .int n3, .long n4, .int n5, .int n6, .int n7])), ((g.2.2 2001), .inr (3, [.int 0, .int h1, .int h2, .int h3, .ref (g.2.2 2004), .int h4, .int h5, .int h6, .int h7, .int h8, .int h9, .int h10, .int h11, .int h12]))]) := by
  intro sz
  refine Met.ofW (cc := cX11_now) (maxL := 1) (ret := (Option.some (Jvm.ClassFile.FieldType.object "HeroTableModel$Hero"))) (by decide) rfl ?_
  intro p e s m args below meth c s₁ B hml hv
  obtain ⟨rfl, hsz, hP, hK, hD0, hT0⟩ := hv
  have hx := B.exec
  have hb := B.bytes
  have hr := B.returns
  have hts := atoms_spec (ws := (wG yX11_now cX11_now 1 (Option.some (Jvm.ClassFile.FieldType.object "HeroTableModel$Hero")))) B.pre
  have htg : ∀ w ∈ G9, w.before _ s = true := fun w h => hts w (List.mem_cons_of_mem _ h)
  have hown : s.vm.findClass "HeroTableModel" = some m.cls := findClass_of_methodNamed B.named
  have hlocks := B.notSynchronized
  subst hsz
  have hD := hD0.self (sz := s.heap.size)
  have hT := hT0
  clear hT0
  generalize hAe : va_A [((g.2.2 2000), .inr (5, [.ref mh, .ref mg, .ref (g.2.2 2002), .ref (g.2.2 2005), .ref mc, .ref (g.2.2 2006), .int 0, .int n1, .int n2, .int n3, .long n4, .int n5, .int n6, .int n7])), ((g.2.2 2001), .inr (3, [.int 0, .int h1, .int h2, .int h3, .ref (g.2.2 2004), .int h4, .int h5, .int h6, .int h7, .int h8, .int h9, .int h10, .int h11, .int h12]))] s.heap.size = A at hD hT ⊢
  have hA : ∀ q : Nat, s.heap.size ≤ q → A q := fun q h => by rw [← hAe]; exact Or.inr h
  obtain ⟨H, hH0⟩ : ∃ H, H = s.heap := ⟨_, rfl⟩
  have hS : va_S A s.heap H [] := by rw [hH0]; exact va_S.rf
  have hP : va_P g.1 CLS [((g.2.2 2000), .inr (5, [.ref mh, .ref mg, .ref (g.2.2 2002), .ref (g.2.2 2005), .ref mc, .ref (g.2.2 2006), .int 0, .int n1, .int n2, .int n3, .long n4, .int n5, .int n6, .int n7])), ((g.2.2 2001), .inr (3, [.int 0, .int h1, .int h2, .int h3, .ref (g.2.2 2004), .int h4, .int h5, .int h6, .int h7, .int h8, .int h9, .int h10, .int h11, .int h12]))] H := by rw [hH0]; exact hP
  rw [← hH0]
  have hl := lv_entry ([.ref (g.2.2 2000)]) (n := 1) (Nat.le_of_ble_eq_true rfl)
  rw [lg_entry_eq]
  generalize (lg_sl ([.ref (g.2.2 2000)]) ++ List.replicate (1 - (lg_sl ([.ref (g.2.2 2000)])).length) Slot.unset).toArray = ls at hl ⊢
  have hl : lv_has ls 1 [(0, .ref (g.2.2 2000))] := hl
  refine lv_aload_n hx hb dX11_now_0 rfl (lv_at hl 0 rfl) ?_
  refine va_get (D := g.1) (ci := 5) (v := .ref (g.2.2 2006)) (C := RX11) (T := TX11) (N := 14) hx hb htg inG_X11 hown hK hP 0 rfl rfl 5 (by decide) (htg _ k1345) (fun _ h9 => h9) rfl dX11_now_1 ?_
  refine lv_aload_n hx hb dX11_now_4 rfl (lv_at hl 0 rfl) ?_
  refine va_get (D := g.1) (ci := 5) (v := .int 0) (C := RX11) (T := TX11) (N := 14) hx hb htg inG_X11 hown hK hP 0 rfl rfl 6 (by decide) (htg _ k1346) (fun _ h9 => h9) rfl dX11_now_5 ?_
  have hPc := hP.sub (ws' := []) [] rfl
  have hDc := hD.sub (ws' := []) [] (by decide) rfl
  have hFc := va_free (wc := []) hD hS hA [] rfl
  refine q_cFq (wr := [((g.2.2 2000), .inr (5, [.ref mh, .ref mg, .ref (g.2.2 2002), .ref (g.2.2 2005), .ref mc, .ref (g.2.2 2006), .int 0, .int n1, .int n2, .int n3, .long n4, .int n5, .int n6, .int n7])), ((g.2.2 2001), .inr (3, [.int 0, .int h1, .int h2, .int h3, .ref (g.2.2 2004), .int h4, .int h5, .int h6, .int h7, .int h8, .int h9, .int h10, .int h11, .int h12]))]) (va_runF (As := [.int 0]) (rest := []) (hK.1 1 _ rfl).2 ⟨hx, hb, hml, hown, htg⟩ (c_get_0 l hfl g   H.size) (qI5 htg k1652 k60 k1645 k1648 k1650 (hT.1.2.2.2.2.2.2.1) okx_get rfl rfl ⟨Nat.le_of_ble_eq_true rfl, Nat.le_of_ble_eq_true rfl⟩) ⟨(q_pre [.ref (g.2.2 2006), .int 0] hPc hDc hK hS hT hFc).1, va_Orecv (hT.2.2.2.2.2.1.1) hS, (q_pre [.ref (g.2.2 2006), .int 0] hPc hDc hK hS hT hFc).2⟩ rfl rfl hl.1 rfl (lv_room (Nat.le_of_ble_eq_true rfl)) dX11_now_8 ⟨Nat.le_of_ble_eq_true rfl, Nat.le_of_ble_eq_true rfl⟩) hP hD hS hFc [] [0, 1] rfl rfl (by decide) (by decide) (fun r9 u9 H locs hw hP hD hS => ?_)
  try dsimp only at hw
  rcases hw with ⟨rfl, rfl⟩
  have hP : va_P g.1 CLS [((g.2.2 2000), .inr (5, [.ref mh, .ref mg, .ref (g.2.2 2002), .ref (g.2.2 2005), .ref mc, .ref (g.2.2 2006), .int 0, .int n1, .int n2, .int n3, .long n4, .int n5, .int n6, .int n7])), ((g.2.2 2001), .inr (3, [.int 0, .int h1, .int h2, .int h3, .ref (g.2.2 2004), .int h4, .int h5, .int h6, .int h7, .int h8, .int h9, .int h10, .int h11, .int h12]))] H := hP
  have hD : va_D A [((g.2.2 2000), .inr (5, [.ref mh, .ref mg, .ref (g.2.2 2002), .ref (g.2.2 2005), .ref mc, .ref (g.2.2 2006), .int 0, .int n1, .int n2, .int n3, .long n4, .int n5, .int n6, .int n7])), ((g.2.2 2001), .inr (3, [.int 0, .int h1, .int h2, .int h3, .ref (g.2.2 2004), .int h4, .int h5, .int h6, .int h7, .int h8, .int h9, .int h10, .int h11, .int h12]))] := hD
  refine W.widen (k := 0) (n := 0) (Nat.le_of_ble_eq_true rfl) (Nat.le_of_ble_eq_true rfl) ?_
  refine va_castE hx hb hown (htg _ k1480) (va_recv hK hP (ci := 3) (q0 := 1) rfl rfl) dX11_now_13 ?_
  have hP9 := hP.sub (ws' := [((g.2.2 2000), .inr (5, [.ref mh, .ref mg, .ref (g.2.2 2002), .ref (g.2.2 2005), .ref mc, .ref (g.2.2 2006), .int 0, .int n1, .int n2, .int n3, .long n4, .int n5, .int n6, .int n7])), ((g.2.2 2001), .inr (3, [.int 0, .int h1, .int h2, .int h3, .ref (g.2.2 2004), .int h4, .int h5, .int h6, .int h7, .int h8, .int h9, .int h10, .int h11, .int h12]))]) [0, 1] rfl
  have hD9 := hD.sub (ws' := [((g.2.2 2000), .inr (5, [.ref mh, .ref mg, .ref (g.2.2 2002), .ref (g.2.2 2005), .ref mc, .ref (g.2.2 2006), .int 0, .int n1, .int n2, .int n3, .long n4, .int n5, .int n6, .int n7])), ((g.2.2 2001), .inr (3, [.int 0, .int h1, .int h2, .int h3, .ref (g.2.2 2004), .int h4, .int h5, .int h6, .int h7, .int h8, .int h9, .int h10, .int h11, .int h12]))]) [0, 1] (by decide) rfl
  refine W.widen (k := 0) (n := 0) (Nat.le_of_ble_eq_true rfl) (Nat.le_of_ble_eq_true rfl) ?_
  exact W.aret (v := .ref (g.2.2 2001)) hx hb hr (Or.inl ⟨_, rfl⟩) (Or.inr ⟨_, rfl⟩) (fun t ht hW => ⟨⟨some (g.2.2 2001), [((g.2.2 2000), .inr (5, [.ref mh, .ref mg, .ref (g.2.2 2002), .ref (g.2.2 2005), .ref mc, .ref (g.2.2 2006), .int 0, .int n1, .int n2, .int n3, .long n4, .int n5, .int n6, .int n7])), ((g.2.2 2001), .inr (3, [.int 0, .int h1, .int h2, .int h3, .ref (g.2.2 2004), .int h4, .int h5, .int h6, .int h7, .int h8, .int h9, .int h10, .int h11, .int h12]))], rfl, ⟨rfl, rfl⟩, by rw [ht]; exact hP9, va_K.moved hW.alike hK, hD9⟩, hS.F ht⟩) hS.2.2 dX11_now_16

set_option maxHeartbeats 4000000 in
set_option maxRecDepth 100000 in
theorem c_chk3_k (l : Launch) (hfl : l.stackTraces = false) (g : GP) (k1 : Nat) (hk : k1 < g.2.2 2010) : CI l yJ3_checkIndex_8e157 (wG yJ3_checkIndex_8e157 cJ3_checkIndex_8e157 3 (Option.some Jvm.ClassFile.FieldType.int)) (LV 1 0 0) g [.int (nI k1), .int (nI (g.2.2 2010)), .null] ([]) (fun (r : Int32) (u : va_W) => r = (nI k1) ∧ u = []) := by
  intro sz
  refine Met.ofW (cc := cJ3_checkIndex_8e157) (maxL := 3) (ret := (Option.some Jvm.ClassFile.FieldType.int)) (by decide) rfl ?_
  intro p e s m args below meth c s₁ B hml hv
  obtain ⟨rfl, hsz, hP, hK, hD0, hT0⟩ := hv
  have hx := B.exec
  have hb := B.bytes
  have hr := B.returns
  have hts := atoms_spec (ws := (wG yJ3_checkIndex_8e157 cJ3_checkIndex_8e157 3 (Option.some Jvm.ClassFile.FieldType.int))) B.pre
  have htg : ∀ w ∈ G9, w.before _ s = true := fun w h => hts w (List.mem_cons_of_mem _ h)
  have hown : s.vm.findClass "jdk/internal/util/Preconditions" = some m.cls := findClass_of_methodNamed B.named
  have hlocks := B.notSynchronized
  subst hsz
  have hD := hD0.self (sz := s.heap.size)
  have hT := hT0
  clear hT0
  generalize hAe : va_A [] s.heap.size = A at hD hT ⊢
  have hA : ∀ q : Nat, s.heap.size ≤ q → A q := fun q h => by rw [← hAe]; exact Or.inr h
  obtain ⟨H, hH0⟩ : ∃ H, H = s.heap := ⟨_, rfl⟩
  have hS : va_S A s.heap H [] := by rw [hH0]; exact va_S.rf
  have hP : va_P g.1 CLS [] H := by rw [hH0]; exact hP
  rw [← hH0]
  have hl := lv_entry ([.int (nI k1), .int (nI (g.2.2 2010)), .null]) (n := 3) (Nat.le_of_ble_eq_true rfl)
  rw [lg_entry_eq]
  generalize (lg_sl ([.int (nI k1), .int (nI (g.2.2 2010)), .null]) ++ List.replicate (3 - (lg_sl ([.int (nI k1), .int (nI (g.2.2 2010)), .null])).length) Slot.unset).toArray = ls at hl ⊢
  have hl : lv_has ls 3 [(0, .int (nI k1)), (1, .int (nI (g.2.2 2010))), (2, .null)] := hl
  refine lv_iload_n hx hb dJ3_checkIndex_8e157_0 rfl (lv_at hl 0 rfl) ?_
  refine lv_if_lt (tgt := 9) hx hb dJ3_checkIndex_8e157_1 (by decide) (fun c_1 => absurd c_1 (nI_pos (Nat.lt_trans hk (Nat.lt_trans hT.2.2.2.2.2.2.2.2.1 (by decide))))) (fun c_1 => ?_)
  refine lv_iload_n hx hb dJ3_checkIndex_8e157_4 rfl (lv_at hl 0 rfl) ?_
  refine lv_iload_n hx hb dJ3_checkIndex_8e157_5 rfl (lv_at hl 1 rfl) ?_
  refine lv_icmp_lt (tgt := 16) hx hb dJ3_checkIndex_8e157_6 (by decide) (fun c_2 => ?_) (fun c_2 => absurd (nI_lt hk (Nat.lt_trans hT.2.2.2.2.2.2.2.2.1 (by decide))) c_2)
  refine lv_iload_n hx hb dJ3_checkIndex_8e157_16 rfl (lv_at hl 0 rfl) ?_
  have hP9 := hP.sub (ws' := []) [] rfl
  have hD9 := hD.sub (ws' := []) [] (by decide) rfl
  refine W.widen (k := 0) (n := 0) (Nat.le_of_ble_eq_true rfl) (Nat.le_of_ble_eq_true rfl) ?_
  exact W.iret (v := (nI k1)) hx hb hr (fun t ht hW => ⟨⟨(nI k1), [], rfl, ⟨rfl, rfl⟩, by rw [ht]; exact hP9, va_K.moved hW.alike hK, hD9⟩, hS.F ht⟩) hS.2.2 dJ3_checkIndex_8e157_17

set_option maxHeartbeats 4000000 in
set_option maxRecDepth 100000 in
theorem c_chk_k (l : Launch) (hfl : l.stackTraces = false) (g : GP) (k1 : Nat) (hk : k1 < g.2.2 2010) : CI l yJ15_checkIndex_7cf53 (wG yJ15_checkIndex_7cf53 cJ15_checkIndex_7cf53 2 (Option.some Jvm.ClassFile.FieldType.int)) (LV 2 0 0) g [.int (nI k1), .int (nI (g.2.2 2010))] ([]) (fun (r : Int32) (u : va_W) => r = (nI k1) ∧ u = []) := by
  intro sz
  refine Met.ofW (cc := cJ15_checkIndex_7cf53) (maxL := 2) (ret := (Option.some Jvm.ClassFile.FieldType.int)) (by decide) rfl ?_
  intro p e s m args below meth c s₁ B hml hv
  obtain ⟨rfl, hsz, hP, hK, hD0, hT0⟩ := hv
  have hx := B.exec
  have hb := B.bytes
  have hr := B.returns
  have hts := atoms_spec (ws := (wG yJ15_checkIndex_7cf53 cJ15_checkIndex_7cf53 2 (Option.some Jvm.ClassFile.FieldType.int))) B.pre
  have htg : ∀ w ∈ G9, w.before _ s = true := fun w h => hts w (List.mem_cons_of_mem _ h)
  have hown : s.vm.findClass "java/util/Objects" = some m.cls := findClass_of_methodNamed B.named
  have hlocks := B.notSynchronized
  subst hsz
  have hD := hD0.self (sz := s.heap.size)
  have hT := hT0
  clear hT0
  generalize hAe : va_A [] s.heap.size = A at hD hT ⊢
  have hA : ∀ q : Nat, s.heap.size ≤ q → A q := fun q h => by rw [← hAe]; exact Or.inr h
  obtain ⟨H, hH0⟩ : ∃ H, H = s.heap := ⟨_, rfl⟩
  have hS : va_S A s.heap H [] := by rw [hH0]; exact va_S.rf
  have hP : va_P g.1 CLS [] H := by rw [hH0]; exact hP
  rw [← hH0]
  have hl := lv_entry ([.int (nI k1), .int (nI (g.2.2 2010))]) (n := 2) (Nat.le_of_ble_eq_true rfl)
  rw [lg_entry_eq]
  generalize (lg_sl ([.int (nI k1), .int (nI (g.2.2 2010))]) ++ List.replicate (2 - (lg_sl ([.int (nI k1), .int (nI (g.2.2 2010))])).length) Slot.unset).toArray = ls at hl ⊢
  have hl : lv_has ls 2 [(0, .int (nI k1)), (1, .int (nI (g.2.2 2010)))] := hl
  refine lv_iload_n hx hb dJ15_checkIndex_7cf53_0 rfl (lv_at hl 0 rfl) ?_
  refine lv_iload_n hx hb dJ15_checkIndex_7cf53_1 rfl (lv_at hl 1 rfl) ?_
  refine lv_null hx hb dJ15_checkIndex_7cf53_2 ?_
  have hPc := hP.sub (ws' := []) [] rfl
  have hDc := hD.sub (ws' := []) [] (by decide) rfl
  have hFc := va_free (wc := []) hD hS hA [] rfl
  refine q_ci (wr := []) (va_runS (As := [.int (nI k1), .int (nI (g.2.2 2010)), .null]) (rest := []) ⟨hx, hb, hml, hown, htg⟩ (c_chk3_k l hfl g k1 (hk) H.size) ⟨(qB htg k1658 k80 k1656 ok_J3_checkIndex_8e157 rfl rfl ⟨Nat.le_of_ble_eq_true rfl, Nat.le_of_ble_eq_true rfl⟩), htg _ k1657⟩ (q_pre [.int (nI k1), .int (nI (g.2.2 2010)), .null] hPc hDc hK hS hT hFc) rfl rfl hl.1 rfl (lv_room (Nat.le_of_ble_eq_true rfl)) dJ15_checkIndex_7cf53_3 ⟨Nat.le_of_ble_eq_true rfl, Nat.le_of_ble_eq_true rfl⟩) hP hD hS hFc [] [] rfl rfl (by decide) (by decide) (fun r9 u9 H locs hw hP hD hS => ?_)
  try dsimp only at hw
  rcases hw with ⟨rfl, rfl⟩
  have hP : va_P g.1 CLS [] H := hP
  have hD : va_D A [] := hD
  refine W.widen (k := 0) (n := 0) (Nat.le_of_ble_eq_true rfl) (Nat.le_of_ble_eq_true rfl) ?_
  have hP9 := hP.sub (ws' := []) [] rfl
  have hD9 := hD.sub (ws' := []) [] (by decide) rfl
  refine W.widen (k := 0) (n := 0) (Nat.le_of_ble_eq_true rfl) (Nat.le_of_ble_eq_true rfl) ?_
  exact W.iret (v := (nI k1)) hx hb hr (fun t ht hW => ⟨⟨(nI k1), [], rfl, ⟨rfl, rfl⟩, by rw [ht]; exact hP9, va_K.moved hW.alike hK, hD9⟩, hS.F ht⟩) hS.2.2 dJ15_checkIndex_7cf53_6

set_option maxHeartbeats 4000000 in
set_option maxRecDepth 100000 in
theorem c_eD_k (l : Launch) (hfl : l.stackTraces = false) (g : GP) (k1 : Nat) (hk : k1 < g.2.2 2010) : CQ l yJx4a65c_elementData_915e3 (wG yJx4a65c_elementData_915e3 cJx4a65c_elementData_915e3 2 (Option.some (Jvm.ClassFile.FieldType.object "java/lang/Object"))) (LV 1 0 0) g [.ref (g.2.2 2002), .int (nI k1)] ([]) (fun (r : Option Nat) (u : va_W) => r = some (g.2.2 (3000 + k1)) ∧ u = []) := by
  intro sz
  refine Met.ofW (cc := cJx4a65c_elementData_915e3) (maxL := 2) (ret := (Option.some (Jvm.ClassFile.FieldType.object "java/lang/Object"))) (by decide) rfl ?_
  intro p e s m args below meth c s₁ B hml hv
  obtain ⟨rfl, hsz, hP, hK, hD0, hT0⟩ := hv
  have hx := B.exec
  have hb := B.bytes
  have hr := B.returns
  have hts := atoms_spec (ws := (wG yJx4a65c_elementData_915e3 cJx4a65c_elementData_915e3 2 (Option.some (Jvm.ClassFile.FieldType.object "java/lang/Object")))) B.pre
  have htg : ∀ w ∈ G9, w.before _ s = true := fun w h => hts w (List.mem_cons_of_mem _ h)
  have hown : s.vm.findClass "java/util/ArrayList" = some m.cls := findClass_of_methodNamed B.named
  have hlocks := B.notSynchronized
  subst hsz
  have hD := hD0.self (sz := s.heap.size)
  have hT := hT0
  clear hT0
  generalize hAe : va_A [] s.heap.size = A at hD hT ⊢
  have hA : ∀ q : Nat, s.heap.size ≤ q → A q := fun q h => by rw [← hAe]; exact Or.inr h
  obtain ⟨H, hH0⟩ : ∃ H, H = s.heap := ⟨_, rfl⟩
  have hS : va_S A s.heap H [] := by rw [hH0]; exact va_S.rf
  have hP : va_P g.1 CLS [] H := by rw [hH0]; exact hP
  rw [← hH0]
  have hl := lv_entry ([.ref (g.2.2 2002), .int (nI k1)]) (n := 2) (Nat.le_of_ble_eq_true rfl)
  rw [lg_entry_eq]
  generalize (lg_sl ([.ref (g.2.2 2002), .int (nI k1)]) ++ List.replicate (2 - (lg_sl ([.ref (g.2.2 2002), .int (nI k1)])).length) Slot.unset).toArray = ls at hl ⊢
  have hl : lv_has ls 2 [(0, .ref (g.2.2 2002)), (1, .int (nI k1))] := hl
  refine lv_aload_n hx hb dJx4a65c_elementData_915e3_0 rfl (lv_at hl 0 rfl) ?_
  refine vk_getf (v := .ref (g.2.2 2003)) hx hb (hT.2.2.2.2.1.2.2.1) hS hown (htg _ k1307) (fun _ h9 => h9) dJx4a65c_elementData_915e3_1 ?_
  refine lv_iload_n hx hb dJx4a65c_elementData_915e3_4 rfl (lv_at hl 1 rfl) ?_
  refine vb_tq hx hb (hT.2.2.2.2.1.2.2.2.2) hS (i := nI k1) (vp_in_nI (Nat.lt_of_lt_of_le hk hT.2.2.2.2.2.2.2.1) hT.2.2.2.2.2.2.2.2.2.1) (v := .ref (g.2.2 (3000 + k1))) (by rw [nI_clamp (Nat.lt_trans hk (Nat.lt_trans hT.2.2.2.2.2.2.2.2.1 (by decide)))]; exact if_pos hk) dJx4a65c_elementData_915e3_5 ?_
  have hP9 := hP.sub (ws' := []) [] rfl
  have hD9 := hD.sub (ws' := []) [] (by decide) rfl
  refine W.widen (k := 0) (n := 0) (Nat.le_of_ble_eq_true rfl) (Nat.le_of_ble_eq_true rfl) ?_
  exact W.aret (v := .ref (g.2.2 (3000 + k1))) hx hb hr (Or.inl ⟨_, rfl⟩) (Or.inr ⟨_, rfl⟩) (fun t ht hW => ⟨⟨some (g.2.2 (3000 + k1)), [], rfl, ⟨rfl, rfl⟩, by rw [ht]; exact hP9, va_K.moved hW.alike hK, hD9⟩, hS.F ht⟩) hS.2.2 dJx4a65c_elementData_915e3_6

set_option maxHeartbeats 4000000 in
set_option maxRecDepth 100000 in
theorem c_get_k (l : Launch) (hfl : l.stackTraces = false) (g : GP) (k1 : Nat) (hk : k1 < g.2.2 2010) : CQ l yJx4a65c_get_915e3 (wG yJx4a65c_get_915e3 cJx4a65c_get_915e3 2 (Option.some (Jvm.ClassFile.FieldType.object "java/lang/Object"))) (LV 3 0 0) g [.ref (g.2.2 2002), .int (nI k1)] ([]) (fun (r : Option Nat) (u : va_W) => r = some (g.2.2 (3000 + k1)) ∧ u = []) := by
  intro sz
  refine Met.ofW (cc := cJx4a65c_get_915e3) (maxL := 2) (ret := (Option.some (Jvm.ClassFile.FieldType.object "java/lang/Object"))) (by decide) rfl ?_
  intro p e s m args below meth c s₁ B hml hv
  obtain ⟨rfl, hsz, hP, hK, hD0, hT0⟩ := hv
  have hx := B.exec
  have hb := B.bytes
  have hr := B.returns
  have hts := atoms_spec (ws := (wG yJx4a65c_get_915e3 cJx4a65c_get_915e3 2 (Option.some (Jvm.ClassFile.FieldType.object "java/lang/Object")))) B.pre
  have htg : ∀ w ∈ G9, w.before _ s = true := fun w h => hts w (List.mem_cons_of_mem _ h)
  have hown : s.vm.findClass "java/util/ArrayList" = some m.cls := findClass_of_methodNamed B.named
  have hlocks := B.notSynchronized
  subst hsz
  have hD := hD0.self (sz := s.heap.size)
  have hT := hT0
  clear hT0
  generalize hAe : va_A [] s.heap.size = A at hD hT ⊢
  have hA : ∀ q : Nat, s.heap.size ≤ q → A q := fun q h => by rw [← hAe]; exact Or.inr h
  obtain ⟨H, hH0⟩ : ∃ H, H = s.heap := ⟨_, rfl⟩
  have hS : va_S A s.heap H [] := by rw [hH0]; exact va_S.rf
  have hP : va_P g.1 CLS [] H := by rw [hH0]; exact hP
  rw [← hH0]
  have hl := lv_entry ([.ref (g.2.2 2002), .int (nI k1)]) (n := 2) (Nat.le_of_ble_eq_true rfl)
  rw [lg_entry_eq]
  generalize (lg_sl ([.ref (g.2.2 2002), .int (nI k1)]) ++ List.replicate (2 - (lg_sl ([.ref (g.2.2 2002), .int (nI k1)])).length) Slot.unset).toArray = ls at hl ⊢
  have hl : lv_has ls 2 [(0, .ref (g.2.2 2002)), (1, .int (nI k1))] := hl
  refine lv_iload_n hx hb dJx4a65c_get_915e3_0 rfl (lv_at hl 1 rfl) ?_
  refine lv_aload_n hx hb dJx4a65c_get_915e3_1 rfl (lv_at hl 0 rfl) ?_
  refine vk_getf (v := .int (nI (g.2.2 2010))) hx hb (hT.2.2.2.2.1.2.1) hS hown (htg _ k1310) (fun _ h9 => h9) dJx4a65c_get_915e3_2 ?_
  have hPc := hP.sub (ws' := []) [] rfl
  have hDc := hD.sub (ws' := []) [] (by decide) rfl
  have hFc := va_free (wc := []) hD hS hA [] rfl
  refine q_ci (wr := []) (va_runS (As := [.int (nI k1), .int (nI (g.2.2 2010))]) (rest := []) ⟨hx, hb, hml, hown, htg⟩ (c_chk_k l hfl g k1 (hk) H.size) ⟨(qB htg k1655 k83 k1653 ok_J15_checkIndex_7cf53 rfl rfl ⟨Nat.le_of_ble_eq_true rfl, Nat.le_of_ble_eq_true rfl⟩), htg _ k1654⟩ (q_pre [.int (nI k1), .int (nI (g.2.2 2010))] hPc hDc hK hS hT hFc) rfl rfl hl.1 rfl (lv_room (Nat.le_of_ble_eq_true rfl)) dJx4a65c_get_915e3_5 ⟨Nat.le_of_ble_eq_true rfl, Nat.le_of_ble_eq_true rfl⟩) hP hD hS hFc [] [] rfl rfl (by decide) (by decide) (fun r9 u9 H locs hw hP hD hS => ?_)
  try dsimp only at hw
  rcases hw with ⟨rfl, rfl⟩
  have hP : va_P g.1 CLS [] H := hP
  have hD : va_D A [] := hD
  refine W.widen (k := 0) (n := 0) (Nat.le_of_ble_eq_true rfl) (Nat.le_of_ble_eq_true rfl) ?_
  refine lv_pop hx hb dJx4a65c_get_915e3_8 rfl ?_
  refine lv_aload_n hx hb dJx4a65c_get_915e3_9 rfl (lv_at hl 0 rfl) ?_
  refine lv_iload_n hx hb dJx4a65c_get_915e3_10 rfl (lv_at hl 1 rfl) ?_
  have hPc := hP.sub (ws' := []) [] rfl
  have hDc := hD.sub (ws' := []) [] (by decide) rfl
  have hFc := va_free (wc := []) hD hS hA [] rfl
  refine q_cq (wr := []) (va_runV (As := [.int (nI k1)]) (rest := []) ⟨hx, hb, hml, hown, htg⟩ (c_eD_k l hfl g k1 (hk) H.size) ⟨(qB htg k1662 k60 k1659 ok_Jx4a65c_elementData_915e3 rfl rfl ⟨Nat.le_of_ble_eq_true rfl, Nat.le_of_ble_eq_true rfl⟩), htg _ k1660, htg _ k1661⟩ ⟨(q_pre [.ref (g.2.2 2002), .int (nI k1)] hPc hDc hK hS hT hFc).1, va_Orecv (hT.2.2.2.2.1.1) hS, (q_pre [.ref (g.2.2 2002), .int (nI k1)] hPc hDc hK hS hT hFc).2⟩ rfl rfl hl.1 rfl (lv_room (Nat.le_of_ble_eq_true rfl)) dJx4a65c_get_915e3_11 ⟨Nat.le_of_ble_eq_true rfl, Nat.le_of_ble_eq_true rfl⟩) hP hD hS hFc [] [] rfl rfl (by decide) (by decide) (fun r9 u9 H locs hw hP hD hS => ?_)
  try dsimp only at hw
  rcases hw with ⟨rfl, rfl⟩
  have hP : va_P g.1 CLS [] H := hP
  have hD : va_D A [] := hD
  refine W.widen (k := 0) (n := 0) (Nat.le_of_ble_eq_true rfl) (Nat.le_of_ble_eq_true rfl) ?_
  have hP9 := hP.sub (ws' := []) [] rfl
  have hD9 := hD.sub (ws' := []) [] (by decide) rfl
  refine W.widen (k := 0) (n := 0) (Nat.le_of_ble_eq_true rfl) (Nat.le_of_ble_eq_true rfl) ?_
  exact W.aret (v := .ref (g.2.2 (3000 + k1))) hx hb hr (Or.inl ⟨_, rfl⟩) (Or.inr ⟨_, rfl⟩) (fun t ht hW => ⟨⟨some (g.2.2 (3000 + k1)), [], rfl, ⟨rfl, rfl⟩, by rw [ht]; exact hP9, va_K.moved hW.alike hK, hD9⟩, hS.F ht⟩) hS.2.2 dJx4a65c_get_915e3_14

set_option maxHeartbeats 4000000 in
set_option maxRecDepth 100000 in
theorem c_sizeS (l : Launch) (hfl : l.stackTraces = false) (g : GP)   : CI l yJx4a65c_size_8abf5 (wG yJx4a65c_size_8abf5 cJx4a65c_size_8abf5 1 (Option.some Jvm.ClassFile.FieldType.int)) (LV 1 0 0) g [.ref (g.2.2 2002)] ([]) (fun (r : Int32) (u : va_W) => r = (nI (g.2.2 2010)) ∧ u = []) := by
  intro sz
  refine Met.ofW (cc := cJx4a65c_size_8abf5) (maxL := 1) (ret := (Option.some Jvm.ClassFile.FieldType.int)) (by decide) rfl ?_
  intro p e s m args below meth c s₁ B hml hv
  obtain ⟨rfl, hsz, hP, hK, hD0, hT0⟩ := hv
  have hx := B.exec
  have hb := B.bytes
  have hr := B.returns
  have hts := atoms_spec (ws := (wG yJx4a65c_size_8abf5 cJx4a65c_size_8abf5 1 (Option.some Jvm.ClassFile.FieldType.int))) B.pre
  have htg : ∀ w ∈ G9, w.before _ s = true := fun w h => hts w (List.mem_cons_of_mem _ h)
  have hown : s.vm.findClass "java/util/ArrayList" = some m.cls := findClass_of_methodNamed B.named
  have hlocks := B.notSynchronized
  subst hsz
  have hD := hD0.self (sz := s.heap.size)
  have hT := hT0
  clear hT0
  generalize hAe : va_A [] s.heap.size = A at hD hT ⊢
  have hA : ∀ q : Nat, s.heap.size ≤ q → A q := fun q h => by rw [← hAe]; exact Or.inr h
  obtain ⟨H, hH0⟩ : ∃ H, H = s.heap := ⟨_, rfl⟩
  have hS : va_S A s.heap H [] := by rw [hH0]; exact va_S.rf
  have hP : va_P g.1 CLS [] H := by rw [hH0]; exact hP
  rw [← hH0]
  have hl := lv_entry ([.ref (g.2.2 2002)]) (n := 1) (Nat.le_of_ble_eq_true rfl)
  rw [lg_entry_eq]
  generalize (lg_sl ([.ref (g.2.2 2002)]) ++ List.replicate (1 - (lg_sl ([.ref (g.2.2 2002)])).length) Slot.unset).toArray = ls at hl ⊢
  have hl : lv_has ls 1 [(0, .ref (g.2.2 2002))] := hl
  refine lv_aload_n hx hb dJx4a65c_size_8abf5_0 rfl (lv_at hl 0 rfl) ?_
  refine vk_getf (v := .int (nI (g.2.2 2010))) hx hb (hT.2.2.2.2.1.2.1) hS hown (htg _ k1310) (fun _ h9 => h9) dJx4a65c_size_8abf5_1 ?_
  have hP9 := hP.sub (ws' := []) [] rfl
  have hD9 := hD.sub (ws' := []) [] (by decide) rfl
  refine W.widen (k := 0) (n := 0) (Nat.le_of_ble_eq_true rfl) (Nat.le_of_ble_eq_true rfl) ?_
  exact W.iret (v := (nI (g.2.2 2010))) hx hb hr (fun t ht hW => ⟨⟨(nI (g.2.2 2010)), [], rfl, ⟨rfl, rfl⟩, by rw [ht]; exact hP9, va_K.moved hW.alike hK, hD9⟩, hS.F ht⟩) hS.2.2 dJx4a65c_size_8abf5_4

set_option maxHeartbeats 4000000 in
set_option maxRecDepth 100000 in
theorem c_sizeO (l : Launch) (hfl : l.stackTraces = false) (g : GP)   : CI l yJx4a65c_size_8abf5 (wG yJx4a65c_size_8abf5 cJx4a65c_size_8abf5 1 (Option.some Jvm.ClassFile.FieldType.int)) (LV 1 0 0) g [.ref (g.2.2 2006)] ([]) (fun (r : Int32) (u : va_W) => r = 1 ∧ u = []) := by
  intro sz
  refine Met.ofW (cc := cJx4a65c_size_8abf5) (maxL := 1) (ret := (Option.some Jvm.ClassFile.FieldType.int)) (by decide) rfl ?_
  intro p e s m args below meth c s₁ B hml hv
  obtain ⟨rfl, hsz, hP, hK, hD0, hT0⟩ := hv
  have hx := B.exec
  have hb := B.bytes
  have hr := B.returns
  have hts := atoms_spec (ws := (wG yJx4a65c_size_8abf5 cJx4a65c_size_8abf5 1 (Option.some Jvm.ClassFile.FieldType.int))) B.pre
  have htg : ∀ w ∈ G9, w.before _ s = true := fun w h => hts w (List.mem_cons_of_mem _ h)
  have hown : s.vm.findClass "java/util/ArrayList" = some m.cls := findClass_of_methodNamed B.named
  have hlocks := B.notSynchronized
  subst hsz
  have hD := hD0.self (sz := s.heap.size)
  have hT := hT0
  clear hT0
  generalize hAe : va_A [] s.heap.size = A at hD hT ⊢
  have hA : ∀ q : Nat, s.heap.size ≤ q → A q := fun q h => by rw [← hAe]; exact Or.inr h
  obtain ⟨H, hH0⟩ : ∃ H, H = s.heap := ⟨_, rfl⟩
  have hS : va_S A s.heap H [] := by rw [hH0]; exact va_S.rf
  have hP : va_P g.1 CLS [] H := by rw [hH0]; exact hP
  rw [← hH0]
  have hl := lv_entry ([.ref (g.2.2 2006)]) (n := 1) (Nat.le_of_ble_eq_true rfl)
  rw [lg_entry_eq]
  generalize (lg_sl ([.ref (g.2.2 2006)]) ++ List.replicate (1 - (lg_sl ([.ref (g.2.2 2006)])).length) Slot.unset).toArray = ls at hl ⊢
  have hl : lv_has ls 1 [(0, .ref (g.2.2 2006))] := hl
  refine lv_aload_n hx hb dJx4a65c_size_8abf5_0 rfl (lv_at hl 0 rfl) ?_
  refine vk_getf (v := .int 1) hx hb (hT.2.2.2.2.2.1.2.1) hS hown (htg _ k1310) (fun _ h9 => h9) dJx4a65c_size_8abf5_1 ?_
  have hP9 := hP.sub (ws' := []) [] rfl
  have hD9 := hD.sub (ws' := []) [] (by decide) rfl
  refine W.widen (k := 0) (n := 0) (Nat.le_of_ble_eq_true rfl) (Nat.le_of_ble_eq_true rfl) ?_
  exact W.iret (v := 1) hx hb hr (fun t ht hW => ⟨⟨1, [], rfl, ⟨rfl, rfl⟩, by rw [ht]; exact hP9, va_K.moved hW.alike hK, hD9⟩, hS.F ht⟩) hS.2.2 dJx4a65c_size_8abf5_4

set_option maxHeartbeats 4000000 in
set_option maxRecDepth 100000 in
theorem c_beginTurn (l : Launch) (hfl : l.stackTraces = false) (g : GP) (mh : Nat) (mg : Nat) (mc : Nat) (n1 : Int32) (n2 : Int32) (n3 : Int32) (n4 : Int64) (n5 : Int32) (n6 : Int32) (n7 : Int32) (h1 : Int32) (h2 : Int32) (h3 : Int32) (h4 : Int32) (h5 : Int32) (h6 : Int32) (h7 : Int32) (h8 : Int32) (h9 : Int32) (h10 : Int32) (h11 : Int32) (h12 : Int32)  : ZI l yX11_beginTurn (wG yX11_beginTurn cX11_beginTurn 4 (Option.some Jvm.ClassFile.FieldType.int)) (LV 6 3 11) g [.ref (g.2.2 2000)] ([((g.2.2 2000), .inr (5, [.ref mh, .ref mg, .ref (g.2.2 2002), .ref (g.2.2 2005), .ref mc, .ref (g.2.2 2006), .int 0, .int n1, .int n2, .int n3, .long n4, .int n5, .int n6, .int n7])), ((g.2.2 2001), .inr (3, [.int 0, .int h1, .int h2, .int h3, .ref (g.2.2 2004), .int h4, .int h5, .int h6, .int h7, .int h8, .int h9, .int h10, .int h11, .int h12]))]) 3 (fun (r : Int32) (u : va_W) => r = 0 ∧ u = [((g.2.2 2000), .inr (5, [.ref mh, .ref mg, .ref (g.2.2 2002), .ref (g.2.2 2005), .ref mc, .ref (g.2.2 2006), .int 0, .int n1, .int 4, .int 1, .long n4, .int n5, .int n6, .int n7])), ((g.2.2 2001), .inr (3, [.int 0, .int h1, .int h2, .int h3, .ref (g.2.2 2004), .int h4, .int h5, .int h6, .int h7, .int h8, .int h9, .int 1, .int 32, .int h12]))]) := by
  intro sz
  refine Met.ofW (cc := cX11_beginTurn) (maxL := 4) (ret := (Option.some Jvm.ClassFile.FieldType.int)) (by decide) rfl ?_
  intro p e s m args below meth c s₁ B hml hv
  obtain ⟨rfl, hsz, hP, hK, hD0, hT0⟩ := hv
  have hx := B.exec
  have hb := B.bytes
  have hr := B.returns
  have hts := atoms_spec (ws := (wG yX11_beginTurn cX11_beginTurn 4 (Option.some Jvm.ClassFile.FieldType.int))) B.pre
  have htg : ∀ w ∈ G9, w.before _ s = true := fun w h => hts w (List.mem_cons_of_mem _ h)
  have hown : s.vm.findClass "HeroTableModel" = some m.cls := findClass_of_methodNamed B.named
  have hlocks := B.notSynchronized
  subst hsz
  have hD := hD0.self (sz := s.heap.size)
  have hT := hT0
  clear hT0
  generalize hAe : va_A [((g.2.2 2000), .inr (5, [.ref mh, .ref mg, .ref (g.2.2 2002), .ref (g.2.2 2005), .ref mc, .ref (g.2.2 2006), .int 0, .int n1, .int n2, .int n3, .long n4, .int n5, .int n6, .int n7])), ((g.2.2 2001), .inr (3, [.int 0, .int h1, .int h2, .int h3, .ref (g.2.2 2004), .int h4, .int h5, .int h6, .int h7, .int h8, .int h9, .int h10, .int h11, .int h12]))] s.heap.size = A at hD hT ⊢
  have hA : ∀ q : Nat, s.heap.size ≤ q → A q := fun q h => by rw [← hAe]; exact Or.inr h
  obtain ⟨H, hH0⟩ : ∃ H, H = s.heap := ⟨_, rfl⟩
  have hS : va_S A s.heap H [] := by rw [hH0]; exact va_S.rf
  have hP : va_P g.1 CLS [((g.2.2 2000), .inr (5, [.ref mh, .ref mg, .ref (g.2.2 2002), .ref (g.2.2 2005), .ref mc, .ref (g.2.2 2006), .int 0, .int n1, .int n2, .int n3, .long n4, .int n5, .int n6, .int n7])), ((g.2.2 2001), .inr (3, [.int 0, .int h1, .int h2, .int h3, .ref (g.2.2 2004), .int h4, .int h5, .int h6, .int h7, .int h8, .int h9, .int h10, .int h11, .int h12]))] H := by rw [hH0]; exact hP
  rw [← hH0]
  have hl := lv_entry ([.ref (g.2.2 2000)]) (n := 4) (Nat.le_of_ble_eq_true rfl)
  rw [lg_entry_eq]
  generalize (lg_sl ([.ref (g.2.2 2000)]) ++ List.replicate (4 - (lg_sl ([.ref (g.2.2 2000)])).length) Slot.unset).toArray = ls at hl ⊢
  have hl : lv_has ls 4 [(0, .ref (g.2.2 2000))] := hl
  refine lv_aload_n hx hb dX11_beginTurn_0 rfl (lv_at hl 0 rfl) ?_
  have hPc := hP.sub (ws' := [((g.2.2 2000), .inr (5, [.ref mh, .ref mg, .ref (g.2.2 2002), .ref (g.2.2 2005), .ref mc, .ref (g.2.2 2006), .int 0, .int n1, .int n2, .int n3, .long n4, .int n5, .int n6, .int n7])), ((g.2.2 2001), .inr (3, [.int 0, .int h1, .int h2, .int h3, .ref (g.2.2 2004), .int h4, .int h5, .int h6, .int h7, .int h8, .int h9, .int h10, .int h11, .int h12]))]) [0, 1] rfl
  have hDc := hD.sub (ws' := [((g.2.2 2000), .inr (5, [.ref mh, .ref mg, .ref (g.2.2 2002), .ref (g.2.2 2005), .ref mc, .ref (g.2.2 2006), .int 0, .int n1, .int n2, .int n3, .long n4, .int n5, .int n6, .int n7])), ((g.2.2 2001), .inr (3, [.int 0, .int h1, .int h2, .int h3, .ref (g.2.2 2004), .int h4, .int h5, .int h6, .int h7, .int h8, .int h9, .int h10, .int h11, .int h12]))]) [0, 1] (by decide) rfl
  have hFc := va_free (wc := [((g.2.2 2000), .inr (5, [.ref mh, .ref mg, .ref (g.2.2 2002), .ref (g.2.2 2005), .ref mc, .ref (g.2.2 2006), .int 0, .int n1, .int n2, .int n3, .long n4, .int n5, .int n6, .int n7])), ((g.2.2 2001), .inr (3, [.int 0, .int h1, .int h2, .int h3, .ref (g.2.2 2004), .int h4, .int h5, .int h6, .int h7, .int h8, .int h9, .int h10, .int h11, .int h12]))]) hD hS hA [0, 1] rfl
  refine q_cq (wr := []) (va_runV (As := []) (rest := []) ⟨hx, hb, hml, hown, htg⟩ (c_now l hfl g mh mg mc n1 n2 n3 n4 n5 n6 n7 h1 h2 h3 h4 h5 h6 h7 h8 h9 h10 h11 h12  H.size) ⟨(qB htg k2105 k57 k2102 ok_X11_now rfl rfl ⟨Nat.le_of_ble_eq_true rfl, Nat.le_of_ble_eq_true rfl⟩), htg _ k2104, htg _ k34⟩ ⟨(q_pre [.ref (g.2.2 2000)] hPc hDc hK hS hT hFc).1, va_recv hK hP (ci := 5) (q0 := 0) rfl rfl, (q_pre [.ref (g.2.2 2000)] hPc hDc hK hS hT hFc).2⟩ rfl rfl hl.1 rfl (lv_room (Nat.le_of_ble_eq_true rfl)) dX11_beginTurn_1 ⟨Nat.le_of_ble_eq_true rfl, Nat.le_of_ble_eq_true rfl⟩) hP hD hS hFc [0, 1] [] rfl rfl (by decide) (by decide) (fun r9 u9 H locs hw hP hD hS => ?_)
  try dsimp only at hw
  rcases hw with ⟨rfl, rfl⟩
  have hP : va_P g.1 CLS [((g.2.2 2000), .inr (5, [.ref mh, .ref mg, .ref (g.2.2 2002), .ref (g.2.2 2005), .ref mc, .ref (g.2.2 2006), .int 0, .int n1, .int n2, .int n3, .long n4, .int n5, .int n6, .int n7])), ((g.2.2 2001), .inr (3, [.int 0, .int h1, .int h2, .int h3, .ref (g.2.2 2004), .int h4, .int h5, .int h6, .int h7, .int h8, .int h9, .int h10, .int h11, .int h12]))] H := hP
  have hD : va_D A [((g.2.2 2000), .inr (5, [.ref mh, .ref mg, .ref (g.2.2 2002), .ref (g.2.2 2005), .ref mc, .ref (g.2.2 2006), .int 0, .int n1, .int n2, .int n3, .long n4, .int n5, .int n6, .int n7])), ((g.2.2 2001), .inr (3, [.int 0, .int h1, .int h2, .int h3, .ref (g.2.2 2004), .int h4, .int h5, .int h6, .int h7, .int h8, .int h9, .int h10, .int h11, .int h12]))] := hD
  refine W.widen (k := 0) (n := 0) (Nat.le_of_ble_eq_true rfl) (Nat.le_of_ble_eq_true rfl) ?_
  refine lv_astore_n (lv' := [(1, .ref (g.2.2 2001)), (0, .ref (g.2.2 2000))]) hx hb dX11_beginTurn_4 rfl hl (by decide) rfl (fun ls hl => ?_)
  refine lv_aload_n hx hb dX11_beginTurn_5 rfl (lv_at hl 1 rfl) ?_
  refine va_get (D := g.1) (ci := 5) (v := .ref (g.2.2 2002)) (C := RX11) (T := TX11) (N := 14) hx hb htg inG_X11 hown hK hP 0 rfl rfl 2 (by decide) (htg _ k1342) (fun _ h9 => h9) rfl dX11_beginTurn_6 ?_
  have hPc := hP.sub (ws' := []) [] rfl
  have hDc := hD.sub (ws' := []) [] (by decide) rfl
  have hFc := va_free (wc := []) hD hS hA [] rfl
  refine q_cFq (wr := [((g.2.2 2000), .inr (5, [.ref mh, .ref mg, .ref (g.2.2 2002), .ref (g.2.2 2005), .ref mc, .ref (g.2.2 2006), .int 0, .int n1, .int n2, .int n3, .long n4, .int n5, .int n6, .int n7])), ((g.2.2 2001), .inr (3, [.int 0, .int h1, .int h2, .int h3, .ref (g.2.2 2004), .int h4, .int h5, .int h6, .int h7, .int h8, .int h9, .int h10, .int h11, .int h12]))]) (va_runF (As := []) (rest := []) (hK.1 1 _ rfl).2 ⟨hx, hb, hml, hown, htg⟩ (c_iterator l hfl g   H.size) (qI5 htg k1426 k60 k1419 k1422 k1424 (hT.1.2.2.1) okx_iterator rfl rfl ⟨Nat.le_of_ble_eq_true rfl, Nat.le_of_ble_eq_true rfl⟩) ⟨(q_pre [.ref (g.2.2 2002)] hPc hDc hK hS hT hFc).1, va_Orecv (hT.2.2.2.2.1.1) hS, (q_pre [.ref (g.2.2 2002)] hPc hDc hK hS hT hFc).2⟩ rfl rfl hl.1 rfl (lv_room (Nat.le_of_ble_eq_true rfl)) dX11_beginTurn_9 ⟨Nat.le_of_ble_eq_true rfl, Nat.le_of_ble_eq_true rfl⟩) hP hD hS hFc [] [0, 1] rfl rfl (by decide) (by decide) (fun r9 u9 H locs hw hP hD hS => ?_)
  try dsimp only at hw
  rcases hw with ⟨q_1, rfl, rfl⟩
  have hP : va_P g.1 CLS [((g.2.2 2000), .inr (5, [.ref mh, .ref mg, .ref (g.2.2 2002), .ref (g.2.2 2005), .ref mc, .ref (g.2.2 2006), .int 0, .int n1, .int n2, .int n3, .long n4, .int n5, .int n6, .int n7])), ((g.2.2 2001), .inr (3, [.int 0, .int h1, .int h2, .int h3, .ref (g.2.2 2004), .int h4, .int h5, .int h6, .int h7, .int h8, .int h9, .int h10, .int h11, .int h12])), (q_1, .inr (0, [.int 0, .int (-1), .int (nI (g.2.2 2012)), .ref (g.2.2 2002)]))] H := hP
  have hD : va_D A [((g.2.2 2000), .inr (5, [.ref mh, .ref mg, .ref (g.2.2 2002), .ref (g.2.2 2005), .ref mc, .ref (g.2.2 2006), .int 0, .int n1, .int n2, .int n3, .long n4, .int n5, .int n6, .int n7])), ((g.2.2 2001), .inr (3, [.int 0, .int h1, .int h2, .int h3, .ref (g.2.2 2004), .int h4, .int h5, .int h6, .int h7, .int h8, .int h9, .int h10, .int h11, .int h12])), (q_1, .inr (0, [.int 0, .int (-1), .int (nI (g.2.2 2012)), .ref (g.2.2 2002)]))] := hD
  refine W.widen (k := 1) (n := 4) (Nat.le_of_ble_eq_true rfl) (Nat.le_of_ble_eq_true rfl) ?_
  refine lv_astore_n (lv' := [(2, .ref q_1), (1, .ref (g.2.2 2001)), (0, .ref (g.2.2 2000))]) hx hb dX11_beginTurn_14 rfl hl (by decide) rfl (fun ls hl => ?_)
  refine q_loop (g.2.2 2010) (fun i9 f9 H locs ls => va_P g.1 CLS [((g.2.2 2000), .inr (5, [.ref mh, .ref mg, .ref (g.2.2 2002), .ref (g.2.2 2005), .ref mc, .ref (g.2.2 2006), .int 0, .int n1, .int n2, .int n3, .long n4, .int n5, .int n6, .int n7])), ((g.2.2 2001), .inr (3, [.int 0, .int h1, .int h2, .int h3, .ref (g.2.2 2004), .int h4, .int h5, .int h6, .int h7, .int h8, .int h9, .int h10, .int h11, .int h12])), (q_1, .inr (0, [.int (nI i9), .int (f9 0), .int (nI (g.2.2 2012)), .ref (g.2.2 2002)]))] H ∧ va_D A [((g.2.2 2000), .inr (5, [.ref mh, .ref mg, .ref (g.2.2 2002), .ref (g.2.2 2005), .ref mc, .ref (g.2.2 2006), .int 0, .int n1, .int n2, .int n3, .long n4, .int n5, .int n6, .int n7])), ((g.2.2 2001), .inr (3, [.int 0, .int h1, .int h2, .int h3, .ref (g.2.2 2004), .int h4, .int h5, .int h6, .int h7, .int h8, .int h9, .int h10, .int h11, .int h12])), (q_1, .inr (0, [.int (nI i9), .int (f9 0), .int (nI (g.2.2 2012)), .ref (g.2.2 2002)]))] ∧ va_S A s.heap H locs ∧ lv_has ls 4 [(2, .ref q_1), (1, .ref (g.2.2 2001)), (0, .ref (g.2.2 2000))]) (fun i9 f9 H locs ls hk hp ih => ?_) (fun f9 H locs ls hp => ?_) (fun _ => -1) ⟨hP, hD, hS, hl⟩
  · obtain ⟨hP, hD, hS, hl⟩ := hp
    refine lv_aload_n hx hb dX11_beginTurn_15 rfl (lv_at hl 0 rfl) ?_
    have hPc := hP.sub (ws' := [(q_1, .inr (0, [.int (nI i9), .int (f9 0), .int (nI (g.2.2 2012)), .ref (g.2.2 2002)]))]) [2] rfl
    have hDc := hD.sub (ws' := [(q_1, .inr (0, [.int (nI i9), .int (f9 0), .int (nI (g.2.2 2012)), .ref (g.2.2 2002)]))]) [2] (by decide) rfl
    have hFc := va_free (wc := [(q_1, .inr (0, [.int (nI i9), .int (f9 0), .int (nI (g.2.2 2012)), .ref (g.2.2 2002)]))]) hD hS hA [2] rfl
    refine q_cFi (wr := [((g.2.2 2000), .inr (5, [.ref mh, .ref mg, .ref (g.2.2 2002), .ref (g.2.2 2005), .ref mc, .ref (g.2.2 2006), .int 0, .int n1, .int n2, .int n3, .long n4, .int n5, .int n6, .int n7])), ((g.2.2 2001), .inr (3, [.int 0, .int h1, .int h2, .int h3, .ref (g.2.2 2004), .int h4, .int h5, .int h6, .int h7, .int h8, .int h9, .int h10, .int h11, .int h12]))]) (va_runF (As := []) (rest := []) (hK.1 0 _ rfl).2 ⟨hx, hb, hml, hown, htg⟩ (c_hasNext1 l hfl g q_1 i9 (f9 0) (hk) H.size) (qI5 htg k1455 k73 k1447 k1451 k1453 (hT.1.2.2.2.1) okx_hasNext rfl rfl ⟨Nat.le_of_ble_eq_true rfl, Nat.le_of_ble_eq_true rfl⟩) ⟨(q_pre [.ref q_1] hPc hDc hK hS hT hFc).1, va_recv hK hP (ci := 0) (q0 := 2) rfl rfl, (q_pre [.ref q_1] hPc hDc hK hS hT hFc).2⟩ rfl rfl hl.1 rfl (lv_room (Nat.le_of_ble_eq_true rfl)) dX11_beginTurn_16 ⟨Nat.le_of_ble_eq_true rfl, Nat.le_of_ble_eq_true rfl⟩) hP hD hS hFc [2] [0, 1] rfl rfl (by decide) (by decide) (fun r9 u9 H locs hw hP hD hS => ?_)
    try dsimp only at hw
    rcases hw with ⟨rfl, rfl⟩
    have hP : va_P g.1 CLS [((g.2.2 2000), .inr (5, [.ref mh, .ref mg, .ref (g.2.2 2002), .ref (g.2.2 2005), .ref mc, .ref (g.2.2 2006), .int 0, .int n1, .int n2, .int n3, .long n4, .int n5, .int n6, .int n7])), ((g.2.2 2001), .inr (3, [.int 0, .int h1, .int h2, .int h3, .ref (g.2.2 2004), .int h4, .int h5, .int h6, .int h7, .int h8, .int h9, .int h10, .int h11, .int h12])), (q_1, .inr (0, [.int (nI i9), .int (f9 0), .int (nI (g.2.2 2012)), .ref (g.2.2 2002)]))] H := hP
    have hD : va_D A [((g.2.2 2000), .inr (5, [.ref mh, .ref mg, .ref (g.2.2 2002), .ref (g.2.2 2005), .ref mc, .ref (g.2.2 2006), .int 0, .int n1, .int n2, .int n3, .long n4, .int n5, .int n6, .int n7])), ((g.2.2 2001), .inr (3, [.int 0, .int h1, .int h2, .int h3, .ref (g.2.2 2004), .int h4, .int h5, .int h6, .int h7, .int h8, .int h9, .int h10, .int h11, .int h12])), (q_1, .inr (0, [.int (nI i9), .int (f9 0), .int (nI (g.2.2 2012)), .ref (g.2.2 2002)]))] := hD
    refine W.widen (k := 1) (n := 4) (Nat.le_of_ble_eq_true rfl) (Nat.le_of_ble_eq_true rfl) ?_
    refine lv_if_eq (tgt := 88) hx hb dX11_beginTurn_21 (by decide) (fun c_2 => absurd c_2 (by decide)) (fun c_2 => ?_)
    refine lv_aload_n hx hb dX11_beginTurn_24 rfl (lv_at hl 0 rfl) ?_
    have hPc := hP.sub (ws' := [(q_1, .inr (0, [.int (nI i9), .int (f9 0), .int (nI (g.2.2 2012)), .ref (g.2.2 2002)]))]) [2] rfl
    have hDc := hD.sub (ws' := [(q_1, .inr (0, [.int (nI i9), .int (f9 0), .int (nI (g.2.2 2012)), .ref (g.2.2 2002)]))]) [2] (by decide) rfl
    have hFc := va_free (wc := [(q_1, .inr (0, [.int (nI i9), .int (f9 0), .int (nI (g.2.2 2012)), .ref (g.2.2 2002)]))]) hD hS hA [2] rfl
    refine q_cFq (wr := [((g.2.2 2000), .inr (5, [.ref mh, .ref mg, .ref (g.2.2 2002), .ref (g.2.2 2005), .ref mc, .ref (g.2.2 2006), .int 0, .int n1, .int n2, .int n3, .long n4, .int n5, .int n6, .int n7])), ((g.2.2 2001), .inr (3, [.int 0, .int h1, .int h2, .int h3, .ref (g.2.2 2004), .int h4, .int h5, .int h6, .int h7, .int h8, .int h9, .int h10, .int h11, .int h12]))]) (va_runF (As := []) (rest := []) (hK.1 0 _ rfl).2 ⟨hx, hb, hml, hown, htg⟩ (c_next l hfl g q_1 i9 (f9 0) (hk) H.size) (qI5 htg k1464 k73 k1457 k1460 k1462 (hT.1.2.2.2.2.1) okx_next rfl rfl ⟨Nat.le_of_ble_eq_true rfl, Nat.le_of_ble_eq_true rfl⟩) ⟨(q_pre [.ref q_1] hPc hDc hK hS hT hFc).1, va_recv hK hP (ci := 0) (q0 := 2) rfl rfl, (q_pre [.ref q_1] hPc hDc hK hS hT hFc).2⟩ rfl rfl hl.1 rfl (lv_room (Nat.le_of_ble_eq_true rfl)) dX11_beginTurn_25 ⟨Nat.le_of_ble_eq_true rfl, Nat.le_of_ble_eq_true rfl⟩) hP hD hS hFc [2] [0, 1] rfl rfl (by decide) (by decide) (fun r9 u9 H locs hw hP hD hS => ?_)
    try dsimp only at hw
    rcases hw with ⟨rfl, rfl⟩
    have hP : va_P g.1 CLS [((g.2.2 2000), .inr (5, [.ref mh, .ref mg, .ref (g.2.2 2002), .ref (g.2.2 2005), .ref mc, .ref (g.2.2 2006), .int 0, .int n1, .int n2, .int n3, .long n4, .int n5, .int n6, .int n7])), ((g.2.2 2001), .inr (3, [.int 0, .int h1, .int h2, .int h3, .ref (g.2.2 2004), .int h4, .int h5, .int h6, .int h7, .int h8, .int h9, .int h10, .int h11, .int h12])), (q_1, .inr (0, [.int (nI (i9 + 1)), .int (nI i9), .int (nI (g.2.2 2012)), .ref (g.2.2 2002)]))] H := hP
    have hD : va_D A [((g.2.2 2000), .inr (5, [.ref mh, .ref mg, .ref (g.2.2 2002), .ref (g.2.2 2005), .ref mc, .ref (g.2.2 2006), .int 0, .int n1, .int n2, .int n3, .long n4, .int n5, .int n6, .int n7])), ((g.2.2 2001), .inr (3, [.int 0, .int h1, .int h2, .int h3, .ref (g.2.2 2004), .int h4, .int h5, .int h6, .int h7, .int h8, .int h9, .int h10, .int h11, .int h12])), (q_1, .inr (0, [.int (nI (i9 + 1)), .int (nI i9), .int (nI (g.2.2 2012)), .ref (g.2.2 2002)]))] := hD
    refine W.widen (k := 1) (n := 4) (Nat.le_of_ble_eq_true rfl) (Nat.le_of_ble_eq_true rfl) ?_
    refine va_castE hx hb hown (htg _ k1673) (va_Orecv ((hT.2.2.2.2.2.2.1 i9 hk).2.1) hS) dX11_beginTurn_30 ?_
    refine lv_astore_n (lv' := [(3, .ref (g.2.2 (3000 + i9))), (2, .ref q_1), (1, .ref (g.2.2 2001)), (0, .ref (g.2.2 2000))]) hx hb dX11_beginTurn_33 rfl hl (by decide) rfl (fun ls hl => ?_)
    refine lv_aload_n hx hb dX11_beginTurn_34 rfl (lv_at hl 0 rfl) ?_
    refine q_getfN (v := .int 1) hx hb ((hT.2.2.2.2.2.2.1 i9 hk).2.2.1) hS hown (va_Nw.use rfl (hT.1.1 _ (List.mem_of_getElem? (i := 24) rfl))) (fun _ h9 => h9) dX11_beginTurn_35 ?_
    refine lv_if_eq (tgt := 85) hx hb dX11_beginTurn_38 (by decide) (fun c_3 => absurd c_3 (by decide)) (fun c_3 => ?_)
    refine lv_aload_n hx hb dX11_beginTurn_41 rfl (lv_at hl 0 rfl) ?_
    refine q_getfN (v := .int 0) hx hb ((hT.2.2.2.2.2.2.1 i9 hk).2.2.2.2.2.2.2) hS hown (va_Nw.use rfl (hT.1.1 _ (List.mem_of_getElem? (i := 22) rfl))) (fun _ h9 => h9) dX11_beginTurn_42 ?_
    refine lv_if_eq (tgt := 85) hx hb dX11_beginTurn_45 (by decide) (fun c_4 => ?_) (fun c_4 => absurd (by decide) c_4)
    refine lv_goto (tgt := 15) hx hb dX11_beginTurn_85 (by decide) ?_
    exact ih (fun _ => nI i9) H locs ls ⟨hP, hD, hS, lv_sub hl [1, 2, 3] rfl⟩
  · obtain ⟨hP, hD, hS, hl⟩ := hp
    refine lv_aload_n hx hb dX11_beginTurn_15 rfl (lv_at hl 0 rfl) ?_
    have hPc := hP.sub (ws' := [(q_1, .inr (0, [.int (nI (g.2.2 2010)), .int (f9 0), .int (nI (g.2.2 2012)), .ref (g.2.2 2002)]))]) [2] rfl
    have hDc := hD.sub (ws' := [(q_1, .inr (0, [.int (nI (g.2.2 2010)), .int (f9 0), .int (nI (g.2.2 2012)), .ref (g.2.2 2002)]))]) [2] (by decide) rfl
    have hFc := va_free (wc := [(q_1, .inr (0, [.int (nI (g.2.2 2010)), .int (f9 0), .int (nI (g.2.2 2012)), .ref (g.2.2 2002)]))]) hD hS hA [2] rfl
    refine q_cFi (wr := [((g.2.2 2000), .inr (5, [.ref mh, .ref mg, .ref (g.2.2 2002), .ref (g.2.2 2005), .ref mc, .ref (g.2.2 2006), .int 0, .int n1, .int n2, .int n3, .long n4, .int n5, .int n6, .int n7])), ((g.2.2 2001), .inr (3, [.int 0, .int h1, .int h2, .int h3, .ref (g.2.2 2004), .int h4, .int h5, .int h6, .int h7, .int h8, .int h9, .int h10, .int h11, .int h12]))]) (va_runF (As := []) (rest := []) (hK.1 0 _ rfl).2 ⟨hx, hb, hml, hown, htg⟩ (c_hasNext0 l hfl g q_1 (f9 0)  H.size) (qI5 htg k1455 k73 k1447 k1451 k1453 (hT.1.2.2.2.1) okx_hasNext rfl rfl ⟨Nat.le_of_ble_eq_true rfl, Nat.le_of_ble_eq_true rfl⟩) ⟨(q_pre [.ref q_1] hPc hDc hK hS hT hFc).1, va_recv hK hP (ci := 0) (q0 := 2) rfl rfl, (q_pre [.ref q_1] hPc hDc hK hS hT hFc).2⟩ rfl rfl hl.1 rfl (lv_room (Nat.le_of_ble_eq_true rfl)) dX11_beginTurn_16 ⟨Nat.le_of_ble_eq_true rfl, Nat.le_of_ble_eq_true rfl⟩) hP hD hS hFc [2] [0, 1] rfl rfl (by decide) (by decide) (fun r9 u9 H locs hw hP hD hS => ?_)
    try dsimp only at hw
    rcases hw with ⟨rfl, rfl⟩
    have hP : va_P g.1 CLS [((g.2.2 2000), .inr (5, [.ref mh, .ref mg, .ref (g.2.2 2002), .ref (g.2.2 2005), .ref mc, .ref (g.2.2 2006), .int 0, .int n1, .int n2, .int n3, .long n4, .int n5, .int n6, .int n7])), ((g.2.2 2001), .inr (3, [.int 0, .int h1, .int h2, .int h3, .ref (g.2.2 2004), .int h4, .int h5, .int h6, .int h7, .int h8, .int h9, .int h10, .int h11, .int h12])), (q_1, .inr (0, [.int (nI (g.2.2 2010)), .int (f9 0), .int (nI (g.2.2 2012)), .ref (g.2.2 2002)]))] H := hP
    have hD : va_D A [((g.2.2 2000), .inr (5, [.ref mh, .ref mg, .ref (g.2.2 2002), .ref (g.2.2 2005), .ref mc, .ref (g.2.2 2006), .int 0, .int n1, .int n2, .int n3, .long n4, .int n5, .int n6, .int n7])), ((g.2.2 2001), .inr (3, [.int 0, .int h1, .int h2, .int h3, .ref (g.2.2 2004), .int h4, .int h5, .int h6, .int h7, .int h8, .int h9, .int h10, .int h11, .int h12])), (q_1, .inr (0, [.int (nI (g.2.2 2010)), .int (f9 0), .int (nI (g.2.2 2012)), .ref (g.2.2 2002)]))] := hD
    refine W.widen (k := 1) (n := 4) (Nat.le_of_ble_eq_true rfl) (Nat.le_of_ble_eq_true rfl) ?_
    refine lv_if_eq (tgt := 88) hx hb dX11_beginTurn_21 (by decide) (fun c_5 => ?_) (fun c_5 => absurd (by decide) c_5)
    refine lv_aload_n hx hb dX11_beginTurn_88 rfl (lv_at hl 1 rfl) ?_
    refine lv_bipush (v := 32) hx hb dX11_beginTurn_89 (by decide) ?_
    refine va_putN (D := g.1) (ci := 3) (v := .int 32) (ty := .char) (C := RX9) (T := TX9) (N := 14) hx hb htg inG_X9 tyX9 tyX9_ok nmX9 hown hK hP hD hS 1 rfl rfl 12 (by decide) (va_Nw.use rfl (hT.1.1 _ (List.mem_of_getElem? (i := 15) rfl))) (fun _ h9 => h9) rfl (by decide +kernel) rfl rfl (Nat.le_of_ble_eq_true rfl) dX11_beginTurn_91 (fun H locs hP hD hS => ?_)
    have hP : va_P g.1 CLS [((g.2.2 2000), .inr (5, [.ref mh, .ref mg, .ref (g.2.2 2002), .ref (g.2.2 2005), .ref mc, .ref (g.2.2 2006), .int 0, .int n1, .int n2, .int n3, .long n4, .int n5, .int n6, .int n7])), ((g.2.2 2001), .inr (3, [.int 0, .int h1, .int h2, .int h3, .ref (g.2.2 2004), .int h4, .int h5, .int h6, .int h7, .int h8, .int h9, .int h10, .int 32, .int h12])), (q_1, .inr (0, [.int (nI (g.2.2 2010)), .int (f9 0), .int (nI (g.2.2 2012)), .ref (g.2.2 2002)]))] H := hP
    have hD : va_D A [((g.2.2 2000), .inr (5, [.ref mh, .ref mg, .ref (g.2.2 2002), .ref (g.2.2 2005), .ref mc, .ref (g.2.2 2006), .int 0, .int n1, .int n2, .int n3, .long n4, .int n5, .int n6, .int n7])), ((g.2.2 2001), .inr (3, [.int 0, .int h1, .int h2, .int h3, .ref (g.2.2 2004), .int h4, .int h5, .int h6, .int h7, .int h8, .int h9, .int h10, .int 32, .int h12])), (q_1, .inr (0, [.int (nI (g.2.2 2010)), .int (f9 0), .int (nI (g.2.2 2012)), .ref (g.2.2 2002)]))] := hD
    refine lv_aload_n hx hb dX11_beginTurn_94 rfl (lv_at hl 1 rfl) ?_
    refine lv_iconst (v := 1) hx hb dX11_beginTurn_95 (by decide) ?_
    refine va_putN (D := g.1) (ci := 3) (v := .int 1) (ty := .boolean) (C := RX9) (T := TX9) (N := 14) hx hb htg inG_X9 tyX9 tyX9_ok nmX9 hown hK hP hD hS 1 rfl rfl 11 (by decide) (va_Nw.use rfl (hT.1.1 _ (List.mem_of_getElem? (i := 14) rfl))) (fun _ h9 => h9) rfl (by decide +kernel) rfl rfl (Nat.le_of_ble_eq_true rfl) dX11_beginTurn_96 (fun H locs hP hD hS => ?_)
    have hP : va_P g.1 CLS [((g.2.2 2000), .inr (5, [.ref mh, .ref mg, .ref (g.2.2 2002), .ref (g.2.2 2005), .ref mc, .ref (g.2.2 2006), .int 0, .int n1, .int n2, .int n3, .long n4, .int n5, .int n6, .int n7])), ((g.2.2 2001), .inr (3, [.int 0, .int h1, .int h2, .int h3, .ref (g.2.2 2004), .int h4, .int h5, .int h6, .int h7, .int h8, .int h9, .int 1, .int 32, .int h12])), (q_1, .inr (0, [.int (nI (g.2.2 2010)), .int (f9 0), .int (nI (g.2.2 2012)), .ref (g.2.2 2002)]))] H := hP
    have hD : va_D A [((g.2.2 2000), .inr (5, [.ref mh, .ref mg, .ref (g.2.2 2002), .ref (g.2.2 2005), .ref mc, .ref (g.2.2 2006), .int 0, .int n1, .int n2, .int n3, .long n4, .int n5, .int n6, .int n7])), ((g.2.2 2001), .inr (3, [.int 0, .int h1, .int h2, .int h3, .ref (g.2.2 2004), .int h4, .int h5, .int h6, .int h7, .int h8, .int h9, .int 1, .int 32, .int h12])), (q_1, .inr (0, [.int (nI (g.2.2 2010)), .int (f9 0), .int (nI (g.2.2 2012)), .ref (g.2.2 2002)]))] := hD
    refine lv_aload_n hx hb dX11_beginTurn_99 rfl (lv_at hl 2 rfl) ?_
    refine lv_iconst (v := 1) hx hb dX11_beginTurn_100 (by decide) ?_
    refine va_put (D := g.1) (ci := 5) (v := .int 1) (ty := .boolean) (C := RX11) (T := TX11) (N := 14) hx hb htg inG_X11 tyX11 tyX11_ok nmX11 hown hK hP hD hS 0 rfl rfl 9 (by decide) (htg _ k1349) (fun _ h9 => h9) rfl (by decide +kernel) rfl rfl (Nat.le_of_ble_eq_true rfl) dX11_beginTurn_101 (fun H locs hP hD hS => ?_)
    have hP : va_P g.1 CLS [((g.2.2 2000), .inr (5, [.ref mh, .ref mg, .ref (g.2.2 2002), .ref (g.2.2 2005), .ref mc, .ref (g.2.2 2006), .int 0, .int n1, .int n2, .int 1, .long n4, .int n5, .int n6, .int n7])), ((g.2.2 2001), .inr (3, [.int 0, .int h1, .int h2, .int h3, .ref (g.2.2 2004), .int h4, .int h5, .int h6, .int h7, .int h8, .int h9, .int 1, .int 32, .int h12])), (q_1, .inr (0, [.int (nI (g.2.2 2010)), .int (f9 0), .int (nI (g.2.2 2012)), .ref (g.2.2 2002)]))] H := hP
    have hD : va_D A [((g.2.2 2000), .inr (5, [.ref mh, .ref mg, .ref (g.2.2 2002), .ref (g.2.2 2005), .ref mc, .ref (g.2.2 2006), .int 0, .int n1, .int n2, .int 1, .long n4, .int n5, .int n6, .int n7])), ((g.2.2 2001), .inr (3, [.int 0, .int h1, .int h2, .int h3, .ref (g.2.2 2004), .int h4, .int h5, .int h6, .int h7, .int h8, .int h9, .int 1, .int 32, .int h12])), (q_1, .inr (0, [.int (nI (g.2.2 2010)), .int (f9 0), .int (nI (g.2.2 2012)), .ref (g.2.2 2002)]))] := hD
    refine lv_aload_n hx hb dX11_beginTurn_104 rfl (lv_at hl 2 rfl) ?_
    refine lv_iconst (v := 0) hx hb dX11_beginTurn_105 (by decide) ?_
    refine lv_aload_n hx hb dX11_beginTurn_106 rfl (lv_at hl 2 rfl) ?_
    refine lv_aload_n hx hb dX11_beginTurn_107 rfl (lv_at hl 1 rfl) ?_
    refine lv_bipush (v := 115) hx hb dX11_beginTurn_108 (by decide) ?_
    have hz := one_new hAe hP hD
    have hPc := hP.sub (ws' := []) [] rfl
    have hDc := hD.sub (ws' := []) [] (by decide) rfl
    have hFc := va_free (wc := []) hD hS hA [] rfl
    have hz0 := hz
    refine q_ciZ (wr := [((g.2.2 2000), .inr (5, [.ref mh, .ref mg, .ref (g.2.2 2002), .ref (g.2.2 2005), .ref mc, .ref (g.2.2 2006), .int 0, .int n1, .int n2, .int 1, .long n4, .int n5, .int n6, .int n7])), ((g.2.2 2001), .inr (3, [.int 0, .int h1, .int h2, .int h3, .ref (g.2.2 2004), .int h4, .int h5, .int h6, .int h7, .int h8, .int h9, .int 1, .int 32, .int h12])), (q_1, .inr (0, [.int (nI (g.2.2 2010)), .int (f9 0), .int (nI (g.2.2 2012)), .ref (g.2.2 2002)]))]) (va_runV (As := [.ref (g.2.2 2001), .int 115]) (rest := [.int 0, .ref (g.2.2 2000)]) ⟨hx, hb, hml, hown, htg⟩ (c_number_s l hfl g   H.size) ⟨(qB htg k1791 k57 k1788 ok_X11_number rfl rfl ⟨Nat.le_of_ble_eq_true rfl, Nat.le_of_ble_eq_true rfl⟩), htg _ k1790, htg _ k28⟩ ⟨(q_preab [.ref (g.2.2 2000), .ref (g.2.2 2001), .int 115] htg hP hK hS hT hA 0 1 rfl rfl rfl rfl rfl rfl).1, va_recv hK hP (ci := 5) (q0 := 0) rfl rfl, (q_preab [.ref (g.2.2 2000), .ref (g.2.2 2001), .int 115] htg hP hK hS hT hA 0 1 rfl rfl rfl rfl rfl rfl).2⟩ rfl rfl hl.1 rfl (lv_room (Nat.le_of_ble_eq_true rfl)) dX11_beginTurn_110 ⟨Nat.le_of_ble_eq_true rfl, Nat.le_of_ble_eq_true rfl⟩) hP hD hS hFc [] [0, 1, 2] rfl rfl (by decide) (by decide) (fun r9 u9 H locs hZ hw hP hD hS => ?_)
    have hz := Nat.le_trans (Nat.add_le_add_right hz0 2) hZ
    try dsimp only at hw
    rcases hw with ⟨rfl, rfl⟩
    have hP : va_P g.1 CLS [((g.2.2 2000), .inr (5, [.ref mh, .ref mg, .ref (g.2.2 2002), .ref (g.2.2 2005), .ref mc, .ref (g.2.2 2006), .int 0, .int n1, .int n2, .int 1, .long n4, .int n5, .int n6, .int n7])), ((g.2.2 2001), .inr (3, [.int 0, .int h1, .int h2, .int h3, .ref (g.2.2 2004), .int h4, .int h5, .int h6, .int h7, .int h8, .int h9, .int 1, .int 32, .int h12])), (q_1, .inr (0, [.int (nI (g.2.2 2010)), .int (f9 0), .int (nI (g.2.2 2012)), .ref (g.2.2 2002)]))] H := hP
    have hD : va_D A [((g.2.2 2000), .inr (5, [.ref mh, .ref mg, .ref (g.2.2 2002), .ref (g.2.2 2005), .ref mc, .ref (g.2.2 2006), .int 0, .int n1, .int n2, .int 1, .long n4, .int n5, .int n6, .int n7])), ((g.2.2 2001), .inr (3, [.int 0, .int h1, .int h2, .int h3, .ref (g.2.2 2004), .int h4, .int h5, .int h6, .int h7, .int h8, .int h9, .int 1, .int 32, .int h12])), (q_1, .inr (0, [.int (nI (g.2.2 2010)), .int (f9 0), .int (nI (g.2.2 2012)), .ref (g.2.2 2002)]))] := hD
    refine W.widen (k := 3) (n := 11) (Nat.le_of_ble_eq_true rfl) (Nat.le_of_ble_eq_true rfl) ?_
    refine va_mmax hx hb (by rw [hl.1]; exact hml) (own := "HeroTableModel") (index := 165) hown (htg _ k1711) (htg _ k454) (htg _ k72) (htg _ k455) (Nat.le_of_ble_eq_true rfl) (Nat.le_of_ble_eq_true rfl) (Nat.le_of_ble_eq_true rfl) (Nat.le_of_ble_eq_true rfl) dX11_beginTurn_113 ?_
    refine lv_topi (fun x_6 ex_6 => ?_)
    obtain rfl : x_6 = 4 := ex_6.trans (by decide)
    have hS9 := hS
    have hSr : va_S A H H locs := ⟨Nat.le_refl _, fun _ _ _ => rfl, hS.2.2⟩
    refine va_put (D := g.1) (ci := 5) (v := .int 4) (ty := .int) (C := RX11) (T := TX11) (N := 14) hx hb htg inG_X11 tyX11 tyX11_ok nmX11 hown hK hP hD hSr 0 rfl rfl 8 (by decide) (htg _ k1348) (fun _ h9 => h9) rfl (by decide +kernel) rfl rfl (Nat.le_of_ble_eq_true rfl) dX11_beginTurn_116 (fun H locs hP hD hS8 => ?_)
    have hz := Nat.le_trans hz hS8.1
    have hS := q_Str hS9 hS8
    have hP : va_P g.1 CLS [((g.2.2 2000), .inr (5, [.ref mh, .ref mg, .ref (g.2.2 2002), .ref (g.2.2 2005), .ref mc, .ref (g.2.2 2006), .int 0, .int n1, .int 4, .int 1, .long n4, .int n5, .int n6, .int n7])), ((g.2.2 2001), .inr (3, [.int 0, .int h1, .int h2, .int h3, .ref (g.2.2 2004), .int h4, .int h5, .int h6, .int h7, .int h8, .int h9, .int 1, .int 32, .int h12])), (q_1, .inr (0, [.int (nI (g.2.2 2010)), .int (f9 0), .int (nI (g.2.2 2012)), .ref (g.2.2 2002)]))] H := hP
    have hD : va_D A [((g.2.2 2000), .inr (5, [.ref mh, .ref mg, .ref (g.2.2 2002), .ref (g.2.2 2005), .ref mc, .ref (g.2.2 2006), .int 0, .int n1, .int 4, .int 1, .long n4, .int n5, .int n6, .int n7])), ((g.2.2 2001), .inr (3, [.int 0, .int h1, .int h2, .int h3, .ref (g.2.2 2004), .int h4, .int h5, .int h6, .int h7, .int h8, .int h9, .int 1, .int 32, .int h12])), (q_1, .inr (0, [.int (nI (g.2.2 2010)), .int (f9 0), .int (nI (g.2.2 2012)), .ref (g.2.2 2002)]))] := hD
    refine lv_aload_n hx hb dX11_beginTurn_119 rfl (lv_at hl 1 rfl) ?_
    refine va_getN (D := g.1) (ci := 3) (v := .int 0) (C := RX9) (T := TX9) (N := 14) hx hb htg inG_X9 hown hK hP 1 rfl rfl 0 (by decide) (va_Nw.use rfl (hT.1.1 _ (List.mem_of_getElem? (i := 3) rfl))) (fun _ h9 => h9) rfl dX11_beginTurn_120 ?_
    have hP9 := hP.sub (ws' := [((g.2.2 2000), .inr (5, [.ref mh, .ref mg, .ref (g.2.2 2002), .ref (g.2.2 2005), .ref mc, .ref (g.2.2 2006), .int 0, .int n1, .int 4, .int 1, .long n4, .int n5, .int n6, .int n7])), ((g.2.2 2001), .inr (3, [.int 0, .int h1, .int h2, .int h3, .ref (g.2.2 2004), .int h4, .int h5, .int h6, .int h7, .int h8, .int h9, .int 1, .int 32, .int h12]))]) [0, 1] rfl
    have hD9 := hD.sub (ws' := [((g.2.2 2000), .inr (5, [.ref mh, .ref mg, .ref (g.2.2 2002), .ref (g.2.2 2005), .ref mc, .ref (g.2.2 2006), .int 0, .int n1, .int 4, .int 1, .long n4, .int n5, .int n6, .int n7])), ((g.2.2 2001), .inr (3, [.int 0, .int h1, .int h2, .int h3, .ref (g.2.2 2004), .int h4, .int h5, .int h6, .int h7, .int h8, .int h9, .int 1, .int 32, .int h12]))]) [0, 1] (by decide) rfl
    refine W.widen (k := 3) (n := 11) (Nat.le_of_ble_eq_true rfl) (Nat.le_of_ble_eq_true rfl) ?_
    exact W.iret (v := 0) hx hb hr (fun t ht hW => ⟨⟨0, [((g.2.2 2000), .inr (5, [.ref mh, .ref mg, .ref (g.2.2 2002), .ref (g.2.2 2005), .ref mc, .ref (g.2.2 2006), .int 0, .int n1, .int 4, .int 1, .long n4, .int n5, .int n6, .int n7])), ((g.2.2 2001), .inr (3, [.int 0, .int h1, .int h2, .int h3, .ref (g.2.2 2004), .int h4, .int h5, .int h6, .int h7, .int h8, .int h9, .int 1, .int 32, .int h12]))], rfl, ⟨rfl, rfl⟩, ⟨by rw [ht]; exact hP9, va_K.moved hW.alike hK, hD9⟩, by rw [ht, hH0]; exact hz⟩, hS.F ht⟩) hS.2.2 dX11_beginTurn_123

set_option maxHeartbeats 4000000 in
set_option maxRecDepth 100000 in
theorem c_endTurn (l : Launch) (hfl : l.stackTraces = false) (g : GP) (mh : Nat) (mg : Nat) (mc : Nat) (n1 : Int32) (n2 : Int32) (n3 : Int32) (n4 : Int64) (n5 : Int32) (n6 : Int32) (n7 : Int32) (h1 : Int32) (h2 : Int32) (h3 : Int32) (h4 : Int32) (h5 : Int32) (h6 : Int32) (h7 : Int32) (h8 : Int32) (h9 : Int32) (h10 : Int32) (h11 : Int32) (h12 : Int32) (mca : Nat) (k1 : Nat) (nc : Nat) (c0 : Int32) (fc : Nat → Option Nat) (hkc : k1 < nc) (hnc : nc < 2 ^ 31) : ZI l yX11_endTurn (wG yX11_endTurn cX11_endTurn 5 (Option.some Jvm.ClassFile.FieldType.int)) (LV 8 (5 + 2 * g.2.2 2010) (13 + 7 * g.2.2 2010)) g [.ref (g.2.2 2000)] ([((g.2.2 2000), .inr (5, [.ref mh, .ref mg, .ref (g.2.2 2002), .ref (g.2.2 2005), .ref mc, .ref (g.2.2 2006), .int 0, .int n1, .int n2, .int n3, .long n4, .int n5, .int n6, .int n7])), ((g.2.2 2001), .inr (3, [.int 0, .int h1, .int h2, .int h3, .ref (g.2.2 2004), .int h4, .int h5, .int h6, .int h7, .int h8, .int h9, .int h10, .int h11, .int h12])), (mc, .inr (1, [.int c0, .ref mca, .int (nI k1)])), (mca, .inl (g.2.1 5, nc, .inr (.inr (.inr (.inr fc)))))]) (2 * (g.2.2 2010) + 3) (fun (r : Int32) (u : va_W) => ∃ (n9 : Int32) (c9 : Int32) (f2 : Nat → Option Nat), r = 0 ∧ u = [((g.2.2 2000), .inr (5, [.ref mh, .ref mg, .ref (g.2.2 2002), .ref (g.2.2 2005), .ref mc, .ref (g.2.2 2006), .int 0, .int n9, .int 4, .int 1, .long n4, .int n5, .int n6, .int 0])), ((g.2.2 2001), .inr (3, [.int 0, .int h1, .int h2, .int h3, .ref (g.2.2 2004), .int h4, .int h5, .int h6, .int h7, .int h8, .int h9, .int 1, .int 32, .int h12])), (mc, .inr (1, [.int c9, .ref mca, .int (nI (k1 + 1))])), (mca, .inl (g.2.1 5, nc, .inr (.inr (.inr (.inr f2)))))]) := by
  intro sz
  refine Met.ofW (cc := cX11_endTurn) (maxL := 5) (ret := (Option.some Jvm.ClassFile.FieldType.int)) (by decide) rfl ?_
  intro p e s m args below meth c s₁ B hml hv
  obtain ⟨rfl, hsz, hP, hK, hD0, hT0⟩ := hv
  have hx := B.exec
  have hb := B.bytes
  have hr := B.returns
  have hts := atoms_spec (ws := (wG yX11_endTurn cX11_endTurn 5 (Option.some Jvm.ClassFile.FieldType.int))) B.pre
  have htg : ∀ w ∈ G9, w.before _ s = true := fun w h => hts w (List.mem_cons_of_mem _ h)
  have hown : s.vm.findClass "HeroTableModel" = some m.cls := findClass_of_methodNamed B.named
  have hlocks := B.notSynchronized
  subst hsz
  have hD := hD0.self (sz := s.heap.size)
  have hT := hT0
  clear hT0
  generalize hAe : va_A [((g.2.2 2000), .inr (5, [.ref mh, .ref mg, .ref (g.2.2 2002), .ref (g.2.2 2005), .ref mc, .ref (g.2.2 2006), .int 0, .int n1, .int n2, .int n3, .long n4, .int n5, .int n6, .int n7])), ((g.2.2 2001), .inr (3, [.int 0, .int h1, .int h2, .int h3, .ref (g.2.2 2004), .int h4, .int h5, .int h6, .int h7, .int h8, .int h9, .int h10, .int h11, .int h12])), (mc, .inr (1, [.int c0, .ref mca, .int (nI k1)])), (mca, .inl (g.2.1 5, nc, .inr (.inr (.inr (.inr fc)))))] s.heap.size = A at hD hT ⊢
  have hA : ∀ q : Nat, s.heap.size ≤ q → A q := fun q h => by rw [← hAe]; exact Or.inr h
  obtain ⟨H, hH0⟩ : ∃ H, H = s.heap := ⟨_, rfl⟩
  have hS : va_S A s.heap H [] := by rw [hH0]; exact va_S.rf
  have hP : va_P g.1 CLS [((g.2.2 2000), .inr (5, [.ref mh, .ref mg, .ref (g.2.2 2002), .ref (g.2.2 2005), .ref mc, .ref (g.2.2 2006), .int 0, .int n1, .int n2, .int n3, .long n4, .int n5, .int n6, .int n7])), ((g.2.2 2001), .inr (3, [.int 0, .int h1, .int h2, .int h3, .ref (g.2.2 2004), .int h4, .int h5, .int h6, .int h7, .int h8, .int h9, .int h10, .int h11, .int h12])), (mc, .inr (1, [.int c0, .ref mca, .int (nI k1)])), (mca, .inl (g.2.1 5, nc, .inr (.inr (.inr (.inr fc)))))] H := by rw [hH0]; exact hP
  rw [← hH0]
  have hl := lv_entry ([.ref (g.2.2 2000)]) (n := 5) (Nat.le_of_ble_eq_true rfl)
  rw [lg_entry_eq]
  generalize (lg_sl ([.ref (g.2.2 2000)]) ++ List.replicate (5 - (lg_sl ([.ref (g.2.2 2000)])).length) Slot.unset).toArray = ls at hl ⊢
  have hl : lv_has ls 5 [(0, .ref (g.2.2 2000))] := hl
  refine lv_aload_n hx hb dX11_endTurn_0 rfl (lv_at hl 0 rfl) ?_
  refine lv_aload_n hx hb dX11_endTurn_1 rfl (lv_at hl 0 rfl) ?_
  have hPc := hP.sub (ws' := [((g.2.2 2000), .inr (5, [.ref mh, .ref mg, .ref (g.2.2 2002), .ref (g.2.2 2005), .ref mc, .ref (g.2.2 2006), .int 0, .int n1, .int n2, .int n3, .long n4, .int n5, .int n6, .int n7]))]) [0] rfl
  have hDc := hD.sub (ws' := [((g.2.2 2000), .inr (5, [.ref mh, .ref mg, .ref (g.2.2 2002), .ref (g.2.2 2005), .ref mc, .ref (g.2.2 2006), .int 0, .int n1, .int n2, .int n3, .long n4, .int n5, .int n6, .int n7]))]) [0] (by decide) rfl
  have hFc := va_free (wc := [((g.2.2 2000), .inr (5, [.ref mh, .ref mg, .ref (g.2.2 2002), .ref (g.2.2 2005), .ref mc, .ref (g.2.2 2006), .int 0, .int n1, .int n2, .int n3, .long n4, .int n5, .int n6, .int n7]))]) hD hS hA [0] rfl
  refine q_ci (wr := [((g.2.2 2001), .inr (3, [.int 0, .int h1, .int h2, .int h3, .ref (g.2.2 2004), .int h4, .int h5, .int h6, .int h7, .int h8, .int h9, .int h10, .int h11, .int h12])), (mc, .inr (1, [.int c0, .ref mca, .int (nI k1)])), (mca, .inl (g.2.1 5, nc, .inr (.inr (.inr (.inr fc)))))]) (va_runV (As := []) (rest := [.ref (g.2.2 2000)]) ⟨hx, hb, hml, hown, htg⟩ (c_isOn l hfl g mh mg mc n1 n2 n3 n4 n5 n6 n7  H.size) ⟨(qB htg k1413 k57 k1410 ok_X11_isOn rfl rfl ⟨by (first | exact Nat.le_of_ble_eq_true rfl | omega | (simp only [LV, Jvm.D.headSpec]; omega)), by (first | exact Nat.le_of_ble_eq_true rfl | omega | (simp only [LV, Jvm.D.headSpec]; omega))⟩), htg _ k1412, htg _ k17⟩ ⟨(q_pre [.ref (g.2.2 2000)] hPc hDc hK hS hT hFc).1, va_recv hK hP (ci := 5) (q0 := 0) rfl rfl, (q_pre [.ref (g.2.2 2000)] hPc hDc hK hS hT hFc).2⟩ rfl rfl hl.1 rfl (lv_room (by (first | exact Nat.le_of_ble_eq_true rfl | omega | (simp only [LV, Jvm.D.headSpec]; omega)))) dX11_endTurn_2 ⟨by (first | exact Nat.le_of_ble_eq_true rfl | omega | (simp only [LV, Jvm.D.headSpec]; omega)), by (first | exact Nat.le_of_ble_eq_true rfl | omega | (simp only [LV, Jvm.D.headSpec]; omega))⟩) hP hD hS hFc [0] [1, 2, 3] rfl rfl (by decide) (by decide) (fun r9 u9 H locs hw hP hD hS => ?_)
  try dsimp only at hw
  rcases hw with ⟨rfl, rfl⟩
  have hP : va_P g.1 CLS [((g.2.2 2001), .inr (3, [.int 0, .int h1, .int h2, .int h3, .ref (g.2.2 2004), .int h4, .int h5, .int h6, .int h7, .int h8, .int h9, .int h10, .int h11, .int h12])), (mc, .inr (1, [.int c0, .ref mca, .int (nI k1)])), (mca, .inl (g.2.1 5, nc, .inr (.inr (.inr (.inr fc))))), ((g.2.2 2000), .inr (5, [.ref mh, .ref mg, .ref (g.2.2 2002), .ref (g.2.2 2005), .ref mc, .ref (g.2.2 2006), .int 0, .int n1, .int n2, .int n3, .long n4, .int n5, .int n6, .int n7]))] H := hP
  have hD : va_D A [((g.2.2 2001), .inr (3, [.int 0, .int h1, .int h2, .int h3, .ref (g.2.2 2004), .int h4, .int h5, .int h6, .int h7, .int h8, .int h9, .int h10, .int h11, .int h12])), (mc, .inr (1, [.int c0, .ref mca, .int (nI k1)])), (mca, .inl (g.2.1 5, nc, .inr (.inr (.inr (.inr fc))))), ((g.2.2 2000), .inr (5, [.ref mh, .ref mg, .ref (g.2.2 2002), .ref (g.2.2 2005), .ref mc, .ref (g.2.2 2006), .int 0, .int n1, .int n2, .int n3, .long n4, .int n5, .int n6, .int n7]))] := hD
  refine W.widen (k := 0) (n := 0) (by (first | exact Nat.le_of_ble_eq_true rfl | omega | (simp only [LV, Jvm.D.headSpec]; omega))) (by (first | exact Nat.le_of_ble_eq_true rfl | omega | (simp only [LV, Jvm.D.headSpec]; omega))) ?_
  refine lv_if_eq (tgt := 12) hx hb dX11_endTurn_5 (by decide) (fun c_1 => absurd c_1 (by decide)) (fun c_1 => ?_)
  refine lv_iconst (v := 0) hx hb dX11_endTurn_8 (by decide) ?_
  refine lv_goto (tgt := 13) hx hb dX11_endTurn_9 (by decide) ?_
  refine va_put (D := g.1) (ci := 5) (v := .int 0) (ty := .int) (C := RX11) (T := TX11) (N := 14) hx hb htg inG_X11 tyX11 tyX11_ok nmX11 hown hK hP hD hS 3 rfl rfl 13 (by decide) (htg _ k1353) (fun _ h9 => h9) rfl (by decide +kernel) rfl rfl (by (first | exact Nat.le_of_ble_eq_true rfl | omega | (simp only [LV, Jvm.D.headSpec]; omega))) dX11_endTurn_13 (fun H locs hP hD hS => ?_)
  have hP : va_P g.1 CLS [((g.2.2 2001), .inr (3, [.int 0, .int h1, .int h2, .int h3, .ref (g.2.2 2004), .int h4, .int h5, .int h6, .int h7, .int h8, .int h9, .int h10, .int h11, .int h12])), (mc, .inr (1, [.int c0, .ref mca, .int (nI k1)])), (mca, .inl (g.2.1 5, nc, .inr (.inr (.inr (.inr fc))))), ((g.2.2 2000), .inr (5, [.ref mh, .ref mg, .ref (g.2.2 2002), .ref (g.2.2 2005), .ref mc, .ref (g.2.2 2006), .int 0, .int n1, .int n2, .int n3, .long n4, .int n5, .int n6, .int 0]))] H := hP
  have hD : va_D A [((g.2.2 2001), .inr (3, [.int 0, .int h1, .int h2, .int h3, .ref (g.2.2 2004), .int h4, .int h5, .int h6, .int h7, .int h8, .int h9, .int h10, .int h11, .int h12])), (mc, .inr (1, [.int c0, .ref mca, .int (nI k1)])), (mca, .inl (g.2.1 5, nc, .inr (.inr (.inr (.inr fc))))), ((g.2.2 2000), .inr (5, [.ref mh, .ref mg, .ref (g.2.2 2002), .ref (g.2.2 2005), .ref mc, .ref (g.2.2 2006), .int 0, .int n1, .int n2, .int n3, .long n4, .int n5, .int n6, .int 0]))] := hD
  refine lv_aload_n hx hb dX11_endTurn_16 rfl (lv_at hl 0 rfl) ?_
  refine va_get (D := g.1) (ci := 5) (v := .int 0) (C := RX11) (T := TX11) (N := 14) hx hb htg inG_X11 hown hK hP 3 rfl rfl 13 (by decide) (htg _ k1353) (fun _ h9 => h9) rfl dX11_endTurn_17 ?_
  refine lv_if_le (tgt := 25) hx hb dX11_endTurn_20 (by decide) (fun c_2 => ?_) (fun c_2 => absurd (by decide) c_2)
  refine lv_aload_n hx hb dX11_endTurn_25 rfl (lv_at hl 0 rfl) ?_
  refine lv_bipush (v := 101) hx hb dX11_endTurn_26 (by decide) ?_
  refine lv_iconst (v := 0) hx hb dX11_endTurn_28 (by decide) ?_
  refine va_newa (atype := .int) (ty := .int) (a0 := (0, .inl (fun _ => 0))) (N' := 0) hx hb (htg _ k156) rfl hK hP hD hS hA (fun _ => rfl) (by decide) (by decide) (by decide) (by (first | exact Nat.le_of_ble_eq_true rfl | omega | (simp only [LV, Jvm.D.headSpec]; omega))) (by (first | exact Nat.le_of_ble_eq_true rfl | omega | (simp only [LV, Jvm.D.headSpec]; omega))) dX11_endTurn_29 (fun q_3 cA H hK9 hP hD hS => ?_)
  obtain rfl := q_arr hK9 (t0 := 1) rfl (by decide)
  clear hK9
  have hP : va_P g.1 CLS [((g.2.2 2001), .inr (3, [.int 0, .int h1, .int h2, .int h3, .ref (g.2.2 2004), .int h4, .int h5, .int h6, .int h7, .int h8, .int h9, .int h10, .int h11, .int h12])), (mc, .inr (1, [.int c0, .ref mca, .int (nI k1)])), (mca, .inl (g.2.1 5, nc, .inr (.inr (.inr (.inr fc))))), ((g.2.2 2000), .inr (5, [.ref mh, .ref mg, .ref (g.2.2 2002), .ref (g.2.2 2005), .ref mc, .ref (g.2.2 2006), .int 0, .int n1, .int n2, .int n3, .long n4, .int n5, .int n6, .int 0])), (q_3, .inl (g.2.1 1, 0, .inl (fun _ => 0)))] H := hP
  have hD : va_D A [((g.2.2 2001), .inr (3, [.int 0, .int h1, .int h2, .int h3, .ref (g.2.2 2004), .int h4, .int h5, .int h6, .int h7, .int h8, .int h9, .int h10, .int h11, .int h12])), (mc, .inr (1, [.int c0, .ref mca, .int (nI k1)])), (mca, .inl (g.2.1 5, nc, .inr (.inr (.inr (.inr fc))))), ((g.2.2 2000), .inr (5, [.ref mh, .ref mg, .ref (g.2.2 2002), .ref (g.2.2 2005), .ref mc, .ref (g.2.2 2006), .int 0, .int n1, .int n2, .int n3, .long n4, .int n5, .int n6, .int 0])), (q_3, .inl (g.2.1 1, 0, .inl (fun _ => 0)))] := hD
  refine W.widen (k := 1) (n := 0) (by (first | exact Nat.le_of_ble_eq_true rfl | omega | (simp only [LV, Jvm.D.headSpec]; omega))) (by (first | exact Nat.le_of_ble_eq_true rfl | omega | (simp only [LV, Jvm.D.headSpec]; omega))) ?_
  have hPc := hP.sub (ws' := [((g.2.2 2000), .inr (5, [.ref mh, .ref mg, .ref (g.2.2 2002), .ref (g.2.2 2005), .ref mc, .ref (g.2.2 2006), .int 0, .int n1, .int n2, .int n3, .long n4, .int n5, .int n6, .int 0])), (mc, .inr (1, [.int c0, .ref mca, .int (nI k1)])), (mca, .inl (g.2.1 5, nc, .inr (.inr (.inr (.inr fc)))))]) [3, 1, 2] rfl
  have hDc := hD.sub (ws' := [((g.2.2 2000), .inr (5, [.ref mh, .ref mg, .ref (g.2.2 2002), .ref (g.2.2 2005), .ref mc, .ref (g.2.2 2006), .int 0, .int n1, .int n2, .int n3, .long n4, .int n5, .int n6, .int 0])), (mc, .inr (1, [.int c0, .ref mca, .int (nI k1)])), (mca, .inl (g.2.1 5, nc, .inr (.inr (.inr (.inr fc)))))]) [3, 1, 2] (by decide) rfl
  have hFc := va_free (wc := [((g.2.2 2000), .inr (5, [.ref mh, .ref mg, .ref (g.2.2 2002), .ref (g.2.2 2005), .ref mc, .ref (g.2.2 2006), .int 0, .int n1, .int n2, .int n3, .long n4, .int n5, .int n6, .int 0])), (mc, .inr (1, [.int c0, .ref mca, .int (nI k1)])), (mca, .inl (g.2.1 5, nc, .inr (.inr (.inr (.inr fc)))))]) hD hS hA [3, 1, 2] rfl
  refine q_cv (wr := [((g.2.2 2001), .inr (3, [.int 0, .int h1, .int h2, .int h3, .ref (g.2.2 2004), .int h4, .int h5, .int h6, .int h7, .int h8, .int h9, .int h10, .int h11, .int h12])), (q_3, .inl (g.2.1 1, 0, .inl (fun _ => 0)))]) (va_runV (As := [.int 101, .ref q_3]) (rest := []) ⟨hx, hb, hml, hown, htg⟩ (c_keep l hfl g mh mg mc n1 n2 n3 n4 n5 n6 0 mca k1 nc c0 fc q_3 (hkc) (hnc) H.size) ⟨(qB htg k1484 k57 k1481 ok_X11_keep rfl rfl ⟨by (first | exact Nat.le_of_ble_eq_true rfl | omega | (simp only [LV, Jvm.D.headSpec]; omega)), by (first | exact Nat.le_of_ble_eq_true rfl | omega | (simp only [LV, Jvm.D.headSpec]; omega))⟩), htg _ k1483, htg _ k19⟩ ⟨(q_pre [.ref (g.2.2 2000), .int 101, .ref q_3] hPc hDc hK hS hT hFc).1, va_recv hK hP (ci := 5) (q0 := 3) rfl rfl, (q_pre [.ref (g.2.2 2000), .int 101, .ref q_3] hPc hDc hK hS hT hFc).2⟩ rfl rfl hl.1 rfl (lv_room (by (first | exact Nat.le_of_ble_eq_true rfl | omega | (simp only [LV, Jvm.D.headSpec]; omega)))) dX11_endTurn_31 ⟨by (first | exact Nat.le_of_ble_eq_true rfl | omega | (simp only [LV, Jvm.D.headSpec]; omega)), by (first | exact Nat.le_of_ble_eq_true rfl | omega | (simp only [LV, Jvm.D.headSpec]; omega))⟩) hP hD hS hFc [3, 1, 2] [0, 4] rfl rfl (by decide) (by decide) (fun u9 H locs hw hP hD hS => ?_)
  try dsimp only at hw
  rcases hw with ⟨v_4, f_5, rfl⟩
  have hP : va_P g.1 CLS [((g.2.2 2001), .inr (3, [.int 0, .int h1, .int h2, .int h3, .ref (g.2.2 2004), .int h4, .int h5, .int h6, .int h7, .int h8, .int h9, .int h10, .int h11, .int h12])), (q_3, .inl (g.2.1 1, 0, .inl (fun _ => 0))), ((g.2.2 2000), .inr (5, [.ref mh, .ref mg, .ref (g.2.2 2002), .ref (g.2.2 2005), .ref mc, .ref (g.2.2 2006), .int 0, .int n1, .int n2, .int n3, .long n4, .int n5, .int n6, .int 0])), (mc, .inr (1, [.int v_4, .ref mca, .int (nI (k1 + 1))])), (mca, .inl (g.2.1 5, nc, .inr (.inr (.inr (.inr f_5)))))] H := hP
  have hD : va_D A [((g.2.2 2001), .inr (3, [.int 0, .int h1, .int h2, .int h3, .ref (g.2.2 2004), .int h4, .int h5, .int h6, .int h7, .int h8, .int h9, .int h10, .int h11, .int h12])), (q_3, .inl (g.2.1 1, 0, .inl (fun _ => 0))), ((g.2.2 2000), .inr (5, [.ref mh, .ref mg, .ref (g.2.2 2002), .ref (g.2.2 2005), .ref mc, .ref (g.2.2 2006), .int 0, .int n1, .int n2, .int n3, .long n4, .int n5, .int n6, .int 0])), (mc, .inr (1, [.int v_4, .ref mca, .int (nI (k1 + 1))])), (mca, .inl (g.2.1 5, nc, .inr (.inr (.inr (.inr f_5)))))] := hD
  refine W.widen (k := 2) (n := 2) (by (first | exact Nat.le_of_ble_eq_true rfl | omega | (simp only [LV, Jvm.D.headSpec]; omega))) (by (first | exact Nat.le_of_ble_eq_true rfl | omega | (simp only [LV, Jvm.D.headSpec]; omega))) ?_
  refine lv_aload_n hx hb dX11_endTurn_34 rfl (lv_at hl 0 rfl) ?_
  have hPc := hP.sub (ws' := [((g.2.2 2000), .inr (5, [.ref mh, .ref mg, .ref (g.2.2 2002), .ref (g.2.2 2005), .ref mc, .ref (g.2.2 2006), .int 0, .int n1, .int n2, .int n3, .long n4, .int n5, .int n6, .int 0])), ((g.2.2 2001), .inr (3, [.int 0, .int h1, .int h2, .int h3, .ref (g.2.2 2004), .int h4, .int h5, .int h6, .int h7, .int h8, .int h9, .int h10, .int h11, .int h12]))]) [2, 0] rfl
  have hDc := hD.sub (ws' := [((g.2.2 2000), .inr (5, [.ref mh, .ref mg, .ref (g.2.2 2002), .ref (g.2.2 2005), .ref mc, .ref (g.2.2 2006), .int 0, .int n1, .int n2, .int n3, .long n4, .int n5, .int n6, .int 0])), ((g.2.2 2001), .inr (3, [.int 0, .int h1, .int h2, .int h3, .ref (g.2.2 2004), .int h4, .int h5, .int h6, .int h7, .int h8, .int h9, .int h10, .int h11, .int h12]))]) [2, 0] (by decide) rfl
  have hFc := va_free (wc := [((g.2.2 2000), .inr (5, [.ref mh, .ref mg, .ref (g.2.2 2002), .ref (g.2.2 2005), .ref mc, .ref (g.2.2 2006), .int 0, .int n1, .int n2, .int n3, .long n4, .int n5, .int n6, .int 0])), ((g.2.2 2001), .inr (3, [.int 0, .int h1, .int h2, .int h3, .ref (g.2.2 2004), .int h4, .int h5, .int h6, .int h7, .int h8, .int h9, .int h10, .int h11, .int h12]))]) hD hS hA [2, 0] rfl
  refine q_cq (wr := [(q_3, .inl (g.2.1 1, 0, .inl (fun _ => 0))), (mc, .inr (1, [.int v_4, .ref mca, .int (nI (k1 + 1))])), (mca, .inl (g.2.1 5, nc, .inr (.inr (.inr (.inr f_5)))))]) (va_runV (As := []) (rest := []) ⟨hx, hb, hml, hown, htg⟩ (c_now l hfl g mh mg mc n1 n2 n3 n4 n5 n6 0 h1 h2 h3 h4 h5 h6 h7 h8 h9 h10 h11 h12  H.size) ⟨(qB htg k2105 k57 k2102 ok_X11_now rfl rfl ⟨by (first | exact Nat.le_of_ble_eq_true rfl | omega | (simp only [LV, Jvm.D.headSpec]; omega)), by (first | exact Nat.le_of_ble_eq_true rfl | omega | (simp only [LV, Jvm.D.headSpec]; omega))⟩), htg _ k2104, htg _ k34⟩ ⟨(q_pre [.ref (g.2.2 2000)] hPc hDc hK hS hT hFc).1, va_recv hK hP (ci := 5) (q0 := 2) rfl rfl, (q_pre [.ref (g.2.2 2000)] hPc hDc hK hS hT hFc).2⟩ rfl rfl hl.1 rfl (lv_room (by (first | exact Nat.le_of_ble_eq_true rfl | omega | (simp only [LV, Jvm.D.headSpec]; omega)))) dX11_endTurn_35 ⟨by (first | exact Nat.le_of_ble_eq_true rfl | omega | (simp only [LV, Jvm.D.headSpec]; omega)), by (first | exact Nat.le_of_ble_eq_true rfl | omega | (simp only [LV, Jvm.D.headSpec]; omega))⟩) hP hD hS hFc [2, 0] [1, 3, 4] rfl rfl (by decide) (by decide) (fun r9 u9 H locs hw hP hD hS => ?_)
  try dsimp only at hw
  rcases hw with ⟨rfl, rfl⟩
  have hP : va_P g.1 CLS [(q_3, .inl (g.2.1 1, 0, .inl (fun _ => 0))), (mc, .inr (1, [.int v_4, .ref mca, .int (nI (k1 + 1))])), (mca, .inl (g.2.1 5, nc, .inr (.inr (.inr (.inr f_5))))), ((g.2.2 2000), .inr (5, [.ref mh, .ref mg, .ref (g.2.2 2002), .ref (g.2.2 2005), .ref mc, .ref (g.2.2 2006), .int 0, .int n1, .int n2, .int n3, .long n4, .int n5, .int n6, .int 0])), ((g.2.2 2001), .inr (3, [.int 0, .int h1, .int h2, .int h3, .ref (g.2.2 2004), .int h4, .int h5, .int h6, .int h7, .int h8, .int h9, .int h10, .int h11, .int h12]))] H := hP
  have hD : va_D A [(q_3, .inl (g.2.1 1, 0, .inl (fun _ => 0))), (mc, .inr (1, [.int v_4, .ref mca, .int (nI (k1 + 1))])), (mca, .inl (g.2.1 5, nc, .inr (.inr (.inr (.inr f_5))))), ((g.2.2 2000), .inr (5, [.ref mh, .ref mg, .ref (g.2.2 2002), .ref (g.2.2 2005), .ref mc, .ref (g.2.2 2006), .int 0, .int n1, .int n2, .int n3, .long n4, .int n5, .int n6, .int 0])), ((g.2.2 2001), .inr (3, [.int 0, .int h1, .int h2, .int h3, .ref (g.2.2 2004), .int h4, .int h5, .int h6, .int h7, .int h8, .int h9, .int h10, .int h11, .int h12]))] := hD
  refine W.widen (k := 2) (n := 2) (by (first | exact Nat.le_of_ble_eq_true rfl | omega | (simp only [LV, Jvm.D.headSpec]; omega))) (by (first | exact Nat.le_of_ble_eq_true rfl | omega | (simp only [LV, Jvm.D.headSpec]; omega))) ?_
  refine lv_astore_n (lv' := [(1, .ref (g.2.2 2001)), (0, .ref (g.2.2 2000))]) hx hb dX11_endTurn_38 rfl hl (by decide) rfl (fun ls hl => ?_)
  refine lv_aload_n hx hb dX11_endTurn_39 rfl (lv_at hl 1 rfl) ?_
  refine va_get (D := g.1) (ci := 5) (v := .ref (g.2.2 2002)) (C := RX11) (T := TX11) (N := 14) hx hb htg inG_X11 hown hK hP 3 rfl rfl 2 (by decide) (htg _ k1342) (fun _ h9 => h9) rfl dX11_endTurn_40 ?_
  have hPc := hP.sub (ws' := []) [] rfl
  have hDc := hD.sub (ws' := []) [] (by decide) rfl
  have hFc := va_free (wc := []) hD hS hA [] rfl
  refine q_cFi (wr := [(q_3, .inl (g.2.1 1, 0, .inl (fun _ => 0))), (mc, .inr (1, [.int v_4, .ref mca, .int (nI (k1 + 1))])), (mca, .inl (g.2.1 5, nc, .inr (.inr (.inr (.inr f_5))))), ((g.2.2 2000), .inr (5, [.ref mh, .ref mg, .ref (g.2.2 2002), .ref (g.2.2 2005), .ref mc, .ref (g.2.2 2006), .int 0, .int n1, .int n2, .int n3, .long n4, .int n5, .int n6, .int 0])), ((g.2.2 2001), .inr (3, [.int 0, .int h1, .int h2, .int h3, .ref (g.2.2 2004), .int h4, .int h5, .int h6, .int h7, .int h8, .int h9, .int h10, .int h11, .int h12]))]) (va_runF (As := []) (rest := []) (hK.1 1 _ rfl).2 ⟨hx, hb, hml, hown, htg⟩ (c_sizeS l hfl g   H.size) (qI5 htg k1409 k60 k1401 k1405 k1407 (hT.1.2.2.2.2.2.2.2) okx_size rfl rfl ⟨by (first | exact Nat.le_of_ble_eq_true rfl | omega | (simp only [LV, Jvm.D.headSpec]; omega)), by (first | exact Nat.le_of_ble_eq_true rfl | omega | (simp only [LV, Jvm.D.headSpec]; omega))⟩) ⟨(q_pre [.ref (g.2.2 2002)] hPc hDc hK hS hT hFc).1, va_Orecv (hT.2.2.2.2.1.1) hS, (q_pre [.ref (g.2.2 2002)] hPc hDc hK hS hT hFc).2⟩ rfl rfl hl.1 rfl (lv_room (by (first | exact Nat.le_of_ble_eq_true rfl | omega | (simp only [LV, Jvm.D.headSpec]; omega)))) dX11_endTurn_43 ⟨by (first | exact Nat.le_of_ble_eq_true rfl | omega | (simp only [LV, Jvm.D.headSpec]; omega)), by (first | exact Nat.le_of_ble_eq_true rfl | omega | (simp only [LV, Jvm.D.headSpec]; omega))⟩) hP hD hS hFc [] [0, 1, 2, 3, 4] rfl rfl (by decide) (by decide) (fun r9 u9 H locs hw hP hD hS => ?_)
  try dsimp only at hw
  rcases hw with ⟨rfl, rfl⟩
  have hP : va_P g.1 CLS [(q_3, .inl (g.2.1 1, 0, .inl (fun _ => 0))), (mc, .inr (1, [.int v_4, .ref mca, .int (nI (k1 + 1))])), (mca, .inl (g.2.1 5, nc, .inr (.inr (.inr (.inr f_5))))), ((g.2.2 2000), .inr (5, [.ref mh, .ref mg, .ref (g.2.2 2002), .ref (g.2.2 2005), .ref mc, .ref (g.2.2 2006), .int 0, .int n1, .int n2, .int n3, .long n4, .int n5, .int n6, .int 0])), ((g.2.2 2001), .inr (3, [.int 0, .int h1, .int h2, .int h3, .ref (g.2.2 2004), .int h4, .int h5, .int h6, .int h7, .int h8, .int h9, .int h10, .int h11, .int h12]))] H := hP
  have hD : va_D A [(q_3, .inl (g.2.1 1, 0, .inl (fun _ => 0))), (mc, .inr (1, [.int v_4, .ref mca, .int (nI (k1 + 1))])), (mca, .inl (g.2.1 5, nc, .inr (.inr (.inr (.inr f_5))))), ((g.2.2 2000), .inr (5, [.ref mh, .ref mg, .ref (g.2.2 2002), .ref (g.2.2 2005), .ref mc, .ref (g.2.2 2006), .int 0, .int n1, .int n2, .int n3, .long n4, .int n5, .int n6, .int 0])), ((g.2.2 2001), .inr (3, [.int 0, .int h1, .int h2, .int h3, .ref (g.2.2 2004), .int h4, .int h5, .int h6, .int h7, .int h8, .int h9, .int h10, .int h11, .int h12]))] := hD
  refine W.widen (k := 2) (n := 2) (by (first | exact Nat.le_of_ble_eq_true rfl | omega | (simp only [LV, Jvm.D.headSpec]; omega))) (by (first | exact Nat.le_of_ble_eq_true rfl | omega | (simp only [LV, Jvm.D.headSpec]; omega))) ?_
  refine lv_istore_n (lv' := [(2, .int (nI (g.2.2 2010))), (1, .ref (g.2.2 2001)), (0, .ref (g.2.2 2000))]) hx hb dX11_endTurn_48 rfl hl (by decide) rfl (fun ls hl => ?_)
  refine lv_iconst (v := 0) hx hb dX11_endTurn_49 (by decide) ?_
  refine lv_istore_n (lv' := [(3, .int 0), (2, .int (nI (g.2.2 2010))), (1, .ref (g.2.2 2001)), (0, .ref (g.2.2 2000))]) hx hb dX11_endTurn_50 rfl hl (by decide) rfl (fun ls hl => ?_)
  have hz : s.heap.size + 2 * 0 ≤ H.size := hS.1
  refine q_loopc (g.2.2 2010) 2 7 (fun i9 H locs ls => s.heap.size + 2 * i9 ≤ H.size ∧ va_P g.1 CLS [(q_3, .inl (g.2.1 1, 0, .inl (fun _ => 0))), (mc, .inr (1, [.int v_4, .ref mca, .int (nI (k1 + 1))])), (mca, .inl (g.2.1 5, nc, .inr (.inr (.inr (.inr f_5))))), ((g.2.2 2000), .inr (5, [.ref mh, .ref mg, .ref (g.2.2 2002), .ref (g.2.2 2005), .ref mc, .ref (g.2.2 2006), .int 0, .int n1, .int n2, .int n3, .long n4, .int n5, .int n6, .int 0])), ((g.2.2 2001), .inr (3, [.int 0, .int h1, .int h2, .int h3, .ref (g.2.2 2004), .int h4, .int h5, .int h6, .int h7, .int h8, .int h9, .int h10, .int h11, .int h12]))] H ∧ va_D A [(q_3, .inl (g.2.1 1, 0, .inl (fun _ => 0))), (mc, .inr (1, [.int v_4, .ref mca, .int (nI (k1 + 1))])), (mca, .inl (g.2.1 5, nc, .inr (.inr (.inr (.inr f_5))))), ((g.2.2 2000), .inr (5, [.ref mh, .ref mg, .ref (g.2.2 2002), .ref (g.2.2 2005), .ref mc, .ref (g.2.2 2006), .int 0, .int n1, .int n2, .int n3, .long n4, .int n5, .int n6, .int 0])), ((g.2.2 2001), .inr (3, [.int 0, .int h1, .int h2, .int h3, .ref (g.2.2 2004), .int h4, .int h5, .int h6, .int h7, .int h8, .int h9, .int h10, .int h11, .int h12]))] ∧ va_S A s.heap H locs ∧ lv_has ls 5 [(3, .int (nI i9)), (2, .int (nI (g.2.2 2010))), (1, .ref (g.2.2 2001)), (0, .ref (g.2.2 2000))]) (fun i9 H locs ls hk hp ih => ?_) (fun H locs ls hp => ?_) ⟨hz, hP, hD, hS, hl⟩
  · obtain ⟨hz, hP, hD, hS, hl⟩ := hp
    refine lv_iload_n hx hb dX11_endTurn_51 rfl (lv_at hl 0 rfl) ?_
    refine lv_iload_n hx hb dX11_endTurn_52 rfl (lv_at hl 1 rfl) ?_
    refine lv_icmp_ge (tgt := 138) hx hb dX11_endTurn_53 (by decide) (fun c9 => absurd c9 (nI_ge hk (Nat.lt_trans hT.2.2.2.2.2.2.2.2.1 (by decide)))) (fun c9 => ?_)
    refine lv_aload_n hx hb dX11_endTurn_56 rfl (lv_at hl 3 rfl) ?_
    refine va_get (D := g.1) (ci := 5) (v := .ref (g.2.2 2002)) (C := RX11) (T := TX11) (N := 14) hx hb htg inG_X11 hown hK hP 3 rfl rfl 2 (by decide) (htg _ k1342) (fun _ h9 => h9) rfl dX11_endTurn_57 ?_
    refine lv_iload_n hx hb dX11_endTurn_60 rfl (lv_at hl 0 rfl) ?_
    have hPc := hP.sub (ws' := []) [] rfl
    have hDc := hD.sub (ws' := []) [] (by decide) rfl
    have hFc := va_free (wc := []) hD hS hA [] rfl
    have hS9 := hS
    have hSr : va_S A H H locs := ⟨Nat.le_refl _, fun _ _ _ => rfl, hS.2.2⟩
    refine q_cFq (wr := [(q_3, .inl (g.2.1 1, 0, .inl (fun _ => 0))), (mc, .inr (1, [.int v_4, .ref mca, .int (nI (k1 + 1))])), (mca, .inl (g.2.1 5, nc, .inr (.inr (.inr (.inr f_5))))), ((g.2.2 2000), .inr (5, [.ref mh, .ref mg, .ref (g.2.2 2002), .ref (g.2.2 2005), .ref mc, .ref (g.2.2 2006), .int 0, .int n1, .int n2, .int n3, .long n4, .int n5, .int n6, .int 0])), ((g.2.2 2001), .inr (3, [.int 0, .int h1, .int h2, .int h3, .ref (g.2.2 2004), .int h4, .int h5, .int h6, .int h7, .int h8, .int h9, .int h10, .int h11, .int h12]))]) (va_runF (As := [.int (nI i9)]) (rest := []) (hK.1 1 _ rfl).2 ⟨hx, hb, hml, hown, htg⟩ (c_get_k l hfl g i9 (hk) H.size) (qI5 htg k1652 k60 k1645 k1648 k1650 (hT.1.2.2.2.2.2.2.1) okx_get rfl rfl ⟨by (first | exact Nat.le_of_ble_eq_true rfl | omega | (simp only [LV, Jvm.D.headSpec]; omega)), by (first | exact Nat.le_of_ble_eq_true rfl | omega | (simp only [LV, Jvm.D.headSpec]; omega))⟩) ⟨(q_pre [.ref (g.2.2 2002), .int (nI i9)] hPc hDc hK hS hT hFc).1, va_Orecv (hT.2.2.2.2.1.1) hS, (q_pre [.ref (g.2.2 2002), .int (nI i9)] hPc hDc hK hS hT hFc).2⟩ rfl rfl hl.1 rfl (lv_room (by (first | exact Nat.le_of_ble_eq_true rfl | omega | (simp only [LV, Jvm.D.headSpec]; omega)))) dX11_endTurn_61 ⟨by (first | exact Nat.le_of_ble_eq_true rfl | omega | (simp only [LV, Jvm.D.headSpec]; omega)), by (first | exact Nat.le_of_ble_eq_true rfl | omega | (simp only [LV, Jvm.D.headSpec]; omega))⟩) hP hD hSr hFc [] [0, 1, 2, 3, 4] rfl rfl (by decide) (by decide) (fun r9 u9 H locs hw hP hD hS8 => ?_)
    have hz := Nat.le_trans hz hS8.1
    have hS := q_Str hS9 hS8
    try dsimp only at hw
    rcases hw with ⟨rfl, rfl⟩
    have hP : va_P g.1 CLS [(q_3, .inl (g.2.1 1, 0, .inl (fun _ => 0))), (mc, .inr (1, [.int v_4, .ref mca, .int (nI (k1 + 1))])), (mca, .inl (g.2.1 5, nc, .inr (.inr (.inr (.inr f_5))))), ((g.2.2 2000), .inr (5, [.ref mh, .ref mg, .ref (g.2.2 2002), .ref (g.2.2 2005), .ref mc, .ref (g.2.2 2006), .int 0, .int n1, .int n2, .int n3, .long n4, .int n5, .int n6, .int 0])), ((g.2.2 2001), .inr (3, [.int 0, .int h1, .int h2, .int h3, .ref (g.2.2 2004), .int h4, .int h5, .int h6, .int h7, .int h8, .int h9, .int h10, .int h11, .int h12]))] H := hP
    have hD : va_D A [(q_3, .inl (g.2.1 1, 0, .inl (fun _ => 0))), (mc, .inr (1, [.int v_4, .ref mca, .int (nI (k1 + 1))])), (mca, .inl (g.2.1 5, nc, .inr (.inr (.inr (.inr f_5))))), ((g.2.2 2000), .inr (5, [.ref mh, .ref mg, .ref (g.2.2 2002), .ref (g.2.2 2005), .ref mc, .ref (g.2.2 2006), .int 0, .int n1, .int n2, .int n3, .long n4, .int n5, .int n6, .int 0])), ((g.2.2 2001), .inr (3, [.int 0, .int h1, .int h2, .int h3, .ref (g.2.2 2004), .int h4, .int h5, .int h6, .int h7, .int h8, .int h9, .int h10, .int h11, .int h12]))] := hD
    refine W.widen (k := (2 + 2 * i9)) (n := (2 + 7 * i9)) (by (first | exact Nat.le_of_ble_eq_true rfl | omega | (simp only [LV, Jvm.D.headSpec]; omega))) (by (first | exact Nat.le_of_ble_eq_true rfl | omega | (simp only [LV, Jvm.D.headSpec]; omega))) ?_
    refine va_castE hx hb hown (htg _ k1673) (va_Orecv ((hT.2.2.2.2.2.2.1 i9 hk).2.1) hS) dX11_endTurn_66 ?_
    refine lv_astore (lv' := [(4, .ref (g.2.2 (3000 + i9))), (3, .int (nI i9)), (2, .int (nI (g.2.2 2010))), (1, .ref (g.2.2 2001)), (0, .ref (g.2.2 2000))]) hx hb dX11_endTurn_69 hl (by decide) rfl (fun ls hl => ?_)
    refine lv_aload hx hb dX11_endTurn_71 (lv_at hl 0 rfl) ?_
    refine q_getfN (v := .int 1) hx hb ((hT.2.2.2.2.2.2.1 i9 hk).2.2.1) hS hown (va_Nw.use rfl (hT.1.1 _ (List.mem_of_getElem? (i := 24) rfl))) (fun _ h9 => h9) dX11_endTurn_73 ?_
    refine lv_if_eq (tgt := 132) hx hb dX11_endTurn_76 (by decide) (fun c_6 => absurd c_6 (by decide)) (fun c_6 => ?_)
    refine lv_aload hx hb dX11_endTurn_79 (lv_at hl 0 rfl) ?_
    refine q_getfN (v := .int 0) hx hb ((hT.2.2.2.2.2.2.1 i9 hk).2.2.2.1) hS hown (va_Nw.use rfl (hT.1.1 _ (List.mem_of_getElem? (i := 17) rfl))) (fun _ h9 => h9) dX11_endTurn_81 ?_
    refine lv_aload_n hx hb dX11_endTurn_84 rfl (lv_at hl 3 rfl) ?_
    refine va_getN (D := g.1) (ci := 3) (v := .int 0) (C := RX9) (T := TX9) (N := 14) hx hb htg inG_X9 hown hK hP 4 rfl rfl 0 (by decide) (va_Nw.use rfl (hT.1.1 _ (List.mem_of_getElem? (i := 3) rfl))) (fun _ h9 => h9) rfl dX11_endTurn_85 ?_
    refine lv_icmp_ne (tgt := 132) hx hb dX11_endTurn_88 (by decide) (fun c_7 => absurd (by decide) c_7) (fun c_7 => ?_)
    refine lv_aload hx hb dX11_endTurn_91 (lv_at hl 0 rfl) ?_
    refine q_getfN (v := .int 99) hx hb ((hT.2.2.2.2.2.2.1 i9 hk).2.2.2.2.2.1) hS hown (va_Nw.use rfl (hT.1.1 _ (List.mem_of_getElem? (i := 19) rfl))) (fun _ h9 => h9) dX11_endTurn_93 ?_
    refine lv_bipush (v := 99) hx hb dX11_endTurn_96 (by decide) ?_
    refine lv_icmp_ne (tgt := 132) hx hb dX11_endTurn_98 (by decide) (fun c_8 => absurd (by decide) c_8) (fun c_8 => ?_)
    refine lv_aload hx hb dX11_endTurn_101 (lv_at hl 0 rfl) ?_
    refine q_getfN (v := .int 30) hx hb ((hT.2.2.2.2.2.2.1 i9 hk).2.2.2.2.2.2.1) hS hown (va_Nw.use rfl (hT.1.1 _ (List.mem_of_getElem? (i := 20) rfl))) (fun _ h9 => h9) dX11_endTurn_103 ?_
    refine lv_if_le (tgt := 132) hx hb dX11_endTurn_106 (by decide) (fun c_9 => absurd c_9 (by decide)) (fun c_9 => ?_)
    refine lv_aload hx hb dX11_endTurn_109 (lv_at hl 0 rfl) ?_
    refine lv_aload_n hx hb dX11_endTurn_111 rfl (lv_at hl 4 rfl) ?_
    refine lv_aload_n hx hb dX11_endTurn_112 rfl (lv_at hl 3 rfl) ?_
    have hPc := hP.sub (ws' := []) [] rfl
    have hDc := hD.sub (ws' := []) [] (by decide) rfl
    have hFc := va_free (wc := []) hD hS hA [] rfl
    have hz0 := hz
    refine q_ciZ (wr := [(q_3, .inl (g.2.1 1, 0, .inl (fun _ => 0))), (mc, .inr (1, [.int v_4, .ref mca, .int (nI (k1 + 1))])), (mca, .inl (g.2.1 5, nc, .inr (.inr (.inr (.inr f_5))))), ((g.2.2 2000), .inr (5, [.ref mh, .ref mg, .ref (g.2.2 2002), .ref (g.2.2 2005), .ref mc, .ref (g.2.2 2006), .int 0, .int n1, .int n2, .int n3, .long n4, .int n5, .int n6, .int 0])), ((g.2.2 2001), .inr (3, [.int 0, .int h1, .int h2, .int h3, .ref (g.2.2 2004), .int h4, .int h5, .int h6, .int h7, .int h8, .int h9, .int h10, .int h11, .int h12]))]) (va_runV (As := [.ref (g.2.2 2001)]) (rest := [.ref (g.2.2 (3000 + i9))]) ⟨hx, hb, hml, hown, htg⟩ (c_check l hfl g   H.size) ⟨(qB htg k2113 k57 k2110 ok_X11_check rfl rfl ⟨by (first | exact Nat.le_of_ble_eq_true rfl | omega | (simp only [LV, Jvm.D.headSpec]; omega)), by (first | exact Nat.le_of_ble_eq_true rfl | omega | (simp only [LV, Jvm.D.headSpec]; omega))⟩), htg _ k2112, htg _ k35⟩ ⟨(q_preab [.ref (g.2.2 2000), .ref (g.2.2 2001)] htg hP hK hS hT hA 3 4 rfl rfl rfl rfl rfl rfl).1, va_recv hK hP (ci := 5) (q0 := 3) rfl rfl, (q_preab [.ref (g.2.2 2000), .ref (g.2.2 2001)] htg hP hK hS hT hA 3 4 rfl rfl rfl rfl rfl rfl).2⟩ rfl rfl hl.1 rfl (lv_room (by (first | exact Nat.le_of_ble_eq_true rfl | omega | (simp only [LV, Jvm.D.headSpec]; omega)))) dX11_endTurn_113 ⟨by (first | exact Nat.le_of_ble_eq_true rfl | omega | (simp only [LV, Jvm.D.headSpec]; omega)), by (first | exact Nat.le_of_ble_eq_true rfl | omega | (simp only [LV, Jvm.D.headSpec]; omega))⟩) hP hD hS hFc [] [0, 1, 2, 3, 4] rfl rfl (by decide) (by decide) (fun r9 u9 H locs hZ hw hP hD hS => ?_)
    have hz := Nat.le_trans (Nat.add_le_add_right hz0 2) hZ
    try dsimp only at hw
    rcases hw with ⟨rfl, rfl⟩
    have hP : va_P g.1 CLS [(q_3, .inl (g.2.1 1, 0, .inl (fun _ => 0))), (mc, .inr (1, [.int v_4, .ref mca, .int (nI (k1 + 1))])), (mca, .inl (g.2.1 5, nc, .inr (.inr (.inr (.inr f_5))))), ((g.2.2 2000), .inr (5, [.ref mh, .ref mg, .ref (g.2.2 2002), .ref (g.2.2 2005), .ref mc, .ref (g.2.2 2006), .int 0, .int n1, .int n2, .int n3, .long n4, .int n5, .int n6, .int 0])), ((g.2.2 2001), .inr (3, [.int 0, .int h1, .int h2, .int h3, .ref (g.2.2 2004), .int h4, .int h5, .int h6, .int h7, .int h8, .int h9, .int h10, .int h11, .int h12]))] H := hP
    have hD : va_D A [(q_3, .inl (g.2.1 1, 0, .inl (fun _ => 0))), (mc, .inr (1, [.int v_4, .ref mca, .int (nI (k1 + 1))])), (mca, .inl (g.2.1 5, nc, .inr (.inr (.inr (.inr f_5))))), ((g.2.2 2000), .inr (5, [.ref mh, .ref mg, .ref (g.2.2 2002), .ref (g.2.2 2005), .ref mc, .ref (g.2.2 2006), .int 0, .int n1, .int n2, .int n3, .long n4, .int n5, .int n6, .int 0])), ((g.2.2 2001), .inr (3, [.int 0, .int h1, .int h2, .int h3, .ref (g.2.2 2004), .int h4, .int h5, .int h6, .int h7, .int h8, .int h9, .int h10, .int h11, .int h12]))] := hD
    refine W.widen (k := (4 + 2 * i9)) (n := (9 + 7 * i9)) (by (first | exact Nat.le_of_ble_eq_true rfl | omega | (simp only [LV, Jvm.D.headSpec]; omega))) (by (first | exact Nat.le_of_ble_eq_true rfl | omega | (simp only [LV, Jvm.D.headSpec]; omega))) ?_
    refine lv_aload hx hb dX11_endTurn_116 (lv_at hl 0 rfl) ?_
    refine q_getfN (v := .int 30) hx hb ((hT.2.2.2.2.2.2.1 i9 hk).2.2.2.2.2.2.1) hS hown (va_Nw.use rfl (hT.1.1 _ (List.mem_of_getElem? (i := 20) rfl))) (fun _ h9 => h9) dX11_endTurn_118 ?_
    refine lv_icmp_ge (tgt := 128) hx hb dX11_endTurn_121 (by decide) (fun c_10 => absurd c_10 (by decide)) (fun c_10 => ?_)
    refine lv_iconst (v := 1) hx hb dX11_endTurn_124 (by decide) ?_
    refine lv_goto (tgt := 129) hx hb dX11_endTurn_125 (by decide) ?_
    refine q_putSame (ci := 4) (v := .int 1) (ty := .boolean) (C := RX10) (T := TX10) (N := 10) hx hb htg inG_X10 hown hK hS ((hT.2.2.2.2.2.2.1 i9 hk).1.1) ((hT.2.2.2.2.2.2.1 i9 hk).1.2) rfl 7 (by decide) (va_Nw.use rfl (hT.1.1 _ (List.mem_of_getElem? (i := 24) rfl))) (fun _ h9 => h9) rfl (by decide +kernel) rfl rfl rfl dX11_endTurn_129 ?_
    refine lv_iinc (v := nI (i9 + 1)) (lv' := [(3, .int (nI (i9 + 1))), (4, .ref (g.2.2 (3000 + i9))), (2, .int (nI (g.2.2 2010))), (1, .ref (g.2.2 2001)), (0, .ref (g.2.2 2000))]) hx hb dX11_endTurn_132 hl (k := 1) rfl (nI_1 i9) (by decide) rfl (fun ls hl => ?_)
    refine lv_goto (tgt := 51) hx hb dX11_endTurn_135 (by decide) ?_
    refine W.widen (k := 2 + 2 * (i9 + 1)) (n := 2 + 7 * (i9 + 1)) (by omega) (by omega) ?_
    exact ih H locs ls ⟨by omega, hP, hD, hS, lv_sub hl [0, 2, 3, 4] rfl⟩
  · obtain ⟨hz, hP, hD, hS, hl⟩ := hp
    refine lv_iload_n hx hb dX11_endTurn_51 rfl (lv_at hl 0 rfl) ?_
    refine lv_iload_n hx hb dX11_endTurn_52 rfl (lv_at hl 1 rfl) ?_
    refine lv_icmp_ge (tgt := 138) hx hb dX11_endTurn_53 (by decide) (fun c9 => ?_) (fun c9 => absurd (Int32.le_refl _) c9)
    refine lv_aload_n hx hb dX11_endTurn_138 rfl (lv_at hl 3 rfl) ?_
    refine lv_dup hx hb dX11_endTurn_139 rfl ?_
    refine va_get (D := g.1) (ci := 5) (v := .int 0) (C := RX11) (T := TX11) (N := 14) hx hb htg inG_X11 hown hK hP 3 rfl rfl 6 (by decide) (htg _ k1346) (fun _ h9 => h9) rfl dX11_endTurn_140 ?_
    refine lv_iconst (v := 1) hx hb dX11_endTurn_143 (by decide) ?_
    refine lv_iadd hx hb dX11_endTurn_144 ?_
    refine lv_topi (fun x_11 ex_11 => ?_)
    obtain rfl : x_11 = 1 := ex_11.trans (by decide)
    have hS9 := hS
    have hSr : va_S A H H locs := ⟨Nat.le_refl _, fun _ _ _ => rfl, hS.2.2⟩
    refine va_put (D := g.1) (ci := 5) (v := .int 1) (ty := .int) (C := RX11) (T := TX11) (N := 14) hx hb htg inG_X11 tyX11 tyX11_ok nmX11 hown hK hP hD hSr 3 rfl rfl 6 (by decide) (htg _ k1346) (fun _ h9 => h9) rfl (by decide +kernel) rfl rfl (by (first | exact Nat.le_of_ble_eq_true rfl | omega | (simp only [LV, Jvm.D.headSpec]; omega))) dX11_endTurn_145 (fun H locs hP hD hS8 => ?_)
    have hz := Nat.le_trans hz hS8.1
    have hS := q_Str hS9 hS8
    have hP : va_P g.1 CLS [(q_3, .inl (g.2.1 1, 0, .inl (fun _ => 0))), (mc, .inr (1, [.int v_4, .ref mca, .int (nI (k1 + 1))])), (mca, .inl (g.2.1 5, nc, .inr (.inr (.inr (.inr f_5))))), ((g.2.2 2000), .inr (5, [.ref mh, .ref mg, .ref (g.2.2 2002), .ref (g.2.2 2005), .ref mc, .ref (g.2.2 2006), .int 1, .int n1, .int n2, .int n3, .long n4, .int n5, .int n6, .int 0])), ((g.2.2 2001), .inr (3, [.int 0, .int h1, .int h2, .int h3, .ref (g.2.2 2004), .int h4, .int h5, .int h6, .int h7, .int h8, .int h9, .int h10, .int h11, .int h12]))] H := hP
    have hD : va_D A [(q_3, .inl (g.2.1 1, 0, .inl (fun _ => 0))), (mc, .inr (1, [.int v_4, .ref mca, .int (nI (k1 + 1))])), (mca, .inl (g.2.1 5, nc, .inr (.inr (.inr (.inr f_5))))), ((g.2.2 2000), .inr (5, [.ref mh, .ref mg, .ref (g.2.2 2002), .ref (g.2.2 2005), .ref mc, .ref (g.2.2 2006), .int 1, .int n1, .int n2, .int n3, .long n4, .int n5, .int n6, .int 0])), ((g.2.2 2001), .inr (3, [.int 0, .int h1, .int h2, .int h3, .ref (g.2.2 2004), .int h4, .int h5, .int h6, .int h7, .int h8, .int h9, .int h10, .int h11, .int h12]))] := hD
    refine lv_aload_n hx hb dX11_endTurn_148 rfl (lv_at hl 3 rfl) ?_
    refine va_get (D := g.1) (ci := 5) (v := .int 1) (C := RX11) (T := TX11) (N := 14) hx hb htg inG_X11 hown hK hP 3 rfl rfl 6 (by decide) (htg _ k1346) (fun _ h9 => h9) rfl dX11_endTurn_149 ?_
    refine lv_aload_n hx hb dX11_endTurn_152 rfl (lv_at hl 3 rfl) ?_
    refine va_get (D := g.1) (ci := 5) (v := .ref (g.2.2 2006)) (C := RX11) (T := TX11) (N := 14) hx hb htg inG_X11 hown hK hP 3 rfl rfl 5 (by decide) (htg _ k1345) (fun _ h9 => h9) rfl dX11_endTurn_153 ?_
    have hPc := hP.sub (ws' := []) [] rfl
    have hDc := hD.sub (ws' := []) [] (by decide) rfl
    have hFc := va_free (wc := []) hD hS hA [] rfl
    have hS9 := hS
    have hSr : va_S A H H locs := ⟨Nat.le_refl _, fun _ _ _ => rfl, hS.2.2⟩
    refine q_cFi (wr := [(q_3, .inl (g.2.1 1, 0, .inl (fun _ => 0))), (mc, .inr (1, [.int v_4, .ref mca, .int (nI (k1 + 1))])), (mca, .inl (g.2.1 5, nc, .inr (.inr (.inr (.inr f_5))))), ((g.2.2 2000), .inr (5, [.ref mh, .ref mg, .ref (g.2.2 2002), .ref (g.2.2 2005), .ref mc, .ref (g.2.2 2006), .int 1, .int n1, .int n2, .int n3, .long n4, .int n5, .int n6, .int 0])), ((g.2.2 2001), .inr (3, [.int 0, .int h1, .int h2, .int h3, .ref (g.2.2 2004), .int h4, .int h5, .int h6, .int h7, .int h8, .int h9, .int h10, .int h11, .int h12]))]) (va_runF (As := []) (rest := [.int 1]) (hK.1 1 _ rfl).2 ⟨hx, hb, hml, hown, htg⟩ (c_sizeO l hfl g   H.size) (qI5 htg k1409 k60 k1401 k1405 k1407 (hT.1.2.2.2.2.2.2.2) okx_size rfl rfl ⟨by (first | exact Nat.le_of_ble_eq_true rfl | omega | (simp only [LV, Jvm.D.headSpec]; omega)), by (first | exact Nat.le_of_ble_eq_true rfl | omega | (simp only [LV, Jvm.D.headSpec]; omega))⟩) ⟨(q_pre [.ref (g.2.2 2006)] hPc hDc hK hS hT hFc).1, va_Orecv (hT.2.2.2.2.2.1.1) hS, (q_pre [.ref (g.2.2 2006)] hPc hDc hK hS hT hFc).2⟩ rfl rfl hl.1 rfl (lv_room (by (first | exact Nat.le_of_ble_eq_true rfl | omega | (simp only [LV, Jvm.D.headSpec]; omega)))) dX11_endTurn_156 ⟨by (first | exact Nat.le_of_ble_eq_true rfl | omega | (simp only [LV, Jvm.D.headSpec]; omega)), by (first | exact Nat.le_of_ble_eq_true rfl | omega | (simp only [LV, Jvm.D.headSpec]; omega))⟩) hP hD hSr hFc [] [0, 1, 2, 3, 4] rfl rfl (by decide) (by decide) (fun r9 u9 H locs hw hP hD hS8 => ?_)
    have hz := Nat.le_trans hz hS8.1
    have hS := q_Str hS9 hS8
    try dsimp only at hw
    rcases hw with ⟨rfl, rfl⟩
    have hP : va_P g.1 CLS [(q_3, .inl (g.2.1 1, 0, .inl (fun _ => 0))), (mc, .inr (1, [.int v_4, .ref mca, .int (nI (k1 + 1))])), (mca, .inl (g.2.1 5, nc, .inr (.inr (.inr (.inr f_5))))), ((g.2.2 2000), .inr (5, [.ref mh, .ref mg, .ref (g.2.2 2002), .ref (g.2.2 2005), .ref mc, .ref (g.2.2 2006), .int 1, .int n1, .int n2, .int n3, .long n4, .int n5, .int n6, .int 0])), ((g.2.2 2001), .inr (3, [.int 0, .int h1, .int h2, .int h3, .ref (g.2.2 2004), .int h4, .int h5, .int h6, .int h7, .int h8, .int h9, .int h10, .int h11, .int h12]))] H := hP
    have hD : va_D A [(q_3, .inl (g.2.1 1, 0, .inl (fun _ => 0))), (mc, .inr (1, [.int v_4, .ref mca, .int (nI (k1 + 1))])), (mca, .inl (g.2.1 5, nc, .inr (.inr (.inr (.inr f_5))))), ((g.2.2 2000), .inr (5, [.ref mh, .ref mg, .ref (g.2.2 2002), .ref (g.2.2 2005), .ref mc, .ref (g.2.2 2006), .int 1, .int n1, .int n2, .int n3, .long n4, .int n5, .int n6, .int 0])), ((g.2.2 2001), .inr (3, [.int 0, .int h1, .int h2, .int h3, .ref (g.2.2 2004), .int h4, .int h5, .int h6, .int h7, .int h8, .int h9, .int h10, .int h11, .int h12]))] := hD
    refine W.widen (k := (2 + 2 * g.2.2 2010)) (n := (2 + 7 * g.2.2 2010)) (by (first | exact Nat.le_of_ble_eq_true rfl | omega | (simp only [LV, Jvm.D.headSpec]; omega))) (by (first | exact Nat.le_of_ble_eq_true rfl | omega | (simp only [LV, Jvm.D.headSpec]; omega))) ?_
    refine lv_icmp_ne (tgt := 179) hx hb dX11_endTurn_161 (by decide) (fun c_12 => absurd (by decide) c_12) (fun c_12 => ?_)
    refine lv_aload_n hx hb dX11_endTurn_164 rfl (lv_at hl 3 rfl) ?_
    refine lv_iconst (v := 0) hx hb dX11_endTurn_165 (by decide) ?_
    have hS9 := hS
    have hSr : va_S A H H locs := ⟨Nat.le_refl _, fun _ _ _ => rfl, hS.2.2⟩
    refine va_put (D := g.1) (ci := 5) (v := .int 0) (ty := .int) (C := RX11) (T := TX11) (N := 14) hx hb htg inG_X11 tyX11 tyX11_ok nmX11 hown hK hP hD hSr 3 rfl rfl 6 (by decide) (htg _ k1346) (fun _ h9 => h9) rfl (by decide +kernel) rfl rfl (by (first | exact Nat.le_of_ble_eq_true rfl | omega | (simp only [LV, Jvm.D.headSpec]; omega))) dX11_endTurn_166 (fun H locs hP hD hS8 => ?_)
    have hz := Nat.le_trans hz hS8.1
    have hS := q_Str hS9 hS8
    have hP : va_P g.1 CLS [(q_3, .inl (g.2.1 1, 0, .inl (fun _ => 0))), (mc, .inr (1, [.int v_4, .ref mca, .int (nI (k1 + 1))])), (mca, .inl (g.2.1 5, nc, .inr (.inr (.inr (.inr f_5))))), ((g.2.2 2000), .inr (5, [.ref mh, .ref mg, .ref (g.2.2 2002), .ref (g.2.2 2005), .ref mc, .ref (g.2.2 2006), .int 0, .int n1, .int n2, .int n3, .long n4, .int n5, .int n6, .int 0])), ((g.2.2 2001), .inr (3, [.int 0, .int h1, .int h2, .int h3, .ref (g.2.2 2004), .int h4, .int h5, .int h6, .int h7, .int h8, .int h9, .int h10, .int h11, .int h12]))] H := hP
    have hD : va_D A [(q_3, .inl (g.2.1 1, 0, .inl (fun _ => 0))), (mc, .inr (1, [.int v_4, .ref mca, .int (nI (k1 + 1))])), (mca, .inl (g.2.1 5, nc, .inr (.inr (.inr (.inr f_5))))), ((g.2.2 2000), .inr (5, [.ref mh, .ref mg, .ref (g.2.2 2002), .ref (g.2.2 2005), .ref mc, .ref (g.2.2 2006), .int 0, .int n1, .int n2, .int n3, .long n4, .int n5, .int n6, .int 0])), ((g.2.2 2001), .inr (3, [.int 0, .int h1, .int h2, .int h3, .ref (g.2.2 2004), .int h4, .int h5, .int h6, .int h7, .int h8, .int h9, .int h10, .int h11, .int h12]))] := hD
    refine lv_aload_n hx hb dX11_endTurn_169 rfl (lv_at hl 3 rfl) ?_
    refine lv_dup hx hb dX11_endTurn_170 rfl ?_
    refine va_get (D := g.1) (ci := 5) (v := .int n1) (C := RX11) (T := TX11) (N := 14) hx hb htg inG_X11 hown hK hP 3 rfl rfl 7 (by decide) (htg _ k1347) (fun _ h9 => h9) rfl dX11_endTurn_171 ?_
    refine lv_iconst (v := 1) hx hb dX11_endTurn_174 (by decide) ?_
    refine lv_iadd hx hb dX11_endTurn_175 ?_
    refine lv_topi (fun x_13 ex_13 => ?_)
    have hS9 := hS
    have hSr : va_S A H H locs := ⟨Nat.le_refl _, fun _ _ _ => rfl, hS.2.2⟩
    refine va_put (D := g.1) (ci := 5) (v := .int x_13) (ty := .int) (C := RX11) (T := TX11) (N := 14) hx hb htg inG_X11 tyX11 tyX11_ok nmX11 hown hK hP hD hSr 3 rfl rfl 7 (by decide) (htg _ k1347) (fun _ h9 => h9) rfl (by decide +kernel) rfl rfl (by (first | exact Nat.le_of_ble_eq_true rfl | omega | (simp only [LV, Jvm.D.headSpec]; omega))) dX11_endTurn_176 (fun H locs hP hD hS8 => ?_)
    have hz := Nat.le_trans hz hS8.1
    have hS := q_Str hS9 hS8
    have hP : va_P g.1 CLS [(q_3, .inl (g.2.1 1, 0, .inl (fun _ => 0))), (mc, .inr (1, [.int v_4, .ref mca, .int (nI (k1 + 1))])), (mca, .inl (g.2.1 5, nc, .inr (.inr (.inr (.inr f_5))))), ((g.2.2 2000), .inr (5, [.ref mh, .ref mg, .ref (g.2.2 2002), .ref (g.2.2 2005), .ref mc, .ref (g.2.2 2006), .int 0, .int x_13, .int n2, .int n3, .long n4, .int n5, .int n6, .int 0])), ((g.2.2 2001), .inr (3, [.int 0, .int h1, .int h2, .int h3, .ref (g.2.2 2004), .int h4, .int h5, .int h6, .int h7, .int h8, .int h9, .int h10, .int h11, .int h12]))] H := hP
    have hD : va_D A [(q_3, .inl (g.2.1 1, 0, .inl (fun _ => 0))), (mc, .inr (1, [.int v_4, .ref mca, .int (nI (k1 + 1))])), (mca, .inl (g.2.1 5, nc, .inr (.inr (.inr (.inr f_5))))), ((g.2.2 2000), .inr (5, [.ref mh, .ref mg, .ref (g.2.2 2002), .ref (g.2.2 2005), .ref mc, .ref (g.2.2 2006), .int 0, .int x_13, .int n2, .int n3, .long n4, .int n5, .int n6, .int 0])), ((g.2.2 2001), .inr (3, [.int 0, .int h1, .int h2, .int h3, .ref (g.2.2 2004), .int h4, .int h5, .int h6, .int h7, .int h8, .int h9, .int h10, .int h11, .int h12]))] := hD
    refine lv_aload_n hx hb dX11_endTurn_179 rfl (lv_at hl 3 rfl) ?_
    have hPc := hP.sub (ws' := [((g.2.2 2000), .inr (5, [.ref mh, .ref mg, .ref (g.2.2 2002), .ref (g.2.2 2005), .ref mc, .ref (g.2.2 2006), .int 0, .int x_13, .int n2, .int n3, .long n4, .int n5, .int n6, .int 0])), ((g.2.2 2001), .inr (3, [.int 0, .int h1, .int h2, .int h3, .ref (g.2.2 2004), .int h4, .int h5, .int h6, .int h7, .int h8, .int h9, .int h10, .int h11, .int h12]))]) [3, 4] rfl
    have hDc := hD.sub (ws' := [((g.2.2 2000), .inr (5, [.ref mh, .ref mg, .ref (g.2.2 2002), .ref (g.2.2 2005), .ref mc, .ref (g.2.2 2006), .int 0, .int x_13, .int n2, .int n3, .long n4, .int n5, .int n6, .int 0])), ((g.2.2 2001), .inr (3, [.int 0, .int h1, .int h2, .int h3, .ref (g.2.2 2004), .int h4, .int h5, .int h6, .int h7, .int h8, .int h9, .int h10, .int h11, .int h12]))]) [3, 4] (by decide) rfl
    have hFc := va_free (wc := [((g.2.2 2000), .inr (5, [.ref mh, .ref mg, .ref (g.2.2 2002), .ref (g.2.2 2005), .ref mc, .ref (g.2.2 2006), .int 0, .int x_13, .int n2, .int n3, .long n4, .int n5, .int n6, .int 0])), ((g.2.2 2001), .inr (3, [.int 0, .int h1, .int h2, .int h3, .ref (g.2.2 2004), .int h4, .int h5, .int h6, .int h7, .int h8, .int h9, .int h10, .int h11, .int h12]))]) hD hS hA [3, 4] rfl
    have hz0 := hz
    refine q_ciZ (wr := [(q_3, .inl (g.2.1 1, 0, .inl (fun _ => 0))), (mc, .inr (1, [.int v_4, .ref mca, .int (nI (k1 + 1))])), (mca, .inl (g.2.1 5, nc, .inr (.inr (.inr (.inr f_5)))))]) (va_runV (As := []) (rest := []) ⟨hx, hb, hml, hown, htg⟩ (c_beginTurn l hfl g mh mg mc x_13 n2 n3 n4 n5 n6 0 h1 h2 h3 h4 h5 h6 h7 h8 h9 h10 h11 h12  H.size) ⟨(qB htg k2101 k57 k2098 ok_X11_beginTurn rfl rfl ⟨by (first | exact Nat.le_of_ble_eq_true rfl | omega | (simp only [LV, Jvm.D.headSpec]; omega)), by (first | exact Nat.le_of_ble_eq_true rfl | omega | (simp only [LV, Jvm.D.headSpec]; omega))⟩), htg _ k2100, htg _ k33⟩ ⟨(q_pre [.ref (g.2.2 2000)] hPc hDc hK hS hT hFc).1, va_recv hK hP (ci := 5) (q0 := 3) rfl rfl, (q_pre [.ref (g.2.2 2000)] hPc hDc hK hS hT hFc).2⟩ rfl rfl hl.1 rfl (lv_room (by (first | exact Nat.le_of_ble_eq_true rfl | omega | (simp only [LV, Jvm.D.headSpec]; omega)))) dX11_endTurn_180 ⟨by (first | exact Nat.le_of_ble_eq_true rfl | omega | (simp only [LV, Jvm.D.headSpec]; omega)), by (first | exact Nat.le_of_ble_eq_true rfl | omega | (simp only [LV, Jvm.D.headSpec]; omega))⟩) hP hD hS hFc [3, 4] [0, 1, 2] rfl rfl (by decide) (by decide) (fun r9 u9 H locs hZ hw hP hD hS => ?_)
    have hz := Nat.le_trans (Nat.add_le_add_right hz0 3) hZ
    try dsimp only at hw
    rcases hw with ⟨rfl, rfl⟩
    have hP : va_P g.1 CLS [(q_3, .inl (g.2.1 1, 0, .inl (fun _ => 0))), (mc, .inr (1, [.int v_4, .ref mca, .int (nI (k1 + 1))])), (mca, .inl (g.2.1 5, nc, .inr (.inr (.inr (.inr f_5))))), ((g.2.2 2000), .inr (5, [.ref mh, .ref mg, .ref (g.2.2 2002), .ref (g.2.2 2005), .ref mc, .ref (g.2.2 2006), .int 0, .int x_13, .int 4, .int 1, .long n4, .int n5, .int n6, .int 0])), ((g.2.2 2001), .inr (3, [.int 0, .int h1, .int h2, .int h3, .ref (g.2.2 2004), .int h4, .int h5, .int h6, .int h7, .int h8, .int h9, .int 1, .int 32, .int h12]))] H := hP
    have hD : va_D A [(q_3, .inl (g.2.1 1, 0, .inl (fun _ => 0))), (mc, .inr (1, [.int v_4, .ref mca, .int (nI (k1 + 1))])), (mca, .inl (g.2.1 5, nc, .inr (.inr (.inr (.inr f_5))))), ((g.2.2 2000), .inr (5, [.ref mh, .ref mg, .ref (g.2.2 2002), .ref (g.2.2 2005), .ref mc, .ref (g.2.2 2006), .int 0, .int x_13, .int 4, .int 1, .long n4, .int n5, .int n6, .int 0])), ((g.2.2 2001), .inr (3, [.int 0, .int h1, .int h2, .int h3, .ref (g.2.2 2004), .int h4, .int h5, .int h6, .int h7, .int h8, .int h9, .int 1, .int 32, .int h12]))] := hD
    refine W.widen (k := (5 + 2 * g.2.2 2010)) (n := (13 + 7 * g.2.2 2010)) (by (first | exact Nat.le_of_ble_eq_true rfl | omega | (simp only [LV, Jvm.D.headSpec]; omega))) (by (first | exact Nat.le_of_ble_eq_true rfl | omega | (simp only [LV, Jvm.D.headSpec]; omega))) ?_
    have hz : s.heap.size + (2 * (g.2.2 2010) + 3) ≤ H.size := by omega
    have hP9 := hP.sub (ws' := [((g.2.2 2000), .inr (5, [.ref mh, .ref mg, .ref (g.2.2 2002), .ref (g.2.2 2005), .ref mc, .ref (g.2.2 2006), .int 0, .int x_13, .int 4, .int 1, .long n4, .int n5, .int n6, .int 0])), ((g.2.2 2001), .inr (3, [.int 0, .int h1, .int h2, .int h3, .ref (g.2.2 2004), .int h4, .int h5, .int h6, .int h7, .int h8, .int h9, .int 1, .int 32, .int h12])), (mc, .inr (1, [.int v_4, .ref mca, .int (nI (k1 + 1))])), (mca, .inl (g.2.1 5, nc, .inr (.inr (.inr (.inr f_5)))))]) [3, 4, 1, 2] rfl
    have hD9 := hD.sub (ws' := [((g.2.2 2000), .inr (5, [.ref mh, .ref mg, .ref (g.2.2 2002), .ref (g.2.2 2005), .ref mc, .ref (g.2.2 2006), .int 0, .int x_13, .int 4, .int 1, .long n4, .int n5, .int n6, .int 0])), ((g.2.2 2001), .inr (3, [.int 0, .int h1, .int h2, .int h3, .ref (g.2.2 2004), .int h4, .int h5, .int h6, .int h7, .int h8, .int h9, .int 1, .int 32, .int h12])), (mc, .inr (1, [.int v_4, .ref mca, .int (nI (k1 + 1))])), (mca, .inl (g.2.1 5, nc, .inr (.inr (.inr (.inr f_5)))))]) [3, 4, 1, 2] (by decide) rfl
    refine W.widen (k := (5 + 2 * g.2.2 2010)) (n := (13 + 7 * g.2.2 2010)) (by (first | exact Nat.le_of_ble_eq_true rfl | omega | (simp only [LV, Jvm.D.headSpec]; omega))) (by (first | exact Nat.le_of_ble_eq_true rfl | omega | (simp only [LV, Jvm.D.headSpec]; omega))) ?_
    exact W.iret (v := 0) hx hb hr (fun t ht hW => ⟨⟨0, [((g.2.2 2000), .inr (5, [.ref mh, .ref mg, .ref (g.2.2 2002), .ref (g.2.2 2005), .ref mc, .ref (g.2.2 2006), .int 0, .int x_13, .int 4, .int 1, .long n4, .int n5, .int n6, .int 0])), ((g.2.2 2001), .inr (3, [.int 0, .int h1, .int h2, .int h3, .ref (g.2.2 2004), .int h4, .int h5, .int h6, .int h7, .int h8, .int h9, .int 1, .int 32, .int h12])), (mc, .inr (1, [.int v_4, .ref mca, .int (nI (k1 + 1))])), (mca, .inl (g.2.1 5, nc, .inr (.inr (.inr (.inr f_5)))))], rfl, ⟨x_13, v_4, f_5, rfl, rfl⟩, ⟨by rw [ht]; exact hP9, va_K.moved hW.alike hK, hD9⟩, by rw [ht, hH0]; exact hz⟩, hS.F ht⟩) hS.2.2 dX11_endTurn_183
