def inR (v lo hi : Int64) : Prop := lo.toInt ≤ v.toInt ∧ v.toInt ≤ hi.toInt
theorem ll0 : (0 : Int64).toInt = 0 := rfl
theorem ll1 : (1 : Int64).toInt = 1 := rfl
theorem ll7 : (7 : Int64).toInt = 7 := rfl
theorem ll9 : (9 : Int64).toInt = 9 := rfl
theorem ll20 : (20 : Int64).toInt = 20 := rfl
theorem ll30 : (30 : Int64).toInt = 30 := rfl
theorem ll40 : (40 : Int64).toInt = 40 := rfl
theorem ll50 : (50 : Int64).toInt = 50 := rfl
theorem ll99 : (99 : Int64).toInt = 99 := rfl
theorem lln1 : (-1 : Int64).toInt = -1 := rfl
theorem lln20 : (-20 : Int64).toInt = -20 := rfl
theorem inNo {v : Int64} : ¬ inR v 0 (-1) := by
  rintro ⟨h1, h2⟩
  rw [ll0] at h1
  rw [lln1] at h2
  omega
theorem lcGe {x : Int32} {a b : Int64} (e : x = lg_cmp a b) (h : ¬ x < 0) : b.toInt ≤ a.toInt := by
  rw [e, lg_cmp_lt, Int64.lt_iff_toInt_lt] at h
  omega
theorem lcLt {x : Int32} {a b : Int64} (e : x = lg_cmp a b) (h : x < 0) : ¬ b.toInt ≤ a.toInt := by
  rw [e, lg_cmp_lt, Int64.lt_iff_toInt_lt] at h
  omega
theorem lcLe {x : Int32} {a b : Int64} (e : x = lg_cmp a b) (h : ¬ 0 < x) : a.toInt ≤ b.toInt := by
  rw [e, lg_cmp_gt, Int64.lt_iff_toInt_lt] at h
  omega
theorem lcGt {x : Int32} {a b : Int64} (e : x = lg_cmp a b) (h : 0 < x) : ¬ a.toInt ≤ b.toInt := by
  rw [e, lg_cmp_gt, Int64.lt_iff_toInt_lt] at h
  omega
theorem k1354 : (Jvm.Cond.laysFinal "HeroTableModel" "HeroTableModel" "heroes" "Ljava/util/List;") ∈ G9 := g9 1354 (by decide +kernel) rfl
theorem k1356 : (Jvm.Cond.laysFinal "HeroTableModel" "HeroTableModel" "ground" "[C") ∈ G9 := g9 1356 (by decide +kernel) rfl
theorem k1358 : (Jvm.Cond.laysFinal "HeroTableModel" "HeroTableModel" "sources" "Ljava/util/List;") ∈ G9 := g9 1358 (by decide +kernel) rfl
theorem k1360 : (Jvm.Cond.laysFinal "HeroTableModel" "HeroTableModel" "dice" "Ljava/util/ArrayDeque;") ∈ G9 := g9 1360 (by decide +kernel) rfl
theorem k1362 : (Jvm.Cond.laysFinal "HeroTableModel" "HeroTableModel" "calls" "Ljava/util/List;") ∈ G9 := g9 1362 (by decide +kernel) rfl
theorem k1364 : (Jvm.Cond.laysFinal "HeroTableModel" "HeroTableModel" "order" "Ljava/util/List;") ∈ G9 := g9 1364 (by decide +kernel) rfl
theorem k1366 : (Jvm.Cond.lays "HeroTableModel" "HeroTableModel" "at" "I") ∈ G9 := g9 1366 (by decide +kernel) rfl
theorem k1368 : (Jvm.Cond.lays "HeroTableModel" "HeroTableModel" "round" "I") ∈ G9 := g9 1368 (by decide +kernel) rfl
theorem k1370 : (Jvm.Cond.lays "HeroTableModel" "HeroTableModel" "steps" "I") ∈ G9 := g9 1370 (by decide +kernel) rfl
theorem k1372 : (Jvm.Cond.lays "HeroTableModel" "HeroTableModel" "hasAction" "Z") ∈ G9 := g9 1372 (by decide +kernel) rfl
theorem k1374 : (Jvm.Cond.lays "HeroTableModel" "HeroTableModel" "harmDone" "J") ∈ G9 := g9 1374 (by decide +kernel) rfl
theorem k1376 : (Jvm.Cond.lays "HeroTableModel" "HeroTableModel" "attacks" "I") ∈ G9 := g9 1376 (by decide +kernel) rfl
theorem k1378 : (Jvm.Cond.lays "HeroTableModel" "HeroTableModel" "hits" "I") ∈ G9 := g9 1378 (by decide +kernel) rfl
theorem k1380 : (Jvm.Cond.lays "HeroTableModel" "HeroTableModel" "thrown" "I") ∈ G9 := g9 1380 (by decide +kernel) rfl
theorem inG_X11 : ∀ w ∈ u_ws RX11 TX11 14, w ∈ G9 := by
  intro w h
  have h : w ∈ [u_lay RX11 TX11 0, u_lay RX11 TX11 1, u_lay RX11 TX11 2, u_lay RX11 TX11 3, u_lay RX11 TX11 4, u_lay RX11 TX11 5, u_lay RX11 TX11 6, u_lay RX11 TX11 7, u_lay RX11 TX11 8, u_lay RX11 TX11 9, u_lay RX11 TX11 10, u_lay RX11 TX11 11, u_lay RX11 TX11 12, u_lay RX11 TX11 13] := h
  simp only [List.mem_cons, List.not_mem_nil, or_false] at h
  rcases h with rfl | rfl | rfl | rfl | rfl | rfl | rfl | rfl | rfl | rfl | rfl | rfl | rfl | rfl
  · exact k1354
  · exact k1356
  · exact k1358
  · exact k1360
  · exact k1362
  · exact k1364
  · exact k1366
  · exact k1368
  · exact k1370
  · exact k1372
  · exact k1374
  · exact k1376
  · exact k1378
  · exact k1380
theorem k1353 : (Jvm.Cond.fieldLink "HeroTableModel" (40 : Nat) "HeroTableModel" "thrown" "I") ∈ G9 := g9 1353 (by decide +kernel) rfl
theorem k1346 : (Jvm.Cond.fieldLink "HeroTableModel" (36 : Nat) "HeroTableModel" "at" "I") ∈ G9 := g9 1346 (by decide +kernel) rfl
theorem k1399 : (Jvm.Cond.constantLong "HeroTableModel" (53 : Nat) (7 : Int64)) ∈ G9 := g9 1399 (by decide +kernel) rfl
theorem k1393 : (Jvm.Cond.code ({ cls := "HeroTableModel", name := "in", desc := "(JJJ)Z" } : Jvm.MethodName) prog_10_method_3_code (6 : Nat) (Option.some Jvm.ClassFile.FieldType.boolean)) ∈ G9 := g9 1393 (by decide +kernel) rfl
theorem k57 : (Jvm.Cond.initialized "HeroTableModel") ∈ G9 := g9 57 (by decide +kernel) rfl
theorem k1391 : (Jvm.Cond.methodLink "HeroTableModel" (49 : Nat) ({ cls := "HeroTableModel", name := "in", desc := "(JJJ)Z" } : Jvm.MethodName)) ∈ G9 := g9 1391 (by decide +kernel) rfl
theorem ok_X11_in : okN yX11_in 3 := by decide +kernel
theorem k1392 : (Jvm.Cond.static ({ cls := "HeroTableModel", name := "in", desc := "(JJJ)Z" } : Jvm.MethodName)) ∈ G9 := g9 1392 (by decide +kernel) rfl
theorem k1340 : (Jvm.Cond.fieldLink "HeroTableModel" (10 : Nat) "HeroTableModel" "heroes" "Ljava/util/List;") ∈ G9 := g9 1340 (by decide +kernel) rfl
theorem k1409 : (Jvm.Cond.code ({ cls := "java/util/ArrayList", name := "size", desc := "()I" } : Jvm.MethodName) prog_45_method_8_code (1 : Nat) (Option.some Jvm.ClassFile.FieldType.int)) ∈ G9 := g9 1409 (by decide +kernel) rfl
theorem k1401 : (Jvm.Cond.methodLink "HeroTableModel" (43 : Nat) ({ cls := "java/util/List", name := "size", desc := "()I" } : Jvm.MethodName)) ∈ G9 := g9 1401 (by decide +kernel) rfl
theorem k1405 : (Jvm.Cond.selects "java/util/ArrayList" ({ cls := "java/util/List", name := "size", desc := "()I" } : Jvm.MethodName) ({ cls := "java/util/ArrayList", name := "size", desc := "()I" } : Jvm.MethodName)) ∈ G9 := g9 1405 (by decide +kernel) rfl
theorem k1407 : (Jvm.Cond.instanceMethod ({ cls := "java/util/ArrayList", name := "size", desc := "()I" } : Jvm.MethodName)) ∈ G9 := g9 1407 (by decide +kernel) rfl
theorem okx_size : okN yI_size 0 := by decide +kernel
theorem k1426 : (Jvm.Cond.code ({ cls := "java/util/ArrayList", name := "iterator", desc := "()Ljava/util/Iterator;" } : Jvm.MethodName) prog_45_method_55_code (1 : Nat) (Option.some (Jvm.ClassFile.FieldType.object "java/util/Iterator"))) ∈ G9 := g9 1426 (by decide +kernel) rfl
theorem k1419 : (Jvm.Cond.methodLink "HeroTableModel" (70 : Nat) ({ cls := "java/util/List", name := "iterator", desc := "()Ljava/util/Iterator;" } : Jvm.MethodName)) ∈ G9 := g9 1419 (by decide +kernel) rfl
theorem k1422 : (Jvm.Cond.selects "java/util/ArrayList" ({ cls := "java/util/List", name := "iterator", desc := "()Ljava/util/Iterator;" } : Jvm.MethodName) ({ cls := "java/util/ArrayList", name := "iterator", desc := "()Ljava/util/Iterator;" } : Jvm.MethodName)) ∈ G9 := g9 1422 (by decide +kernel) rfl
theorem k1424 : (Jvm.Cond.instanceMethod ({ cls := "java/util/ArrayList", name := "iterator", desc := "()Ljava/util/Iterator;" } : Jvm.MethodName)) ∈ G9 := g9 1424 (by decide +kernel) rfl
theorem okx_iterator : okN yI_iterator 0 := by decide +kernel
theorem k1455 : (Jvm.Cond.code ({ cls := "java/util/ArrayList$Itr", name := "hasNext", desc := "()Z" } : Jvm.MethodName) prog_46_method_2_code (1 : Nat) (Option.some Jvm.ClassFile.FieldType.boolean)) ∈ G9 := g9 1455 (by decide +kernel) rfl
theorem k1447 : (Jvm.Cond.methodLink "HeroTableModel" (74 : Nat) ({ cls := "java/util/Iterator", name := "hasNext", desc := "()Z" } : Jvm.MethodName)) ∈ G9 := g9 1447 (by decide +kernel) rfl
theorem k1451 : (Jvm.Cond.selects "java/util/ArrayList$Itr" ({ cls := "java/util/Iterator", name := "hasNext", desc := "()Z" } : Jvm.MethodName) ({ cls := "java/util/ArrayList$Itr", name := "hasNext", desc := "()Z" } : Jvm.MethodName)) ∈ G9 := g9 1451 (by decide +kernel) rfl
theorem k1453 : (Jvm.Cond.instanceMethod ({ cls := "java/util/ArrayList$Itr", name := "hasNext", desc := "()Z" } : Jvm.MethodName)) ∈ G9 := g9 1453 (by decide +kernel) rfl
theorem okx_hasNext : okN yI_hasNext 0 := by decide +kernel
theorem k1490 : (Jvm.Cond.methodLink "HeroTableModel$Call" (1 : Nat) ({ cls := "java/lang/Object", name := "<init>", desc := "()V" } : Jvm.MethodName)) ∈ G9 := g9 1490 (by decide +kernel) rfl
theorem k1495 : (Jvm.Cond.laysFinal "HeroTableModel$Call" "HeroTableModel$Call" "what" "C") ∈ G9 := g9 1495 (by decide +kernel) rfl
theorem k1497 : (Jvm.Cond.laysFinal "HeroTableModel$Call" "HeroTableModel$Call" "numbers" "[I") ∈ G9 := g9 1497 (by decide +kernel) rfl
theorem inG_X8 : ∀ w ∈ u_ws RX8 TX8 2, w ∈ G9 := by
  intro w h
  have h : w ∈ [u_lay RX8 TX8 0, u_lay RX8 TX8 1] := h
  simp only [List.mem_cons, List.not_mem_nil, or_false] at h
  rcases h with rfl | rfl
  · exact k1495
  · exact k1497
theorem k1491 : (Jvm.Cond.fieldLink "HeroTableModel$Call" (7 : Nat) "HeroTableModel$Call" "what" "C") ∈ G9 := g9 1491 (by decide +kernel) rfl
theorem k1493 : (Jvm.Cond.fieldLink "HeroTableModel$Call" (13 : Nat) "HeroTableModel$Call" "numbers" "[I") ∈ G9 := g9 1493 (by decide +kernel) rfl
theorem k1344 : (Jvm.Cond.fieldLink "HeroTableModel" (30 : Nat) "HeroTableModel" "calls" "Ljava/util/List;") ∈ G9 := g9 1344 (by decide +kernel) rfl
theorem k1485 : (Jvm.Cond.classLink "HeroTableModel" (61 : Nat) "HeroTableModel$Call") ∈ G9 := g9 1485 (by decide +kernel) rfl
theorem k1486 : (Jvm.Cond.instantiable "HeroTableModel$Call" (2 : Nat)) ∈ G9 := g9 1486 (by decide +kernel) rfl
theorem k74 : (Jvm.Cond.initialized "HeroTableModel$Call") ∈ G9 := g9 74 (by decide +kernel) rfl
theorem k1489 : (Jvm.Cond.code ({ cls := "HeroTableModel$Call", name := "<init>", desc := "(C[I)V" } : Jvm.MethodName) prog_11_method_1_code (3 : Nat) (Option.none : Option Jvm.ClassFile.FieldType)) ∈ G9 := g9 1489 (by decide +kernel) rfl
theorem k1487 : (Jvm.Cond.methodLink "HeroTableModel" (63 : Nat) ({ cls := "HeroTableModel$Call", name := "<init>", desc := "(C[I)V" } : Jvm.MethodName)) ∈ G9 := g9 1487 (by decide +kernel) rfl
theorem ok_X8_init : okN yX8_init 2 := by decide +kernel
theorem k1488 : (Jvm.Cond.instanceMethod ({ cls := "HeroTableModel$Call", name := "<init>", desc := "(C[I)V" } : Jvm.MethodName)) ∈ G9 := g9 1488 (by decide +kernel) rfl
theorem k1508 : (Jvm.Cond.code ({ cls := "java/util/ArrayList", name := "add", desc := "(Ljava/lang/Object;)Z" } : Jvm.MethodName) prog_45_method_25_code (2 : Nat) (Option.some Jvm.ClassFile.FieldType.boolean)) ∈ G9 := g9 1508 (by decide +kernel) rfl
theorem k1501 : (Jvm.Cond.methodLink "HeroTableModel" (66 : Nat) ({ cls := "java/util/List", name := "add", desc := "(Ljava/lang/Object;)Z" } : Jvm.MethodName)) ∈ G9 := g9 1501 (by decide +kernel) rfl
theorem k1504 : (Jvm.Cond.selects "java/util/ArrayList" ({ cls := "java/util/List", name := "add", desc := "(Ljava/lang/Object;)Z" } : Jvm.MethodName) ({ cls := "java/util/ArrayList", name := "add", desc := "(Ljava/lang/Object;)Z" } : Jvm.MethodName)) ∈ G9 := g9 1504 (by decide +kernel) rfl
theorem k1506 : (Jvm.Cond.instanceMethod ({ cls := "java/util/ArrayList", name := "add", desc := "(Ljava/lang/Object;)Z" } : Jvm.MethodName)) ∈ G9 := g9 1506 (by decide +kernel) rfl
theorem okx_add : okN yI_add 1 := by decide +kernel
theorem k1572 : (Jvm.Cond.methodLink "HeroTableModel$Hero" (3 : Nat) ({ cls := "java/lang/Object", name := "<init>", desc := "()V" } : Jvm.MethodName)) ∈ G9 := g9 1572 (by decide +kernel) rfl
theorem k1598 : (Jvm.Cond.laysFinal "HeroTableModel$Hero" "HeroTableModel$Hero" "number" "I") ∈ G9 := g9 1598 (by decide +kernel) rfl
theorem k1600 : (Jvm.Cond.laysFinal "HeroTableModel$Hero" "HeroTableModel$Hero" "side" "I") ∈ G9 := g9 1600 (by decide +kernel) rfl
theorem k1602 : (Jvm.Cond.laysFinal "HeroTableModel$Hero" "HeroTableModel$Hero" "most" "I") ∈ G9 := g9 1602 (by decide +kernel) rfl
theorem k1604 : (Jvm.Cond.laysFinal "HeroTableModel$Hero" "HeroTableModel$Hero" "initiative" "I") ∈ G9 := g9 1604 (by decide +kernel) rfl
theorem k1606 : (Jvm.Cond.laysFinal "HeroTableModel$Hero" "HeroTableModel$Hero" "bases" "[I") ∈ G9 := g9 1606 (by decide +kernel) rfl
theorem k1608 : (Jvm.Cond.lays "HeroTableModel$Hero" "HeroTableModel$Hero" "life" "I") ∈ G9 := g9 1608 (by decide +kernel) rfl
theorem k1610 : (Jvm.Cond.lays "HeroTableModel$Hero" "HeroTableModel$Hero" "spare" "I") ∈ G9 := g9 1610 (by decide +kernel) rfl
theorem k1612 : (Jvm.Cond.lays "HeroTableModel$Hero" "HeroTableModel$Hero" "x" "I") ∈ G9 := g9 1612 (by decide +kernel) rfl
theorem k1614 : (Jvm.Cond.lays "HeroTableModel$Hero" "HeroTableModel$Hero" "y" "I") ∈ G9 := g9 1614 (by decide +kernel) rfl
theorem k1616 : (Jvm.Cond.lays "HeroTableModel$Hero" "HeroTableModel$Hero" "immune" "I") ∈ G9 := g9 1616 (by decide +kernel) rfl
theorem k1618 : (Jvm.Cond.lays "HeroTableModel$Hero" "HeroTableModel$Hero" "slots" "I") ∈ G9 := g9 1618 (by decide +kernel) rfl
theorem k1620 : (Jvm.Cond.lays "HeroTableModel$Hero" "HeroTableModel$Hero" "hasReaction" "Z") ∈ G9 := g9 1620 (by decide +kernel) rfl
theorem k1622 : (Jvm.Cond.lays "HeroTableModel$Hero" "HeroTableModel$Hero" "trigger" "C") ∈ G9 := g9 1622 (by decide +kernel) rfl
theorem k1624 : (Jvm.Cond.lays "HeroTableModel$Hero" "HeroTableModel$Hero" "reaction" "C") ∈ G9 := g9 1624 (by decide +kernel) rfl
theorem inG_X9 : ∀ w ∈ u_ws RX9 TX9 14, w ∈ G9 := by
  intro w h
  have h : w ∈ [u_lay RX9 TX9 0, u_lay RX9 TX9 1, u_lay RX9 TX9 2, u_lay RX9 TX9 3, u_lay RX9 TX9 4, u_lay RX9 TX9 5, u_lay RX9 TX9 6, u_lay RX9 TX9 7, u_lay RX9 TX9 8, u_lay RX9 TX9 9, u_lay RX9 TX9 10, u_lay RX9 TX9 11, u_lay RX9 TX9 12, u_lay RX9 TX9 13] := h
  simp only [List.mem_cons, List.not_mem_nil, or_false] at h
  rcases h with rfl | rfl | rfl | rfl | rfl | rfl | rfl | rfl | rfl | rfl | rfl | rfl | rfl | rfl
  · exact k1598
  · exact k1600
  · exact k1602
  · exact k1604
  · exact k1606
  · exact k1608
  · exact k1610
  · exact k1612
  · exact k1614
  · exact k1616
  · exact k1618
  · exact k1620
  · exact k1622
  · exact k1624
theorem k1581 : (Jvm.Cond.fieldLink "HeroTableModel$Hero" (9 : Nat) "HeroTableModel$Hero" "bases" "[I") ∈ G9 := g9 1581 (by decide +kernel) rfl
theorem k1591 : (Jvm.Cond.fieldLink "HeroTableModel$Hero" (15 : Nat) "HeroTableModel$Hero" "slots" "I") ∈ G9 := g9 1591 (by decide +kernel) rfl
theorem k1594 : (Jvm.Cond.fieldLink "HeroTableModel$Hero" (19 : Nat) "HeroTableModel$Hero" "trigger" "C") ∈ G9 := g9 1594 (by decide +kernel) rfl
theorem k1596 : (Jvm.Cond.fieldLink "HeroTableModel$Hero" (23 : Nat) "HeroTableModel$Hero" "reaction" "C") ∈ G9 := g9 1596 (by decide +kernel) rfl
theorem k1573 : (Jvm.Cond.fieldLink "HeroTableModel$Hero" (26 : Nat) "HeroTableModel$Hero" "number" "I") ∈ G9 := g9 1573 (by decide +kernel) rfl
theorem k1575 : (Jvm.Cond.fieldLink "HeroTableModel$Hero" (29 : Nat) "HeroTableModel$Hero" "side" "I") ∈ G9 := g9 1575 (by decide +kernel) rfl
theorem k1577 : (Jvm.Cond.fieldLink "HeroTableModel$Hero" (32 : Nat) "HeroTableModel$Hero" "most" "I") ∈ G9 := g9 1577 (by decide +kernel) rfl
theorem k1583 : (Jvm.Cond.fieldLink "HeroTableModel$Hero" (35 : Nat) "HeroTableModel$Hero" "life" "I") ∈ G9 := g9 1583 (by decide +kernel) rfl
theorem k1579 : (Jvm.Cond.fieldLink "HeroTableModel$Hero" (38 : Nat) "HeroTableModel$Hero" "initiative" "I") ∈ G9 := g9 1579 (by decide +kernel) rfl
theorem k1586 : (Jvm.Cond.fieldLink "HeroTableModel$Hero" (41 : Nat) "HeroTableModel$Hero" "x" "I") ∈ G9 := g9 1586 (by decide +kernel) rfl
theorem k1588 : (Jvm.Cond.fieldLink "HeroTableModel$Hero" (44 : Nat) "HeroTableModel$Hero" "y" "I") ∈ G9 := g9 1588 (by decide +kernel) rfl
theorem k1394 : (Jvm.Cond.constantLong "HeroTableModel" (90 : Nat) (99 : Int64)) ∈ G9 := g9 1394 (by decide +kernel) rfl
theorem k1395 : (Jvm.Cond.constantLong "HeroTableModel" (92 : Nat) (30 : Int64)) ∈ G9 := g9 1395 (by decide +kernel) rfl
theorem k1398 : (Jvm.Cond.code ({ cls := "HeroTableModel", name := "isCell", desc := "(II)Z" } : Jvm.MethodName) prog_10_method_5_code (2 : Nat) (Option.some Jvm.ClassFile.FieldType.boolean)) ∈ G9 := g9 1398 (by decide +kernel) rfl
theorem k1396 : (Jvm.Cond.methodLink "HeroTableModel" (94 : Nat) ({ cls := "HeroTableModel", name := "isCell", desc := "(II)Z" } : Jvm.MethodName)) ∈ G9 := g9 1396 (by decide +kernel) rfl
theorem ok_X11_isCell : okN yX11_isCell 2 := by decide +kernel
theorem k1397 : (Jvm.Cond.static ({ cls := "HeroTableModel", name := "isCell", desc := "(II)Z" } : Jvm.MethodName)) ∈ G9 := g9 1397 (by decide +kernel) rfl
theorem k1413 : (Jvm.Cond.code ({ cls := "HeroTableModel", name := "isOn", desc := "()Z" } : Jvm.MethodName) prog_10_method_6_code (1 : Nat) (Option.some Jvm.ClassFile.FieldType.boolean)) ∈ G9 := g9 1413 (by decide +kernel) rfl
theorem k1410 : (Jvm.Cond.methodLink "HeroTableModel" (98 : Nat) ({ cls := "HeroTableModel", name := "isOn", desc := "()Z" } : Jvm.MethodName)) ∈ G9 := g9 1410 (by decide +kernel) rfl
theorem ok_X11_isOn : okN yX11_isOn 0 := by decide +kernel
theorem k1412 : (Jvm.Cond.instanceMethod ({ cls := "HeroTableModel", name := "isOn", desc := "()Z" } : Jvm.MethodName)) ∈ G9 := g9 1412 (by decide +kernel) rfl
theorem k17 : (Jvm.Cond.selects "HeroTableModel" ({ cls := "HeroTableModel", name := "isOn", desc := "()Z" } : Jvm.MethodName) ({ cls := "HeroTableModel", name := "isOn", desc := "()Z" } : Jvm.MethodName)) ∈ G9 := g9 17 (by decide +kernel) rfl
theorem k1341 : (Jvm.Cond.fieldLink "HeroTableModel" (16 : Nat) "HeroTableModel" "ground" "[C") ∈ G9 := g9 1341 (by decide +kernel) rfl
theorem k1417 : (Jvm.Cond.code ({ cls := "HeroTableModel", name := "heroIn", desc := "(II)LHeroTableModel$Hero;" } : Jvm.MethodName) prog_10_method_9_code (5 : Nat) (Option.some (Jvm.ClassFile.FieldType.object "HeroTableModel$Hero"))) ∈ G9 := g9 1417 (by decide +kernel) rfl
theorem k1414 : (Jvm.Cond.methodLink "HeroTableModel" (101 : Nat) ({ cls := "HeroTableModel", name := "heroIn", desc := "(II)LHeroTableModel$Hero;" } : Jvm.MethodName)) ∈ G9 := g9 1414 (by decide +kernel) rfl
theorem ok_X11_heroIn : okN yX11_heroIn 2 := by decide +kernel
theorem k1416 : (Jvm.Cond.instanceMethod ({ cls := "HeroTableModel", name := "heroIn", desc := "(II)LHeroTableModel$Hero;" } : Jvm.MethodName)) ∈ G9 := g9 1416 (by decide +kernel) rfl
theorem k18 : (Jvm.Cond.selects "HeroTableModel" ({ cls := "HeroTableModel", name := "heroIn", desc := "(II)LHeroTableModel$Hero;" } : Jvm.MethodName) ({ cls := "HeroTableModel", name := "heroIn", desc := "(II)LHeroTableModel$Hero;" } : Jvm.MethodName)) ∈ G9 := g9 18 (by decide +kernel) rfl
theorem k1484 : (Jvm.Cond.code ({ cls := "HeroTableModel", name := "keep", desc := "(C[I)V" } : Jvm.MethodName) prog_10_method_8_code (3 : Nat) (Option.none : Option Jvm.ClassFile.FieldType)) ∈ G9 := g9 1484 (by decide +kernel) rfl
theorem k1481 : (Jvm.Cond.methodLink "HeroTableModel" (105 : Nat) ({ cls := "HeroTableModel", name := "keep", desc := "(C[I)V" } : Jvm.MethodName)) ∈ G9 := g9 1481 (by decide +kernel) rfl
theorem ok_X11_keep : okN yX11_keep 2 := by decide +kernel
theorem k1483 : (Jvm.Cond.instanceMethod ({ cls := "HeroTableModel", name := "keep", desc := "(C[I)V" } : Jvm.MethodName)) ∈ G9 := g9 1483 (by decide +kernel) rfl
theorem k19 : (Jvm.Cond.selects "HeroTableModel" ({ cls := "HeroTableModel", name := "keep", desc := "(C[I)V" } : Jvm.MethodName) ({ cls := "HeroTableModel", name := "keep", desc := "(C[I)V" } : Jvm.MethodName)) ∈ G9 := g9 19 (by decide +kernel) rfl
theorem k1480 : (Jvm.Cond.classLink "HeroTableModel" (59 : Nat) "HeroTableModel$Hero") ∈ G9 := g9 1480 (by decide +kernel) rfl
theorem k1568 : (Jvm.Cond.instantiable "HeroTableModel$Hero" (14 : Nat)) ∈ G9 := g9 1568 (by decide +kernel) rfl
theorem k76 : (Jvm.Cond.initialized "HeroTableModel$Hero") ∈ G9 := g9 76 (by decide +kernel) rfl
theorem k1571 : (Jvm.Cond.code ({ cls := "HeroTableModel$Hero", name := "<init>", desc := "(IIIIII)V" } : Jvm.MethodName) prog_12_method_1_code (7 : Nat) (Option.none : Option Jvm.ClassFile.FieldType)) ∈ G9 := g9 1571 (by decide +kernel) rfl
theorem k1569 : (Jvm.Cond.methodLink "HeroTableModel" (108 : Nat) ({ cls := "HeroTableModel$Hero", name := "<init>", desc := "(IIIIII)V" } : Jvm.MethodName)) ∈ G9 := g9 1569 (by decide +kernel) rfl
theorem ok_X9_init : okN yX9_init 6 := by decide +kernel
theorem k1570 : (Jvm.Cond.instanceMethod ({ cls := "HeroTableModel$Hero", name := "<init>", desc := "(IIIIII)V" } : Jvm.MethodName)) ∈ G9 := g9 1570 (by decide +kernel) rfl
theorem k1632 : (Jvm.Cond.methodLink "HeroTableModel" (113 : Nat) ({ cls := "java/lang/String", name := "indexOf", desc := "(I)I" } : Jvm.MethodName)) ∈ G9 := g9 1632 (by decide +kernel) rfl
theorem k1640 : (Jvm.Cond.code ({ cls := "HeroTableModel", name := "isHero", desc := "(I)Z" } : Jvm.MethodName) prog_10_method_4_code (2 : Nat) (Option.some Jvm.ClassFile.FieldType.boolean)) ∈ G9 := g9 1640 (by decide +kernel) rfl
theorem k1637 : (Jvm.Cond.methodLink "HeroTableModel" (119 : Nat) ({ cls := "HeroTableModel", name := "isHero", desc := "(I)Z" } : Jvm.MethodName)) ∈ G9 := g9 1637 (by decide +kernel) rfl
theorem ok_X11_isHero : okN yX11_isHero 1 := by decide +kernel
theorem k1639 : (Jvm.Cond.instanceMethod ({ cls := "HeroTableModel", name := "isHero", desc := "(I)Z" } : Jvm.MethodName)) ∈ G9 := g9 1639 (by decide +kernel) rfl
theorem k23 : (Jvm.Cond.selects "HeroTableModel" ({ cls := "HeroTableModel", name := "isHero", desc := "(I)Z" } : Jvm.MethodName) ({ cls := "HeroTableModel", name := "isHero", desc := "(I)Z" } : Jvm.MethodName)) ∈ G9 := g9 23 (by decide +kernel) rfl
theorem k1787 : (Jvm.Cond.code ({ cls := "HeroTableModel", name := "numberOf", desc := "(IC)I" } : Jvm.MethodName) prog_10_method_30_code (3 : Nat) (Option.some Jvm.ClassFile.FieldType.int)) ∈ G9 := g9 1787 (by decide +kernel) rfl
theorem k1797 : (Jvm.Cond.methodLink "HeroTableModel" (220 : Nat) ({ cls := "HeroTableModel", name := "numberOf", desc := "(IC)I" } : Jvm.MethodName)) ∈ G9 := g9 1797 (by decide +kernel) rfl
theorem ok_X11_numberOf : okN yX11_numberOf 2 := by decide +kernel
theorem k1785 : (Jvm.Cond.instanceMethod ({ cls := "HeroTableModel", name := "numberOf", desc := "(IC)I" } : Jvm.MethodName)) ∈ G9 := g9 1785 (by decide +kernel) rfl
theorem k1786 : (Jvm.Cond.selects "HeroTableModel" ({ cls := "HeroTableModel", name := "numberOf", desc := "(IC)I" } : Jvm.MethodName) ({ cls := "HeroTableModel", name := "numberOf", desc := "(IC)I" } : Jvm.MethodName)) ∈ G9 := g9 1786 (by decide +kernel) rfl
theorem k1718 : (Jvm.Cond.constantLong "HeroTableModel" (192 : Nat) (9 : Int64)) ∈ G9 := g9 1718 (by decide +kernel) rfl
theorem k1642 : (Jvm.Cond.constantLong "HeroTableModel" (125 : Nat) (-20 : Int64)) ∈ G9 := g9 1642 (by decide +kernel) rfl
theorem k1643 : (Jvm.Cond.constantLong "HeroTableModel" (127 : Nat) (40 : Int64)) ∈ G9 := g9 1643 (by decide +kernel) rfl
theorem k1342 : (Jvm.Cond.fieldLink "HeroTableModel" (20 : Nat) "HeroTableModel" "sources" "Ljava/util/List;") ∈ G9 := g9 1342 (by decide +kernel) rfl
theorem k1343 : (Jvm.Cond.fieldLink "HeroTableModel" (26 : Nat) "HeroTableModel" "dice" "Ljava/util/ArrayDeque;") ∈ G9 := g9 1343 (by decide +kernel) rfl
theorem k1856 : (Jvm.Cond.code ({ cls := "java/util/ArrayDeque", name := "size", desc := "()I" } : Jvm.MethodName) prog_44_method_37_code (1 : Nat) (Option.some Jvm.ClassFile.FieldType.int)) ∈ G9 := g9 1856 (by decide +kernel) rfl
theorem k1853 : (Jvm.Cond.methodLink "HeroTableModel" (252 : Nat) ({ cls := "java/util/ArrayDeque", name := "size", desc := "()I" } : Jvm.MethodName)) ∈ G9 := g9 1853 (by decide +kernel) rfl
theorem ok_X12_size : okN yX12_size 0 := by decide +kernel
theorem k1854 : (Jvm.Cond.instanceMethod ({ cls := "java/util/ArrayDeque", name := "size", desc := "()I" } : Jvm.MethodName)) ∈ G9 := g9 1854 (by decide +kernel) rfl
theorem k1855 : (Jvm.Cond.selects "java/util/ArrayDeque" ({ cls := "java/util/ArrayDeque", name := "size", desc := "()I" } : Jvm.MethodName) ({ cls := "java/util/ArrayDeque", name := "size", desc := "()I" } : Jvm.MethodName)) ∈ G9 := g9 1855 (by decide +kernel) rfl
theorem k1347 : (Jvm.Cond.fieldLink "HeroTableModel" (288 : Nat) "HeroTableModel" "round" "I") ∈ G9 := g9 1347 (by decide +kernel) rfl
theorem k1350 : (Jvm.Cond.fieldLink "HeroTableModel" (331 : Nat) "HeroTableModel" "harmDone" "J") ∈ G9 := g9 1350 (by decide +kernel) rfl
theorem k1810 : (Jvm.Cond.constantLong "HeroTableModel" (242 : Nat) (20 : Int64)) ∈ G9 := g9 1810 (by decide +kernel) rfl
theorem k1813 : (Jvm.Cond.code ({ cls := "java/lang/Integer", name := "valueOf", desc := "(I)Ljava/lang/Integer;" } : Jvm.MethodName) prog_27_method_22_code (1 : Nat) (Option.some (Jvm.ClassFile.FieldType.object "java/lang/Integer"))) ∈ G9 := g9 1813 (by decide +kernel) rfl
theorem k87 : (Jvm.Cond.initialized "java/lang/Integer") ∈ G9 := g9 87 (by decide +kernel) rfl
theorem k1811 : (Jvm.Cond.methodLink "HeroTableModel" (244 : Nat) ({ cls := "java/lang/Integer", name := "valueOf", desc := "(I)Ljava/lang/Integer;" } : Jvm.MethodName)) ∈ G9 := g9 1811 (by decide +kernel) rfl
theorem ok_J6_valueOf_2dffe : okN yJ6_valueOf_2dffe 1 := by decide +kernel
theorem k1812 : (Jvm.Cond.static ({ cls := "java/lang/Integer", name := "valueOf", desc := "(I)Ljava/lang/Integer;" } : Jvm.MethodName)) ∈ G9 := g9 1812 (by decide +kernel) rfl
theorem k1834 : (Jvm.Cond.code ({ cls := "java/util/ArrayDeque", name := "addLast", desc := "(Ljava/lang/Object;)V" } : Jvm.MethodName) prog_44_method_13_code (3 : Nat) (Option.none : Option Jvm.ClassFile.FieldType)) ∈ G9 := g9 1834 (by decide +kernel) rfl
theorem k1831 : (Jvm.Cond.methodLink "HeroTableModel" (248 : Nat) ({ cls := "java/util/ArrayDeque", name := "addLast", desc := "(Ljava/lang/Object;)V" } : Jvm.MethodName)) ∈ G9 := g9 1831 (by decide +kernel) rfl
theorem ok_X12_addLast : okN yX12_addLast 1 := by decide +kernel
theorem k1832 : (Jvm.Cond.instanceMethod ({ cls := "java/util/ArrayDeque", name := "addLast", desc := "(Ljava/lang/Object;)V" } : Jvm.MethodName)) ∈ G9 := g9 1832 (by decide +kernel) rfl
theorem k1833 : (Jvm.Cond.selects "java/util/ArrayDeque" ({ cls := "java/util/ArrayDeque", name := "addLast", desc := "(Ljava/lang/Object;)V" } : Jvm.MethodName) ({ cls := "java/util/ArrayDeque", name := "addLast", desc := "(Ljava/lang/Object;)V" } : Jvm.MethodName)) ∈ G9 := g9 1833 (by decide +kernel) rfl
theorem k1876 : (Jvm.Cond.code ({ cls := "java/util/ArrayList", name := "isEmpty", desc := "()Z" } : Jvm.MethodName) prog_45_method_9_code (1 : Nat) (Option.some Jvm.ClassFile.FieldType.boolean)) ∈ G9 := g9 1876 (by decide +kernel) rfl
theorem k1869 : (Jvm.Cond.methodLink "HeroTableModel" (278 : Nat) ({ cls := "java/util/List", name := "isEmpty", desc := "()Z" } : Jvm.MethodName)) ∈ G9 := g9 1869 (by decide +kernel) rfl
theorem k1872 : (Jvm.Cond.selects "java/util/ArrayList" ({ cls := "java/util/List", name := "isEmpty", desc := "()Z" } : Jvm.MethodName) ({ cls := "java/util/ArrayList", name := "isEmpty", desc := "()Z" } : Jvm.MethodName)) ∈ G9 := g9 1872 (by decide +kernel) rfl
theorem k1874 : (Jvm.Cond.instanceMethod ({ cls := "java/util/ArrayList", name := "isEmpty", desc := "()Z" } : Jvm.MethodName)) ∈ G9 := g9 1874 (by decide +kernel) rfl
theorem okx_isEmpty : okN yI_isEmpty 0 := by decide +kernel
theorem k2198 : (Jvm.Cond.constantLong "HeroTableModel" (351 : Nat) (-1 : Int64)) ∈ G9 := g9 2198 (by decide +kernel) rfl
theorem k1351 : (Jvm.Cond.fieldLink "HeroTableModel" (321 : Nat) "HeroTableModel" "attacks" "I") ∈ G9 := g9 1351 (by decide +kernel) rfl
theorem k1292 : (Jvm.Cond.methodLink "HeroTableModel" (1 : Nat) ({ cls := "java/lang/Object", name := "<init>", desc := "()V" } : Jvm.MethodName)) ∈ G9 := g9 1292 (by decide +kernel) rfl
theorem k1293 : (Jvm.Cond.classLink "HeroTableModel" (7 : Nat) "java/util/ArrayList") ∈ G9 := g9 1293 (by decide +kernel) rfl
theorem k1294 : (Jvm.Cond.instantiable "java/util/ArrayList" (3 : Nat)) ∈ G9 := g9 1294 (by decide +kernel) rfl
theorem k1297 : (Jvm.Cond.code ({ cls := "java/util/ArrayList", name := "<init>", desc := "()V" } : Jvm.MethodName) prog_45_method_2_code (1 : Nat) (Option.none : Option Jvm.ClassFile.FieldType)) ∈ G9 := g9 1297 (by decide +kernel) rfl
theorem k1295 : (Jvm.Cond.methodLink "HeroTableModel" (9 : Nat) ({ cls := "java/util/ArrayList", name := "<init>", desc := "()V" } : Jvm.MethodName)) ∈ G9 := g9 1295 (by decide +kernel) rfl
theorem ok_Jx4a65c_init_da8c8 : okN yJx4a65c_init_da8c8 0 := by decide +kernel
theorem k1296 : (Jvm.Cond.instanceMethod ({ cls := "java/util/ArrayList", name := "<init>", desc := "()V" } : Jvm.MethodName)) ∈ G9 := g9 1296 (by decide +kernel) rfl
theorem k1322 : (Jvm.Cond.classLink "HeroTableModel" (23 : Nat) "java/util/ArrayDeque") ∈ G9 := g9 1322 (by decide +kernel) rfl
theorem k1323 : (Jvm.Cond.instantiable "java/util/ArrayDeque" (3 : Nat)) ∈ G9 := g9 1323 (by decide +kernel) rfl
theorem k1326 : (Jvm.Cond.code ({ cls := "java/util/ArrayDeque", name := "<init>", desc := "()V" } : Jvm.MethodName) prog_44_method_3_code (1 : Nat) (Option.none : Option Jvm.ClassFile.FieldType)) ∈ G9 := g9 1326 (by decide +kernel) rfl
theorem k1324 : (Jvm.Cond.methodLink "HeroTableModel" (25 : Nat) ({ cls := "java/util/ArrayDeque", name := "<init>", desc := "()V" } : Jvm.MethodName)) ∈ G9 := g9 1324 (by decide +kernel) rfl
theorem ok_X12_init : okN yX12_init 0 := by decide +kernel
theorem k1325 : (Jvm.Cond.instanceMethod ({ cls := "java/util/ArrayDeque", name := "<init>", desc := "()V" } : Jvm.MethodName)) ∈ G9 := g9 1325 (by decide +kernel) rfl
theorem k1345 : (Jvm.Cond.fieldLink "HeroTableModel" (33 : Nat) "HeroTableModel" "order" "Ljava/util/List;") ∈ G9 := g9 1345 (by decide +kernel) rfl
theorem dX11_in_0 : decode cX11_in 0 = .ok (.lload_n 0, 1) := by decide +kernel
theorem dX11_in_1 : decode cX11_in 1 = .ok (.lload_n 2, 1) := by decide +kernel
theorem dX11_in_2 : decode cX11_in 2 = .ok (.lcmp, 1) := by decide +kernel
theorem dX11_in_3 : decode cX11_in 3 = .ok (.ifCond .lt 14, 3) := by decide +kernel
theorem dX11_in_6 : decode cX11_in 6 = .ok (.lload_n 0, 1) := by decide +kernel
theorem dX11_in_7 : decode cX11_in 7 = .ok (.lload 4, 2) := by decide +kernel
theorem dX11_in_9 : decode cX11_in 9 = .ok (.lcmp, 1) := by decide +kernel
theorem dX11_in_10 : decode cX11_in 10 = .ok (.ifCond .gt 7, 3) := by decide +kernel
theorem dX11_in_13 : decode cX11_in 13 = .ok (.iconst 1, 1) := by decide +kernel
theorem dX11_in_14 : decode cX11_in 14 = .ok (.goto 4, 3) := by decide +kernel
theorem dX11_in_17 : decode cX11_in 17 = .ok (.iconst 0, 1) := by decide +kernel
theorem dX11_in_18 : decode cX11_in 18 = .ok (.ireturn, 1) := by decide +kernel
theorem dX11_thrown_0 : decode cX11_thrown 0 = .ok (.aload_n 0, 1) := by decide +kernel
theorem dX11_thrown_1 : decode cX11_thrown 1 = .ok (.getfield 40, 3) := by decide +kernel
theorem dX11_thrown_4 : decode cX11_thrown 4 = .ok (.ireturn, 1) := by decide +kernel
theorem dX11_isOn_0 : decode cX11_isOn 0 = .ok (.aload_n 0, 1) := by decide +kernel
theorem dX11_isOn_1 : decode cX11_isOn 1 = .ok (.getfield 36, 3) := by decide +kernel
theorem dX11_isOn_4 : decode cX11_isOn 4 = .ok (.iconst (-1), 1) := by decide +kernel
theorem dX11_isOn_5 : decode cX11_isOn 5 = .ok (.if_icmp .eq 7, 3) := by decide +kernel
theorem dX11_isOn_12 : decode cX11_isOn 12 = .ok (.iconst 0, 1) := by decide +kernel
theorem dX11_isOn_13 : decode cX11_isOn 13 = .ok (.ireturn, 1) := by decide +kernel
theorem dX11_isCell_0 : decode cX11_isCell 0 = .ok (.iload_n 0, 1) := by decide +kernel
theorem dX11_isCell_1 : decode cX11_isCell 1 = .ok (.i2l, 1) := by decide +kernel
theorem dX11_isCell_2 : decode cX11_isCell 2 = .ok (.lconst 0, 1) := by decide +kernel
theorem dX11_isCell_3 : decode cX11_isCell 3 = .ok (.ldc2_w 53, 3) := by decide +kernel
theorem dX11_isCell_6 : decode cX11_isCell 6 = .ok (.invokestatic 49, 3) := by decide +kernel
theorem dX11_isCell_9 : decode cX11_isCell 9 = .ok (.ifCond .eq 19, 3) := by decide +kernel
theorem dX11_isCell_12 : decode cX11_isCell 12 = .ok (.iload_n 1, 1) := by decide +kernel
theorem dX11_isCell_13 : decode cX11_isCell 13 = .ok (.i2l, 1) := by decide +kernel
theorem dX11_isCell_14 : decode cX11_isCell 14 = .ok (.lconst 0, 1) := by decide +kernel
theorem dX11_isCell_15 : decode cX11_isCell 15 = .ok (.ldc2_w 53, 3) := by decide +kernel
theorem dX11_isCell_18 : decode cX11_isCell 18 = .ok (.invokestatic 49, 3) := by decide +kernel
theorem dX11_isCell_21 : decode cX11_isCell 21 = .ok (.ifCond .eq 7, 3) := by decide +kernel
theorem dX11_isCell_24 : decode cX11_isCell 24 = .ok (.iconst 1, 1) := by decide +kernel
theorem dX11_isCell_25 : decode cX11_isCell 25 = .ok (.goto 4, 3) := by decide +kernel
theorem dX11_isCell_28 : decode cX11_isCell 28 = .ok (.iconst 0, 1) := by decide +kernel
theorem dX11_isCell_29 : decode cX11_isCell 29 = .ok (.ireturn, 1) := by decide +kernel
theorem dX11_isHero_0 : decode cX11_isHero 0 = .ok (.iload_n 1, 1) := by decide +kernel
theorem dX11_isHero_1 : decode cX11_isHero 1 = .ok (.i2l, 1) := by decide +kernel
theorem dX11_isHero_2 : decode cX11_isHero 2 = .ok (.lconst 0, 1) := by decide +kernel
theorem dX11_isHero_3 : decode cX11_isHero 3 = .ok (.aload_n 0, 1) := by decide +kernel
theorem dX11_isHero_4 : decode cX11_isHero 4 = .ok (.getfield 10, 3) := by decide +kernel
theorem dX11_isHero_7 : decode cX11_isHero 7 = .ok (.invokeinterface 43 1, 5) := by decide +kernel
theorem dX11_isHero_12 : decode cX11_isHero 12 = .ok (.iconst 1, 1) := by decide +kernel
theorem dX11_isHero_13 : decode cX11_isHero 13 = .ok (.isub, 1) := by decide +kernel
theorem dX11_isHero_14 : decode cX11_isHero 14 = .ok (.i2l, 1) := by decide +kernel
theorem dX11_isHero_15 : decode cX11_isHero 15 = .ok (.invokestatic 49, 3) := by decide +kernel
theorem dX11_isHero_18 : decode cX11_isHero 18 = .ok (.ireturn, 1) := by decide +kernel
theorem dX11_heroIn_0 : decode cX11_heroIn 0 = .ok (.aload_n 0, 1) := by decide +kernel
theorem dX11_heroIn_1 : decode cX11_heroIn 1 = .ok (.getfield 10, 3) := by decide +kernel
theorem dX11_heroIn_4 : decode cX11_heroIn 4 = .ok (.invokeinterface 70 1, 5) := by decide +kernel
theorem dX11_heroIn_9 : decode cX11_heroIn 9 = .ok (.astore_n 3, 1) := by decide +kernel
theorem dX11_heroIn_10 : decode cX11_heroIn 10 = .ok (.aload_n 3, 1) := by decide +kernel
theorem dX11_heroIn_11 : decode cX11_heroIn 11 = .ok (.invokeinterface 74 1, 5) := by decide +kernel
theorem dX11_heroIn_16 : decode cX11_heroIn 16 = .ok (.ifCond .eq 38, 3) := by decide +kernel
theorem dX11_heroIn_54 : decode cX11_heroIn 54 = .ok (.aconst_null, 1) := by decide +kernel
theorem dX11_heroIn_55 : decode cX11_heroIn 55 = .ok (.areturn, 1) := by decide +kernel
theorem dX8_init_0 : decode cX8_init 0 = .ok (.aload_n 0, 1) := by decide +kernel
theorem dX8_init_1 : decode cX8_init 1 = .ok (.invokespecial 1, 3) := by decide +kernel
theorem dX8_init_4 : decode cX8_init 4 = .ok (.aload_n 0, 1) := by decide +kernel
theorem dX8_init_5 : decode cX8_init 5 = .ok (.iload_n 1, 1) := by decide +kernel
theorem dX8_init_6 : decode cX8_init 6 = .ok (.putfield 7, 3) := by decide +kernel
theorem dX8_init_9 : decode cX8_init 9 = .ok (.aload_n 0, 1) := by decide +kernel
theorem dX8_init_10 : decode cX8_init 10 = .ok (.aload_n 2, 1) := by decide +kernel
theorem dX8_init_11 : decode cX8_init 11 = .ok (.putfield 13, 3) := by decide +kernel
theorem dX8_init_14 : decode cX8_init 14 = .ok (.return_, 1) := by decide +kernel
theorem dX11_keep_0 : decode cX11_keep 0 = .ok (.aload_n 0, 1) := by decide +kernel
theorem dX11_keep_1 : decode cX11_keep 1 = .ok (.getfield 30, 3) := by decide +kernel
theorem dX11_keep_4 : decode cX11_keep 4 = .ok (.new 61, 3) := by decide +kernel
theorem dX11_keep_7 : decode cX11_keep 7 = .ok (.dup, 1) := by decide +kernel
theorem dX11_keep_8 : decode cX11_keep 8 = .ok (.iload_n 1, 1) := by decide +kernel
theorem dX11_keep_9 : decode cX11_keep 9 = .ok (.aload_n 2, 1) := by decide +kernel
theorem dX11_keep_10 : decode cX11_keep 10 = .ok (.invokespecial 63, 3) := by decide +kernel
theorem dX11_keep_13 : decode cX11_keep 13 = .ok (.invokeinterface 66 2, 5) := by decide +kernel
theorem dX11_keep_18 : decode cX11_keep 18 = .ok (.pop, 1) := by decide +kernel
theorem dX11_keep_19 : decode cX11_keep 19 = .ok (.return_, 1) := by decide +kernel
theorem dX9_init_0 : decode cX9_init 0 = .ok (.aload_n 0, 1) := by decide +kernel
theorem dX9_init_1 : decode cX9_init 1 = .ok (.invokespecial 3, 3) := by decide +kernel
theorem dX9_init_4 : decode cX9_init 4 = .ok (.aload_n 0, 1) := by decide +kernel
theorem dX9_init_5 : decode cX9_init 5 = .ok (.iconst 5, 1) := by decide +kernel
theorem dX9_init_6 : decode cX9_init 6 = .ok (.newarray .int, 2) := by decide +kernel
theorem dX9_init_8 : decode cX9_init 8 = .ok (.dup, 1) := by decide +kernel
theorem dX9_init_9 : decode cX9_init 9 = .ok (.iconst 0, 1) := by decide +kernel
theorem dX9_init_10 : decode cX9_init 10 = .ok (.bipush 12, 2) := by decide +kernel
theorem dX9_init_12 : decode cX9_init 12 = .ok (.iastore, 1) := by decide +kernel
theorem dX9_init_13 : decode cX9_init 13 = .ok (.dup, 1) := by decide +kernel
theorem dX9_init_14 : decode cX9_init 14 = .ok (.iconst 1, 1) := by decide +kernel
theorem dX9_init_15 : decode cX9_init 15 = .ok (.iconst 4, 1) := by decide +kernel
theorem dX9_init_16 : decode cX9_init 16 = .ok (.iastore, 1) := by decide +kernel
theorem dX9_init_17 : decode cX9_init 17 = .ok (.dup, 1) := by decide +kernel
theorem dX9_init_18 : decode cX9_init 18 = .ok (.iconst 2, 1) := by decide +kernel
theorem dX9_init_19 : decode cX9_init 19 = .ok (.iconst 5, 1) := by decide +kernel
theorem dX9_init_20 : decode cX9_init 20 = .ok (.iastore, 1) := by decide +kernel
theorem dX9_init_21 : decode cX9_init 21 = .ok (.dup, 1) := by decide +kernel
theorem dX9_init_22 : decode cX9_init 22 = .ok (.iconst 3, 1) := by decide +kernel
theorem dX9_init_23 : decode cX9_init 23 = .ok (.iconst 4, 1) := by decide +kernel
theorem dX9_init_24 : decode cX9_init 24 = .ok (.iastore, 1) := by decide +kernel
theorem dX9_init_25 : decode cX9_init 25 = .ok (.dup, 1) := by decide +kernel
theorem dX9_init_26 : decode cX9_init 26 = .ok (.iconst 4, 1) := by decide +kernel
theorem dX9_init_27 : decode cX9_init 27 = .ok (.iconst 2, 1) := by decide +kernel
theorem dX9_init_28 : decode cX9_init 28 = .ok (.iastore, 1) := by decide +kernel
theorem dX9_init_29 : decode cX9_init 29 = .ok (.putfield 9, 3) := by decide +kernel
theorem dX9_init_32 : decode cX9_init 32 = .ok (.aload_n 0, 1) := by decide +kernel
theorem dX9_init_33 : decode cX9_init 33 = .ok (.iconst 3, 1) := by decide +kernel
theorem dX9_init_34 : decode cX9_init 34 = .ok (.putfield 15, 3) := by decide +kernel
theorem dX9_init_37 : decode cX9_init 37 = .ok (.aload_n 0, 1) := by decide +kernel
theorem dX9_init_38 : decode cX9_init 38 = .ok (.bipush 32, 2) := by decide +kernel
theorem dX9_init_40 : decode cX9_init 40 = .ok (.putfield 19, 3) := by decide +kernel
theorem dX9_init_43 : decode cX9_init 43 = .ok (.aload_n 0, 1) := by decide +kernel
theorem dX9_init_44 : decode cX9_init 44 = .ok (.bipush 32, 2) := by decide +kernel
theorem dX9_init_46 : decode cX9_init 46 = .ok (.putfield 23, 3) := by decide +kernel
theorem dX9_init_49 : decode cX9_init 49 = .ok (.aload_n 0, 1) := by decide +kernel
theorem dX9_init_50 : decode cX9_init 50 = .ok (.iload_n 1, 1) := by decide +kernel
theorem dX9_init_51 : decode cX9_init 51 = .ok (.putfield 26, 3) := by decide +kernel
theorem dX9_init_54 : decode cX9_init 54 = .ok (.aload_n 0, 1) := by decide +kernel
theorem dX9_init_55 : decode cX9_init 55 = .ok (.iload_n 2, 1) := by decide +kernel
theorem dX9_init_56 : decode cX9_init 56 = .ok (.putfield 29, 3) := by decide +kernel
theorem dX9_init_59 : decode cX9_init 59 = .ok (.aload_n 0, 1) := by decide +kernel
theorem dX9_init_60 : decode cX9_init 60 = .ok (.iload_n 3, 1) := by decide +kernel
theorem dX9_init_61 : decode cX9_init 61 = .ok (.putfield 32, 3) := by decide +kernel
theorem dX9_init_64 : decode cX9_init 64 = .ok (.aload_n 0, 1) := by decide +kernel
theorem dX9_init_65 : decode cX9_init 65 = .ok (.iload_n 3, 1) := by decide +kernel
theorem dX9_init_66 : decode cX9_init 66 = .ok (.putfield 35, 3) := by decide +kernel
theorem dX9_init_69 : decode cX9_init 69 = .ok (.aload_n 0, 1) := by decide +kernel
theorem dX9_init_70 : decode cX9_init 70 = .ok (.iload 4, 2) := by decide +kernel
theorem dX9_init_72 : decode cX9_init 72 = .ok (.putfield 38, 3) := by decide +kernel
theorem dX9_init_75 : decode cX9_init 75 = .ok (.aload_n 0, 1) := by decide +kernel
theorem dX9_init_76 : decode cX9_init 76 = .ok (.iload 5, 2) := by decide +kernel
theorem dX9_init_78 : decode cX9_init 78 = .ok (.putfield 41, 3) := by decide +kernel
theorem dX9_init_81 : decode cX9_init 81 = .ok (.aload_n 0, 1) := by decide +kernel
theorem dX9_init_82 : decode cX9_init 82 = .ok (.iload 6, 2) := by decide +kernel
theorem dX9_init_84 : decode cX9_init 84 = .ok (.putfield 44, 3) := by decide +kernel
theorem dX9_init_87 : decode cX9_init 87 = .ok (.return_, 1) := by decide +kernel
theorem dX11_addHero_0 : decode cX11_addHero 0 = .ok (.iload_n 1, 1) := by decide +kernel
theorem dX11_addHero_1 : decode cX11_addHero 1 = .ok (.i2l, 1) := by decide +kernel
theorem dX11_addHero_2 : decode cX11_addHero 2 = .ok (.lconst 0, 1) := by decide +kernel
theorem dX11_addHero_3 : decode cX11_addHero 3 = .ok (.lconst 1, 1) := by decide +kernel
theorem dX11_addHero_4 : decode cX11_addHero 4 = .ok (.invokestatic 49, 3) := by decide +kernel
theorem dX11_addHero_7 : decode cX11_addHero 7 = .ok (.ifCond .eq 41, 3) := by decide +kernel
theorem dX11_addHero_10 : decode cX11_addHero 10 = .ok (.iload_n 2, 1) := by decide +kernel
theorem dX11_addHero_11 : decode cX11_addHero 11 = .ok (.i2l, 1) := by decide +kernel
theorem dX11_addHero_12 : decode cX11_addHero 12 = .ok (.lconst 1, 1) := by decide +kernel
theorem dX11_addHero_13 : decode cX11_addHero 13 = .ok (.ldc2_w 90, 3) := by decide +kernel
theorem dX11_addHero_16 : decode cX11_addHero 16 = .ok (.invokestatic 49, 3) := by decide +kernel
theorem dX11_addHero_19 : decode cX11_addHero 19 = .ok (.ifCond .eq 29, 3) := by decide +kernel
theorem dX11_addHero_22 : decode cX11_addHero 22 = .ok (.iload_n 3, 1) := by decide +kernel
theorem dX11_addHero_23 : decode cX11_addHero 23 = .ok (.i2l, 1) := by decide +kernel
theorem dX11_addHero_24 : decode cX11_addHero 24 = .ok (.lconst 0, 1) := by decide +kernel
theorem dX11_addHero_25 : decode cX11_addHero 25 = .ok (.ldc2_w 92, 3) := by decide +kernel
theorem dX11_addHero_28 : decode cX11_addHero 28 = .ok (.invokestatic 49, 3) := by decide +kernel
theorem dX11_addHero_31 : decode cX11_addHero 31 = .ok (.ifCond .eq 17, 3) := by decide +kernel
theorem dX11_addHero_34 : decode cX11_addHero 34 = .ok (.iload 4, 2) := by decide +kernel
theorem dX11_addHero_36 : decode cX11_addHero 36 = .ok (.iload 5, 2) := by decide +kernel
theorem dX11_addHero_38 : decode cX11_addHero 38 = .ok (.invokestatic 94, 3) := by decide +kernel
theorem dX11_addHero_41 : decode cX11_addHero 41 = .ok (.ifCond .eq 7, 3) := by decide +kernel
theorem dX11_addHero_44 : decode cX11_addHero 44 = .ok (.iconst 1, 1) := by decide +kernel
theorem dX11_addHero_45 : decode cX11_addHero 45 = .ok (.goto 4, 3) := by decide +kernel
theorem dX11_addHero_48 : decode cX11_addHero 48 = .ok (.iconst 0, 1) := by decide +kernel
theorem dX11_addHero_49 : decode cX11_addHero 49 = .ok (.istore 6, 2) := by decide +kernel
theorem dX11_addHero_51 : decode cX11_addHero 51 = .ok (.aload_n 0, 1) := by decide +kernel
theorem dX11_addHero_52 : decode cX11_addHero 52 = .ok (.iload 6, 2) := by decide +kernel
theorem dX11_addHero_54 : decode cX11_addHero 54 = .ok (.ifCond .ne 7, 3) := by decide +kernel
theorem dX11_addHero_57 : decode cX11_addHero 57 = .ok (.iconst 1, 1) := by decide +kernel
theorem dX11_addHero_58 : decode cX11_addHero 58 = .ok (.goto 62, 3) := by decide +kernel
theorem dX11_addHero_61 : decode cX11_addHero 61 = .ok (.aload_n 0, 1) := by decide +kernel
theorem dX11_addHero_62 : decode cX11_addHero 62 = .ok (.getfield 10, 3) := by decide +kernel
theorem dX11_addHero_65 : decode cX11_addHero 65 = .ok (.invokeinterface 43 1, 5) := by decide +kernel
theorem dX11_addHero_70 : decode cX11_addHero 70 = .ok (.bipush 6, 2) := by decide +kernel
theorem dX11_addHero_72 : decode cX11_addHero 72 = .ok (.if_icmp .eq 10, 3) := by decide +kernel
theorem dX11_addHero_75 : decode cX11_addHero 75 = .ok (.aload_n 0, 1) := by decide +kernel
theorem dX11_addHero_76 : decode cX11_addHero 76 = .ok (.invokevirtual 98, 3) := by decide +kernel
theorem dX11_addHero_79 : decode cX11_addHero 79 = .ok (.ifCond .eq 7, 3) := by decide +kernel
theorem dX11_addHero_86 : decode cX11_addHero 86 = .ok (.aload_n 0, 1) := by decide +kernel
theorem dX11_addHero_87 : decode cX11_addHero 87 = .ok (.getfield 16, 3) := by decide +kernel
theorem dX11_addHero_90 : decode cX11_addHero 90 = .ok (.bipush 8, 2) := by decide +kernel
theorem dX11_addHero_92 : decode cX11_addHero 92 = .ok (.iload 5, 2) := by decide +kernel
theorem dX11_addHero_94 : decode cX11_addHero 94 = .ok (.imul, 1) := by decide +kernel
theorem dX11_addHero_95 : decode cX11_addHero 95 = .ok (.iload 4, 2) := by decide +kernel
theorem dX11_addHero_97 : decode cX11_addHero 97 = .ok (.iadd, 1) := by decide +kernel
theorem dX11_addHero_98 : decode cX11_addHero 98 = .ok (.caload, 1) := by decide +kernel
theorem dX11_addHero_99 : decode cX11_addHero 99 = .ok (.bipush 35, 2) := by decide +kernel
theorem dX11_addHero_101 : decode cX11_addHero 101 = .ok (.if_icmp .eq 14, 3) := by decide +kernel
theorem dX11_addHero_104 : decode cX11_addHero 104 = .ok (.aload_n 0, 1) := by decide +kernel
theorem dX11_addHero_105 : decode cX11_addHero 105 = .ok (.iload 4, 2) := by decide +kernel
theorem dX11_addHero_107 : decode cX11_addHero 107 = .ok (.iload 5, 2) := by decide +kernel
theorem dX11_addHero_109 : decode cX11_addHero 109 = .ok (.invokevirtual 101, 3) := by decide +kernel
theorem dX11_addHero_112 : decode cX11_addHero 112 = .ok (.ifnull 7, 3) := by decide +kernel
theorem dX11_addHero_119 : decode cX11_addHero 119 = .ok (.iconst 0, 1) := by decide +kernel
theorem dX11_addHero_120 : decode cX11_addHero 120 = .ok (.putfield 40, 3) := by decide +kernel
theorem dX11_addHero_123 : decode cX11_addHero 123 = .ok (.aload_n 0, 1) := by decide +kernel
theorem dX11_addHero_124 : decode cX11_addHero 124 = .ok (.getfield 40, 3) := by decide +kernel
theorem dX11_addHero_127 : decode cX11_addHero 127 = .ok (.ifCond .le 5, 3) := by decide +kernel
theorem dX11_addHero_130 : decode cX11_addHero 130 = .ok (.iconst (-1), 1) := by decide +kernel
theorem dX11_addHero_131 : decode cX11_addHero 131 = .ok (.ireturn, 1) := by decide +kernel
theorem dX11_addHero_132 : decode cX11_addHero 132 = .ok (.aload_n 0, 1) := by decide +kernel
theorem dX11_addHero_133 : decode cX11_addHero 133 = .ok (.bipush 72, 2) := by decide +kernel
theorem dX11_addHero_135 : decode cX11_addHero 135 = .ok (.iconst 5, 1) := by decide +kernel
theorem dX11_addHero_136 : decode cX11_addHero 136 = .ok (.newarray .int, 2) := by decide +kernel
theorem dX11_addHero_138 : decode cX11_addHero 138 = .ok (.dup, 1) := by decide +kernel
theorem dX11_addHero_139 : decode cX11_addHero 139 = .ok (.iconst 0, 1) := by decide +kernel
theorem dX11_addHero_140 : decode cX11_addHero 140 = .ok (.iload_n 1, 1) := by decide +kernel
theorem dX11_addHero_141 : decode cX11_addHero 141 = .ok (.iastore, 1) := by decide +kernel
theorem dX11_addHero_142 : decode cX11_addHero 142 = .ok (.dup, 1) := by decide +kernel
theorem dX11_addHero_143 : decode cX11_addHero 143 = .ok (.iconst 1, 1) := by decide +kernel
theorem dX11_addHero_144 : decode cX11_addHero 144 = .ok (.iload_n 2, 1) := by decide +kernel
theorem dX11_addHero_145 : decode cX11_addHero 145 = .ok (.iastore, 1) := by decide +kernel
theorem dX11_addHero_146 : decode cX11_addHero 146 = .ok (.dup, 1) := by decide +kernel
theorem dX11_addHero_147 : decode cX11_addHero 147 = .ok (.iconst 2, 1) := by decide +kernel
theorem dX11_addHero_148 : decode cX11_addHero 148 = .ok (.iload_n 3, 1) := by decide +kernel
theorem dX11_addHero_149 : decode cX11_addHero 149 = .ok (.iastore, 1) := by decide +kernel
theorem dX11_addHero_150 : decode cX11_addHero 150 = .ok (.dup, 1) := by decide +kernel
theorem dX11_addHero_151 : decode cX11_addHero 151 = .ok (.iconst 3, 1) := by decide +kernel
theorem dX11_addHero_152 : decode cX11_addHero 152 = .ok (.iload 4, 2) := by decide +kernel
theorem dX11_addHero_154 : decode cX11_addHero 154 = .ok (.iastore, 1) := by decide +kernel
theorem dX11_addHero_155 : decode cX11_addHero 155 = .ok (.dup, 1) := by decide +kernel
theorem dX11_addHero_156 : decode cX11_addHero 156 = .ok (.iconst 4, 1) := by decide +kernel
theorem dX11_addHero_157 : decode cX11_addHero 157 = .ok (.iload 5, 2) := by decide +kernel
theorem dX11_addHero_159 : decode cX11_addHero 159 = .ok (.iastore, 1) := by decide +kernel
theorem dX11_addHero_160 : decode cX11_addHero 160 = .ok (.invokevirtual 105, 3) := by decide +kernel
theorem dX11_addHero_163 : decode cX11_addHero 163 = .ok (.aload_n 0, 1) := by decide +kernel
theorem dX11_addHero_164 : decode cX11_addHero 164 = .ok (.getfield 10, 3) := by decide +kernel
theorem dX11_addHero_167 : decode cX11_addHero 167 = .ok (.new 59, 3) := by decide +kernel
theorem dX11_addHero_170 : decode cX11_addHero 170 = .ok (.dup, 1) := by decide +kernel
theorem dX11_addHero_171 : decode cX11_addHero 171 = .ok (.aload_n 0, 1) := by decide +kernel
theorem dX11_addHero_172 : decode cX11_addHero 172 = .ok (.getfield 10, 3) := by decide +kernel
theorem dX11_addHero_175 : decode cX11_addHero 175 = .ok (.invokeinterface 43 1, 5) := by decide +kernel
theorem dX11_addHero_180 : decode cX11_addHero 180 = .ok (.iload_n 1, 1) := by decide +kernel
theorem dX11_addHero_181 : decode cX11_addHero 181 = .ok (.iload_n 2, 1) := by decide +kernel
theorem dX11_addHero_182 : decode cX11_addHero 182 = .ok (.iload_n 3, 1) := by decide +kernel
theorem dX11_addHero_183 : decode cX11_addHero 183 = .ok (.iload 4, 2) := by decide +kernel
theorem dX11_addHero_185 : decode cX11_addHero 185 = .ok (.iload 5, 2) := by decide +kernel
theorem dX11_addHero_187 : decode cX11_addHero 187 = .ok (.invokespecial 108, 3) := by decide +kernel
theorem dX11_addHero_190 : decode cX11_addHero 190 = .ok (.invokeinterface 66 2, 5) := by decide +kernel
theorem dX11_addHero_195 : decode cX11_addHero 195 = .ok (.pop, 1) := by decide +kernel
theorem dX11_addHero_196 : decode cX11_addHero 196 = .ok (.aload_n 0, 1) := by decide +kernel
theorem dX11_addHero_197 : decode cX11_addHero 197 = .ok (.getfield 10, 3) := by decide +kernel
theorem dX11_addHero_200 : decode cX11_addHero 200 = .ok (.invokeinterface 43 1, 5) := by decide +kernel
theorem dX11_addHero_205 : decode cX11_addHero 205 = .ok (.iconst 1, 1) := by decide +kernel
theorem dX11_addHero_206 : decode cX11_addHero 206 = .ok (.isub, 1) := by decide +kernel
theorem dX11_addHero_207 : decode cX11_addHero 207 = .ok (.ireturn, 1) := by decide +kernel
theorem dX11_setGround_0 : decode cX11_setGround 0 = .ok (.aload_n 0, 1) := by decide +kernel
theorem dX11_setGround_1 : decode cX11_setGround 1 = .ok (.iload_n 1, 1) := by decide +kernel
theorem dX11_setGround_2 : decode cX11_setGround 2 = .ok (.iload_n 2, 1) := by decide +kernel
theorem dX11_setGround_3 : decode cX11_setGround 3 = .ok (.invokestatic 94, 3) := by decide +kernel
theorem dX11_setGround_6 : decode cX11_setGround 6 = .ok (.ifCond .eq 12, 3) := by decide +kernel
theorem dX11_setGround_9 : decode cX11_setGround 9 = .ok (.ldc 111, 2) := by decide +kernel
theorem dX11_setGround_11 : decode cX11_setGround 11 = .ok (.iload_n 3, 1) := by decide +kernel
theorem dX11_setGround_12 : decode cX11_setGround 12 = .ok (.invokevirtual 113, 3) := by decide +kernel
theorem dX11_setGround_15 : decode cX11_setGround 15 = .ok (.ifCond .ge 7, 3) := by decide +kernel
theorem dX11_setGround_18 : decode cX11_setGround 18 = .ok (.iconst 1, 1) := by decide +kernel
theorem dX11_setGround_19 : decode cX11_setGround 19 = .ok (.goto 23, 3) := by decide +kernel
theorem dX11_setGround_22 : decode cX11_setGround 22 = .ok (.iload_n 3, 1) := by decide +kernel
theorem dX11_setGround_23 : decode cX11_setGround 23 = .ok (.bipush 35, 2) := by decide +kernel
theorem dX11_setGround_25 : decode cX11_setGround 25 = .ok (.if_icmp .ne 16, 3) := by decide +kernel
theorem dX11_setGround_28 : decode cX11_setGround 28 = .ok (.aload_n 0, 1) := by decide +kernel
theorem dX11_setGround_29 : decode cX11_setGround 29 = .ok (.iload_n 1, 1) := by decide +kernel
theorem dX11_setGround_30 : decode cX11_setGround 30 = .ok (.iload_n 2, 1) := by decide +kernel
theorem dX11_setGround_31 : decode cX11_setGround 31 = .ok (.invokevirtual 101, 3) := by decide +kernel
theorem dX11_setGround_34 : decode cX11_setGround 34 = .ok (.ifnull 7, 3) := by decide +kernel
theorem dX11_setGround_41 : decode cX11_setGround 41 = .ok (.iconst 0, 1) := by decide +kernel
theorem dX11_setGround_42 : decode cX11_setGround 42 = .ok (.putfield 40, 3) := by decide +kernel
theorem dX11_setGround_45 : decode cX11_setGround 45 = .ok (.aload_n 0, 1) := by decide +kernel
theorem dX11_setGround_46 : decode cX11_setGround 46 = .ok (.getfield 40, 3) := by decide +kernel
theorem dX11_setGround_49 : decode cX11_setGround 49 = .ok (.ifCond .le 6, 3) := by decide +kernel
theorem dX11_setGround_52 : decode cX11_setGround 52 = .ok (.bipush 32, 2) := by decide +kernel
theorem dX11_setGround_54 : decode cX11_setGround 54 = .ok (.ireturn, 1) := by decide +kernel
theorem dX11_setGround_55 : decode cX11_setGround 55 = .ok (.aload_n 0, 1) := by decide +kernel
theorem dX11_setGround_56 : decode cX11_setGround 56 = .ok (.bipush 71, 2) := by decide +kernel
theorem dX11_setGround_58 : decode cX11_setGround 58 = .ok (.iconst 3, 1) := by decide +kernel
theorem dX11_setGround_59 : decode cX11_setGround 59 = .ok (.newarray .int, 2) := by decide +kernel
theorem dX11_setGround_61 : decode cX11_setGround 61 = .ok (.dup, 1) := by decide +kernel
theorem dX11_setGround_62 : decode cX11_setGround 62 = .ok (.iconst 0, 1) := by decide +kernel
theorem dX11_setGround_63 : decode cX11_setGround 63 = .ok (.iload_n 1, 1) := by decide +kernel
theorem dX11_setGround_64 : decode cX11_setGround 64 = .ok (.iastore, 1) := by decide +kernel
theorem dX11_setGround_65 : decode cX11_setGround 65 = .ok (.dup, 1) := by decide +kernel
theorem dX11_setGround_66 : decode cX11_setGround 66 = .ok (.iconst 1, 1) := by decide +kernel
theorem dX11_setGround_67 : decode cX11_setGround 67 = .ok (.iload_n 2, 1) := by decide +kernel
theorem dX11_setGround_68 : decode cX11_setGround 68 = .ok (.iastore, 1) := by decide +kernel
theorem dX11_setGround_69 : decode cX11_setGround 69 = .ok (.dup, 1) := by decide +kernel
theorem dX11_setGround_70 : decode cX11_setGround 70 = .ok (.iconst 2, 1) := by decide +kernel
theorem dX11_setGround_71 : decode cX11_setGround 71 = .ok (.iload_n 3, 1) := by decide +kernel
theorem dX11_setGround_72 : decode cX11_setGround 72 = .ok (.iastore, 1) := by decide +kernel
theorem dX11_setGround_73 : decode cX11_setGround 73 = .ok (.invokevirtual 105, 3) := by decide +kernel
theorem dX11_setGround_76 : decode cX11_setGround 76 = .ok (.aload_n 0, 1) := by decide +kernel
theorem dX11_setGround_77 : decode cX11_setGround 77 = .ok (.getfield 16, 3) := by decide +kernel
theorem dX11_setGround_80 : decode cX11_setGround 80 = .ok (.bipush 8, 2) := by decide +kernel
theorem dX11_setGround_82 : decode cX11_setGround 82 = .ok (.iload_n 2, 1) := by decide +kernel
theorem dX11_setGround_83 : decode cX11_setGround 83 = .ok (.imul, 1) := by decide +kernel
theorem dX11_setGround_84 : decode cX11_setGround 84 = .ok (.iload_n 1, 1) := by decide +kernel
theorem dX11_setGround_85 : decode cX11_setGround 85 = .ok (.iadd, 1) := by decide +kernel
theorem dX11_setGround_86 : decode cX11_setGround 86 = .ok (.caload, 1) := by decide +kernel
theorem dX11_setGround_87 : decode cX11_setGround 87 = .ok (.istore 4, 2) := by decide +kernel
theorem dX11_setGround_89 : decode cX11_setGround 89 = .ok (.aload_n 0, 1) := by decide +kernel
theorem dX11_setGround_90 : decode cX11_setGround 90 = .ok (.getfield 16, 3) := by decide +kernel
theorem dX11_setGround_93 : decode cX11_setGround 93 = .ok (.bipush 8, 2) := by decide +kernel
theorem dX11_setGround_95 : decode cX11_setGround 95 = .ok (.iload_n 2, 1) := by decide +kernel
theorem dX11_setGround_96 : decode cX11_setGround 96 = .ok (.imul, 1) := by decide +kernel
theorem dX11_setGround_97 : decode cX11_setGround 97 = .ok (.iload_n 1, 1) := by decide +kernel
theorem dX11_setGround_98 : decode cX11_setGround 98 = .ok (.iadd, 1) := by decide +kernel
theorem dX11_setGround_99 : decode cX11_setGround 99 = .ok (.iload_n 3, 1) := by decide +kernel
theorem dX11_setGround_100 : decode cX11_setGround 100 = .ok (.castore, 1) := by decide +kernel
theorem dX11_setGround_101 : decode cX11_setGround 101 = .ok (.iload 4, 2) := by decide +kernel
theorem dX11_setGround_103 : decode cX11_setGround 103 = .ok (.ireturn, 1) := by decide +kernel
theorem dX11_setBase_0 : decode cX11_setBase 0 = .ok (.aload_n 0, 1) := by decide +kernel
theorem dX11_setBase_1 : decode cX11_setBase 1 = .ok (.aload_n 0, 1) := by decide +kernel
theorem dX11_setBase_2 : decode cX11_setBase 2 = .ok (.iload_n 1, 1) := by decide +kernel
theorem dX11_setBase_3 : decode cX11_setBase 3 = .ok (.invokevirtual 119, 3) := by decide +kernel
theorem dX11_setBase_6 : decode cX11_setBase 6 = .ok (.ifCond .ne 7, 3) := by decide +kernel
theorem dX11_setBase_9 : decode cX11_setBase 9 = .ok (.iconst 1, 1) := by decide +kernel
theorem dX11_setBase_10 : decode cX11_setBase 10 = .ok (.goto 31, 3) := by decide +kernel
theorem dX11_setBase_41 : decode cX11_setBase 41 = .ok (.putfield 40, 3) := by decide +kernel
theorem dX11_setBase_44 : decode cX11_setBase 44 = .ok (.aload_n 0, 1) := by decide +kernel
theorem dX11_setBase_45 : decode cX11_setBase 45 = .ok (.getfield 40, 3) := by decide +kernel
theorem dX11_setBase_48 : decode cX11_setBase 48 = .ok (.ifCond .le 5, 3) := by decide +kernel
theorem dX11_setBase_51 : decode cX11_setBase 51 = .ok (.iconst (-1), 1) := by decide +kernel
theorem dX11_setBase_52 : decode cX11_setBase 52 = .ok (.ireturn, 1) := by decide +kernel
theorem dX11_setSpare_0 : decode cX11_setSpare 0 = .ok (.aload_n 0, 1) := by decide +kernel
theorem dX11_setSpare_1 : decode cX11_setSpare 1 = .ok (.aload_n 0, 1) := by decide +kernel
theorem dX11_setSpare_2 : decode cX11_setSpare 2 = .ok (.iload_n 1, 1) := by decide +kernel
theorem dX11_setSpare_3 : decode cX11_setSpare 3 = .ok (.invokevirtual 119, 3) := by decide +kernel
theorem dX11_setSpare_6 : decode cX11_setSpare 6 = .ok (.ifCond .ne 7, 3) := by decide +kernel
theorem dX11_setSpare_9 : decode cX11_setSpare 9 = .ok (.iconst 1, 1) := by decide +kernel
theorem dX11_setSpare_10 : decode cX11_setSpare 10 = .ok (.goto 20, 3) := by decide +kernel
theorem dX11_setSpare_30 : decode cX11_setSpare 30 = .ok (.putfield 40, 3) := by decide +kernel
theorem dX11_setSpare_33 : decode cX11_setSpare 33 = .ok (.aload_n 0, 1) := by decide +kernel
theorem dX11_setSpare_34 : decode cX11_setSpare 34 = .ok (.getfield 40, 3) := by decide +kernel
theorem dX11_setSpare_37 : decode cX11_setSpare 37 = .ok (.ifCond .le 5, 3) := by decide +kernel
theorem dX11_setSpare_40 : decode cX11_setSpare 40 = .ok (.iconst (-1), 1) := by decide +kernel
theorem dX11_setSpare_41 : decode cX11_setSpare 41 = .ok (.ireturn, 1) := by decide +kernel
theorem dX11_heal_0 : decode cX11_heal 0 = .ok (.aload_n 0, 1) := by decide +kernel
theorem dX11_heal_1 : decode cX11_heal 1 = .ok (.aload_n 0, 1) := by decide +kernel
theorem dX11_heal_2 : decode cX11_heal 2 = .ok (.iload_n 1, 1) := by decide +kernel
theorem dX11_heal_3 : decode cX11_heal 3 = .ok (.invokevirtual 119, 3) := by decide +kernel
theorem dX11_heal_6 : decode cX11_heal 6 = .ok (.ifCond .ne 7, 3) := by decide +kernel
theorem dX11_heal_9 : decode cX11_heal 9 = .ok (.iconst 1, 1) := by decide +kernel
theorem dX11_heal_10 : decode cX11_heal 10 = .ok (.goto 20, 3) := by decide +kernel
theorem dX11_heal_30 : decode cX11_heal 30 = .ok (.putfield 40, 3) := by decide +kernel
theorem dX11_heal_33 : decode cX11_heal 33 = .ok (.aload_n 0, 1) := by decide +kernel
theorem dX11_heal_34 : decode cX11_heal 34 = .ok (.getfield 40, 3) := by decide +kernel
theorem dX11_heal_37 : decode cX11_heal 37 = .ok (.ifCond .le 5, 3) := by decide +kernel
theorem dX11_heal_40 : decode cX11_heal 40 = .ok (.iconst (-1), 1) := by decide +kernel
theorem dX11_heal_41 : decode cX11_heal 41 = .ok (.ireturn, 1) := by decide +kernel
theorem dX11_lifeOf_0 : decode cX11_lifeOf 0 = .ok (.aload_n 0, 1) := by decide +kernel
theorem dX11_lifeOf_1 : decode cX11_lifeOf 1 = .ok (.aload_n 0, 1) := by decide +kernel
theorem dX11_lifeOf_2 : decode cX11_lifeOf 2 = .ok (.iload_n 1, 1) := by decide +kernel
theorem dX11_lifeOf_3 : decode cX11_lifeOf 3 = .ok (.invokevirtual 119, 3) := by decide +kernel
theorem dX11_lifeOf_6 : decode cX11_lifeOf 6 = .ok (.ifCond .eq 7, 3) := by decide +kernel
theorem dX11_lifeOf_13 : decode cX11_lifeOf 13 = .ok (.iconst 1, 1) := by decide +kernel
theorem dX11_lifeOf_14 : decode cX11_lifeOf 14 = .ok (.putfield 40, 3) := by decide +kernel
theorem dX11_lifeOf_17 : decode cX11_lifeOf 17 = .ok (.aload_n 0, 1) := by decide +kernel
theorem dX11_lifeOf_18 : decode cX11_lifeOf 18 = .ok (.getfield 40, 3) := by decide +kernel
theorem dX11_lifeOf_21 : decode cX11_lifeOf 21 = .ok (.ifCond .ne 22, 3) := by decide +kernel
theorem dX11_lifeOf_43 : decode cX11_lifeOf 43 = .ok (.iconst (-1), 1) := by decide +kernel
theorem dX11_lifeOf_44 : decode cX11_lifeOf 44 = .ok (.ireturn, 1) := by decide +kernel
theorem dX11_spareOf_0 : decode cX11_spareOf 0 = .ok (.aload_n 0, 1) := by decide +kernel
theorem dX11_spareOf_1 : decode cX11_spareOf 1 = .ok (.aload_n 0, 1) := by decide +kernel
theorem dX11_spareOf_2 : decode cX11_spareOf 2 = .ok (.iload_n 1, 1) := by decide +kernel
theorem dX11_spareOf_3 : decode cX11_spareOf 3 = .ok (.invokevirtual 119, 3) := by decide +kernel
theorem dX11_spareOf_6 : decode cX11_spareOf 6 = .ok (.ifCond .eq 7, 3) := by decide +kernel
theorem dX11_spareOf_13 : decode cX11_spareOf 13 = .ok (.iconst 1, 1) := by decide +kernel
theorem dX11_spareOf_14 : decode cX11_spareOf 14 = .ok (.putfield 40, 3) := by decide +kernel
theorem dX11_spareOf_17 : decode cX11_spareOf 17 = .ok (.aload_n 0, 1) := by decide +kernel
theorem dX11_spareOf_18 : decode cX11_spareOf 18 = .ok (.getfield 40, 3) := by decide +kernel
theorem dX11_spareOf_21 : decode cX11_spareOf 21 = .ok (.ifCond .ne 22, 3) := by decide +kernel
theorem dX11_spareOf_43 : decode cX11_spareOf 43 = .ok (.iconst (-1), 1) := by decide +kernel
theorem dX11_spareOf_44 : decode cX11_spareOf 44 = .ok (.ireturn, 1) := by decide +kernel
theorem dX11_cellOf_0 : decode cX11_cellOf 0 = .ok (.aload_n 0, 1) := by decide +kernel
theorem dX11_cellOf_1 : decode cX11_cellOf 1 = .ok (.aload_n 0, 1) := by decide +kernel
theorem dX11_cellOf_2 : decode cX11_cellOf 2 = .ok (.iload_n 1, 1) := by decide +kernel
theorem dX11_cellOf_3 : decode cX11_cellOf 3 = .ok (.invokevirtual 119, 3) := by decide +kernel
theorem dX11_cellOf_6 : decode cX11_cellOf 6 = .ok (.ifCond .eq 7, 3) := by decide +kernel
theorem dX11_cellOf_13 : decode cX11_cellOf 13 = .ok (.iconst 1, 1) := by decide +kernel
theorem dX11_cellOf_14 : decode cX11_cellOf 14 = .ok (.putfield 40, 3) := by decide +kernel
theorem dX11_cellOf_17 : decode cX11_cellOf 17 = .ok (.aload_n 0, 1) := by decide +kernel
theorem dX11_cellOf_18 : decode cX11_cellOf 18 = .ok (.getfield 40, 3) := by decide +kernel
theorem dX11_cellOf_21 : decode cX11_cellOf 21 = .ok (.ifCond .ne 42, 3) := by decide +kernel
theorem dX11_cellOf_63 : decode cX11_cellOf 63 = .ok (.iconst (-1), 1) := by decide +kernel
theorem dX11_cellOf_64 : decode cX11_cellOf 64 = .ok (.ireturn, 1) := by decide +kernel
theorem dX11_numberOf_0 : decode cX11_numberOf 0 = .ok (.aload_n 0, 1) := by decide +kernel
theorem dX11_numberOf_1 : decode cX11_numberOf 1 = .ok (.aload_n 0, 1) := by decide +kernel
theorem dX11_numberOf_2 : decode cX11_numberOf 2 = .ok (.iload_n 1, 1) := by decide +kernel
theorem dX11_numberOf_3 : decode cX11_numberOf 3 = .ok (.invokevirtual 119, 3) := by decide +kernel
theorem dX11_numberOf_6 : decode cX11_numberOf 6 = .ok (.ifCond .ne 7, 3) := by decide +kernel
theorem dX11_numberOf_9 : decode cX11_numberOf 9 = .ok (.iconst 1, 1) := by decide +kernel
theorem dX11_numberOf_10 : decode cX11_numberOf 10 = .ok (.goto 17, 3) := by decide +kernel
theorem dX11_numberOf_27 : decode cX11_numberOf 27 = .ok (.putfield 40, 3) := by decide +kernel
theorem dX11_numberOf_30 : decode cX11_numberOf 30 = .ok (.aload_n 0, 1) := by decide +kernel
theorem dX11_numberOf_31 : decode cX11_numberOf 31 = .ok (.getfield 40, 3) := by decide +kernel
theorem dX11_numberOf_34 : decode cX11_numberOf 34 = .ok (.ifCond .ne 24, 3) := by decide +kernel
theorem dX11_numberOf_58 : decode cX11_numberOf 58 = .ok (.iconst (-1), 1) := by decide +kernel
theorem dX11_numberOf_59 : decode cX11_numberOf 59 = .ok (.ireturn, 1) := by decide +kernel
theorem dX11_attack_0 : decode cX11_attack 0 = .ok (.aload_n 0, 1) := by decide +kernel
theorem dX11_attack_1 : decode cX11_attack 1 = .ok (.aload_n 0, 1) := by decide +kernel
theorem dX11_attack_2 : decode cX11_attack 2 = .ok (.iload_n 1, 1) := by decide +kernel
theorem dX11_attack_3 : decode cX11_attack 3 = .ok (.invokevirtual 119, 3) := by decide +kernel
theorem dX11_attack_6 : decode cX11_attack 6 = .ok (.ifCond .ne 7, 3) := by decide +kernel
theorem dX11_attack_9 : decode cX11_attack 9 = .ok (.iconst 1, 1) := by decide +kernel
theorem dX11_attack_10 : decode cX11_attack 10 = .ok (.goto 63, 3) := by decide +kernel
theorem dX11_attack_73 : decode cX11_attack 73 = .ok (.putfield 40, 3) := by decide +kernel
theorem dX11_attack_76 : decode cX11_attack 76 = .ok (.aload_n 0, 1) := by decide +kernel
theorem dX11_attack_77 : decode cX11_attack 77 = .ok (.getfield 40, 3) := by decide +kernel
theorem dX11_attack_80 : decode cX11_attack 80 = .ok (.ifCond .le 5, 3) := by decide +kernel
theorem dX11_attack_83 : decode cX11_attack 83 = .ok (.iconst (-1), 1) := by decide +kernel
theorem dX11_attack_84 : decode cX11_attack 84 = .ok (.ireturn, 1) := by decide +kernel
theorem dX11_slots_0 : decode cX11_slots 0 = .ok (.aload_n 0, 1) := by decide +kernel
theorem dX11_slots_1 : decode cX11_slots 1 = .ok (.aload_n 0, 1) := by decide +kernel
theorem dX11_slots_2 : decode cX11_slots 2 = .ok (.iload_n 1, 1) := by decide +kernel
theorem dX11_slots_3 : decode cX11_slots 3 = .ok (.invokevirtual 119, 3) := by decide +kernel
theorem dX11_slots_6 : decode cX11_slots 6 = .ok (.ifCond .eq 7, 3) := by decide +kernel
theorem dX11_slots_13 : decode cX11_slots 13 = .ok (.iconst 1, 1) := by decide +kernel
theorem dX11_slots_14 : decode cX11_slots 14 = .ok (.putfield 40, 3) := by decide +kernel
theorem dX11_slots_17 : decode cX11_slots 17 = .ok (.aload_n 0, 1) := by decide +kernel
theorem dX11_slots_18 : decode cX11_slots 18 = .ok (.getfield 40, 3) := by decide +kernel
theorem dX11_slots_21 : decode cX11_slots 21 = .ok (.ifCond .ne 22, 3) := by decide +kernel
theorem dX11_slots_43 : decode cX11_slots 43 = .ok (.iconst (-1), 1) := by decide +kernel
theorem dX11_slots_44 : decode cX11_slots 44 = .ok (.ireturn, 1) := by decide +kernel
theorem dX11_sees_0 : decode cX11_sees 0 = .ok (.aload_n 0, 1) := by decide +kernel
theorem dX11_sees_1 : decode cX11_sees 1 = .ok (.aload_n 0, 1) := by decide +kernel
theorem dX11_sees_2 : decode cX11_sees 2 = .ok (.iload_n 1, 1) := by decide +kernel
theorem dX11_sees_3 : decode cX11_sees 3 = .ok (.invokevirtual 119, 3) := by decide +kernel
theorem dX11_sees_6 : decode cX11_sees 6 = .ok (.ifCond .ne 7, 3) := by decide +kernel
theorem dX11_sees_9 : decode cX11_sees 9 = .ok (.iconst 1, 1) := by decide +kernel
theorem dX11_sees_10 : decode cX11_sees 10 = .ok (.goto 16, 3) := by decide +kernel
theorem dX11_sees_26 : decode cX11_sees 26 = .ok (.putfield 40, 3) := by decide +kernel
theorem dX11_sees_29 : decode cX11_sees 29 = .ok (.aload_n 0, 1) := by decide +kernel
theorem dX11_sees_30 : decode cX11_sees 30 = .ok (.getfield 40, 3) := by decide +kernel
theorem dX11_sees_33 : decode cX11_sees 33 = .ok (.ifCond .ne 29, 3) := by decide +kernel
theorem dX11_sees_62 : decode cX11_sees 62 = .ok (.iconst 0, 1) := by decide +kernel
theorem dX11_sees_63 : decode cX11_sees 63 = .ok (.ireturn, 1) := by decide +kernel
theorem dX11_setImmune_0 : decode cX11_setImmune 0 = .ok (.aload_n 0, 1) := by decide +kernel
theorem dX11_setImmune_1 : decode cX11_setImmune 1 = .ok (.aload_n 0, 1) := by decide +kernel
theorem dX11_setImmune_2 : decode cX11_setImmune 2 = .ok (.iload_n 1, 1) := by decide +kernel
theorem dX11_setImmune_3 : decode cX11_setImmune 3 = .ok (.invokevirtual 119, 3) := by decide +kernel
theorem dX11_setImmune_6 : decode cX11_setImmune 6 = .ok (.ifCond .ne 7, 3) := by decide +kernel
theorem dX11_setImmune_9 : decode cX11_setImmune 9 = .ok (.iconst 1, 1) := by decide +kernel
theorem dX11_setImmune_10 : decode cX11_setImmune 10 = .ok (.goto 17, 3) := by decide +kernel
theorem dX11_setImmune_27 : decode cX11_setImmune 27 = .ok (.putfield 40, 3) := by decide +kernel
theorem dX11_setImmune_30 : decode cX11_setImmune 30 = .ok (.aload_n 0, 1) := by decide +kernel
theorem dX11_setImmune_31 : decode cX11_setImmune 31 = .ok (.getfield 40, 3) := by decide +kernel
theorem dX11_setImmune_34 : decode cX11_setImmune 34 = .ok (.ifCond .le 5, 3) := by decide +kernel
theorem dX11_setImmune_37 : decode cX11_setImmune 37 = .ok (.iconst 0, 1) := by decide +kernel
theorem dX11_setImmune_38 : decode cX11_setImmune 38 = .ok (.ireturn, 1) := by decide +kernel
theorem dX11_canReact_0 : decode cX11_canReact 0 = .ok (.aload_n 0, 1) := by decide +kernel
theorem dX11_canReact_1 : decode cX11_canReact 1 = .ok (.aload_n 0, 1) := by decide +kernel
theorem dX11_canReact_2 : decode cX11_canReact 2 = .ok (.iload_n 1, 1) := by decide +kernel
theorem dX11_canReact_3 : decode cX11_canReact 3 = .ok (.invokevirtual 119, 3) := by decide +kernel
theorem dX11_canReact_6 : decode cX11_canReact 6 = .ok (.ifCond .eq 7, 3) := by decide +kernel
theorem dX11_canReact_13 : decode cX11_canReact 13 = .ok (.iconst 1, 1) := by decide +kernel
theorem dX11_canReact_14 : decode cX11_canReact 14 = .ok (.putfield 40, 3) := by decide +kernel
theorem dX11_canReact_17 : decode cX11_canReact 17 = .ok (.aload_n 0, 1) := by decide +kernel
theorem dX11_canReact_18 : decode cX11_canReact 18 = .ok (.getfield 40, 3) := by decide +kernel
theorem dX11_canReact_21 : decode cX11_canReact 21 = .ok (.ifCond .ne 26, 3) := by decide +kernel
theorem dX11_canReact_47 : decode cX11_canReact 47 = .ok (.iconst 0, 1) := by decide +kernel
theorem dX11_canReact_48 : decode cX11_canReact 48 = .ok (.ireturn, 1) := by decide +kernel
theorem dX11_has__0 : decode cX11_has_ 0 = .ok (.aload_n 0, 1) := by decide +kernel
theorem dX11_has__1 : decode cX11_has_ 1 = .ok (.aload_n 0, 1) := by decide +kernel
theorem dX11_has__2 : decode cX11_has_ 2 = .ok (.iload_n 1, 1) := by decide +kernel
theorem dX11_has__3 : decode cX11_has_ 3 = .ok (.invokevirtual 119, 3) := by decide +kernel
theorem dX11_has__6 : decode cX11_has_ 6 = .ok (.ifCond .ne 7, 3) := by decide +kernel
theorem dX11_has__9 : decode cX11_has_ 9 = .ok (.iconst 1, 1) := by decide +kernel
theorem dX11_has__10 : decode cX11_has_ 10 = .ok (.goto 17, 3) := by decide +kernel
theorem dX11_has__27 : decode cX11_has_ 27 = .ok (.putfield 40, 3) := by decide +kernel
theorem dX11_has__30 : decode cX11_has_ 30 = .ok (.aload_n 0, 1) := by decide +kernel
theorem dX11_has__31 : decode cX11_has_ 31 = .ok (.getfield 40, 3) := by decide +kernel
theorem dX11_has__34 : decode cX11_has_ 34 = .ok (.ifCond .ne 28, 3) := by decide +kernel
theorem dX11_has__62 : decode cX11_has_ 62 = .ok (.iconst 0, 1) := by decide +kernel
theorem dX11_has__63 : decode cX11_has_ 63 = .ok (.ireturn, 1) := by decide +kernel
theorem dX11_minds__0 : decode cX11_minds_ 0 = .ok (.aload_n 0, 1) := by decide +kernel
theorem dX11_minds__1 : decode cX11_minds_ 1 = .ok (.aload_n 0, 1) := by decide +kernel
theorem dX11_minds__2 : decode cX11_minds_ 2 = .ok (.iload_n 1, 1) := by decide +kernel
theorem dX11_minds__3 : decode cX11_minds_ 3 = .ok (.invokevirtual 119, 3) := by decide +kernel
theorem dX11_minds__6 : decode cX11_minds_ 6 = .ok (.ifCond .eq 7, 3) := by decide +kernel
theorem dX11_minds__13 : decode cX11_minds_ 13 = .ok (.iconst 1, 1) := by decide +kernel
theorem dX11_minds__14 : decode cX11_minds_ 14 = .ok (.putfield 40, 3) := by decide +kernel
theorem dX11_minds__17 : decode cX11_minds_ 17 = .ok (.aload_n 0, 1) := by decide +kernel
theorem dX11_minds__18 : decode cX11_minds_ 18 = .ok (.getfield 40, 3) := by decide +kernel
theorem dX11_minds__21 : decode cX11_minds_ 21 = .ok (.ifCond .ne 27, 3) := by decide +kernel
theorem dX11_minds__48 : decode cX11_minds_ 48 = .ok (.iconst 0, 1) := by decide +kernel
theorem dX11_minds__49 : decode cX11_minds_ 49 = .ok (.ireturn, 1) := by decide +kernel
theorem dX11_numberAnew_0 : decode cX11_numberAnew 0 = .ok (.aload_n 0, 1) := by decide +kernel
theorem dX11_numberAnew_1 : decode cX11_numberAnew 1 = .ok (.iload_n 1, 1) := by decide +kernel
theorem dX11_numberAnew_2 : decode cX11_numberAnew 2 = .ok (.iload_n 2, 1) := by decide +kernel
theorem dX11_numberAnew_3 : decode cX11_numberAnew 3 = .ok (.invokevirtual 220, 3) := by decide +kernel
theorem dX11_numberAnew_6 : decode cX11_numberAnew 6 = .ok (.ireturn, 1) := by decide +kernel
theorem dX11_addSource_0 : decode cX11_addSource 0 = .ok (.ldc 123, 2) := by decide +kernel
theorem dX11_addSource_2 : decode cX11_addSource 2 = .ok (.iload_n 2, 1) := by decide +kernel
theorem dX11_addSource_3 : decode cX11_addSource 3 = .ok (.invokevirtual 113, 3) := by decide +kernel
theorem dX11_addSource_6 : decode cX11_addSource 6 = .ok (.ifCond .lt 66, 3) := by decide +kernel
theorem dX11_addSource_9 : decode cX11_addSource 9 = .ok (.ldc 190, 2) := by decide +kernel
theorem dX11_addSource_11 : decode cX11_addSource 11 = .ok (.iload_n 3, 1) := by decide +kernel
theorem dX11_addSource_12 : decode cX11_addSource 12 = .ok (.invokevirtual 113, 3) := by decide +kernel
theorem dX11_addSource_15 : decode cX11_addSource 15 = .ok (.ifCond .lt 57, 3) := by decide +kernel
theorem dX11_addSource_18 : decode cX11_addSource 18 = .ok (.iload_n 3, 1) := by decide +kernel
theorem dX11_addSource_19 : decode cX11_addSource 19 = .ok (.bipush 61, 2) := by decide +kernel
theorem dX11_addSource_21 : decode cX11_addSource 21 = .ok (.if_icmp .ne 21, 3) := by decide +kernel
theorem dX11_addSource_24 : decode cX11_addSource 24 = .ok (.iload 4, 2) := by decide +kernel
theorem dX11_addSource_26 : decode cX11_addSource 26 = .ok (.i2l, 1) := by decide +kernel
theorem dX11_addSource_27 : decode cX11_addSource 27 = .ok (.ldc2_w 125, 3) := by decide +kernel
theorem dX11_addSource_30 : decode cX11_addSource 30 = .ok (.ldc2_w 127, 3) := by decide +kernel
theorem dX11_addSource_33 : decode cX11_addSource 33 = .ok (.invokestatic 49, 3) := by decide +kernel
theorem dX11_addSource_36 : decode cX11_addSource 36 = .ok (.ifCond .eq 36, 3) := by decide +kernel
theorem dX11_addSource_39 : decode cX11_addSource 39 = .ok (.goto 16, 3) := by decide +kernel
theorem dX11_addSource_42 : decode cX11_addSource 42 = .ok (.iload 4, 2) := by decide +kernel
theorem dX11_addSource_44 : decode cX11_addSource 44 = .ok (.i2l, 1) := by decide +kernel
theorem dX11_addSource_45 : decode cX11_addSource 45 = .ok (.lconst 1, 1) := by decide +kernel
theorem dX11_addSource_46 : decode cX11_addSource 46 = .ok (.ldc2_w 192, 3) := by decide +kernel
theorem dX11_addSource_49 : decode cX11_addSource 49 = .ok (.invokestatic 49, 3) := by decide +kernel
theorem dX11_addSource_52 : decode cX11_addSource 52 = .ok (.ifCond .eq 20, 3) := by decide +kernel
theorem dX11_addSource_55 : decode cX11_addSource 55 = .ok (.iload 5, 2) := by decide +kernel
theorem dX11_addSource_57 : decode cX11_addSource 57 = .ok (.i2l, 1) := by decide +kernel
theorem dX11_addSource_58 : decode cX11_addSource 58 = .ok (.lconst 0, 1) := by decide +kernel
theorem dX11_addSource_59 : decode cX11_addSource 59 = .ok (.ldc2_w 192, 3) := by decide +kernel
theorem dX11_addSource_62 : decode cX11_addSource 62 = .ok (.invokestatic 49, 3) := by decide +kernel
theorem dX11_addSource_65 : decode cX11_addSource 65 = .ok (.ifCond .eq 7, 3) := by decide +kernel
theorem dX11_addSource_68 : decode cX11_addSource 68 = .ok (.iconst 1, 1) := by decide +kernel
theorem dX11_addSource_69 : decode cX11_addSource 69 = .ok (.goto 4, 3) := by decide +kernel
theorem dX11_addSource_72 : decode cX11_addSource 72 = .ok (.iconst 0, 1) := by decide +kernel
theorem dX11_addSource_73 : decode cX11_addSource 73 = .ok (.istore 7, 2) := by decide +kernel
theorem dX11_addSource_75 : decode cX11_addSource 75 = .ok (.aload_n 0, 1) := by decide +kernel
theorem dX11_addSource_76 : decode cX11_addSource 76 = .ok (.aload_n 0, 1) := by decide +kernel
theorem dX11_addSource_77 : decode cX11_addSource 77 = .ok (.iload_n 1, 1) := by decide +kernel
theorem dX11_addSource_78 : decode cX11_addSource 78 = .ok (.invokevirtual 119, 3) := by decide +kernel
theorem dX11_addSource_81 : decode cX11_addSource 81 = .ok (.ifCond .eq 12, 3) := by decide +kernel
theorem dX11_addSource_93 : decode cX11_addSource 93 = .ok (.iconst 1, 1) := by decide +kernel
theorem dX11_addSource_94 : decode cX11_addSource 94 = .ok (.goto 31, 3) := by decide +kernel
theorem dX11_addSource_125 : decode cX11_addSource 125 = .ok (.putfield 40, 3) := by decide +kernel
theorem dX11_addSource_128 : decode cX11_addSource 128 = .ok (.aload_n 0, 1) := by decide +kernel
theorem dX11_addSource_129 : decode cX11_addSource 129 = .ok (.getfield 40, 3) := by decide +kernel
theorem dX11_addSource_132 : decode cX11_addSource 132 = .ok (.ifCond .le 5, 3) := by decide +kernel
theorem dX11_addSource_135 : decode cX11_addSource 135 = .ok (.iconst (-1), 1) := by decide +kernel
theorem dX11_addSource_136 : decode cX11_addSource 136 = .ok (.ireturn, 1) := by decide +kernel
theorem dX11_afflict_0 : decode cX11_afflict 0 = .ok (.ldc 197, 2) := by decide +kernel
theorem dX11_afflict_2 : decode cX11_afflict 2 = .ok (.iload_n 2, 1) := by decide +kernel
theorem dX11_afflict_3 : decode cX11_afflict 3 = .ok (.invokevirtual 113, 3) := by decide +kernel
theorem dX11_afflict_6 : decode cX11_afflict 6 = .ok (.ifCond .lt 32, 3) := by decide +kernel
theorem dX11_afflict_9 : decode cX11_afflict 9 = .ok (.iload_n 3, 1) := by decide +kernel
theorem dX11_afflict_10 : decode cX11_afflict 10 = .ok (.i2l, 1) := by decide +kernel
theorem dX11_afflict_11 : decode cX11_afflict 11 = .ok (.lconst 0, 1) := by decide +kernel
theorem dX11_afflict_12 : decode cX11_afflict 12 = .ok (.ldc2_w 92, 3) := by decide +kernel
theorem dX11_afflict_15 : decode cX11_afflict 15 = .ok (.invokestatic 49, 3) := by decide +kernel
theorem dX11_afflict_18 : decode cX11_afflict 18 = .ok (.ifCond .eq 20, 3) := by decide +kernel
theorem dX11_afflict_21 : decode cX11_afflict 21 = .ok (.iload 4, 2) := by decide +kernel
theorem dX11_afflict_23 : decode cX11_afflict 23 = .ok (.i2l, 1) := by decide +kernel
theorem dX11_afflict_24 : decode cX11_afflict 24 = .ok (.lconst 0, 1) := by decide +kernel
theorem dX11_afflict_25 : decode cX11_afflict 25 = .ok (.ldc2_w 192, 3) := by decide +kernel
theorem dX11_afflict_28 : decode cX11_afflict 28 = .ok (.invokestatic 49, 3) := by decide +kernel
theorem dX11_afflict_31 : decode cX11_afflict 31 = .ok (.ifCond .eq 7, 3) := by decide +kernel
theorem dX11_afflict_34 : decode cX11_afflict 34 = .ok (.iconst 1, 1) := by decide +kernel
theorem dX11_afflict_35 : decode cX11_afflict 35 = .ok (.goto 4, 3) := by decide +kernel
theorem dX11_afflict_38 : decode cX11_afflict 38 = .ok (.iconst 0, 1) := by decide +kernel
theorem dX11_afflict_39 : decode cX11_afflict 39 = .ok (.istore 6, 2) := by decide +kernel
theorem dX11_afflict_41 : decode cX11_afflict 41 = .ok (.aload_n 0, 1) := by decide +kernel
theorem dX11_afflict_42 : decode cX11_afflict 42 = .ok (.aload_n 0, 1) := by decide +kernel
theorem dX11_afflict_43 : decode cX11_afflict 43 = .ok (.iload_n 1, 1) := by decide +kernel
theorem dX11_afflict_44 : decode cX11_afflict 44 = .ok (.invokevirtual 119, 3) := by decide +kernel
theorem dX11_afflict_47 : decode cX11_afflict 47 = .ok (.ifCond .eq 12, 3) := by decide +kernel
theorem dX11_afflict_59 : decode cX11_afflict 59 = .ok (.iconst 1, 1) := by decide +kernel
theorem dX11_afflict_60 : decode cX11_afflict 60 = .ok (.goto 31, 3) := by decide +kernel
theorem dX11_afflict_91 : decode cX11_afflict 91 = .ok (.putfield 40, 3) := by decide +kernel
theorem dX11_afflict_94 : decode cX11_afflict 94 = .ok (.aload_n 0, 1) := by decide +kernel
theorem dX11_afflict_95 : decode cX11_afflict 95 = .ok (.getfield 40, 3) := by decide +kernel
theorem dX11_afflict_98 : decode cX11_afflict 98 = .ok (.ifCond .le 5, 3) := by decide +kernel
theorem dX11_afflict_101 : decode cX11_afflict 101 = .ok (.iconst (-1), 1) := by decide +kernel
theorem dX11_afflict_102 : decode cX11_afflict 102 = .ok (.ireturn, 1) := by decide +kernel
theorem dX11_endSource_0 : decode cX11_endSource 0 = .ok (.aload_n 0, 1) := by decide +kernel
theorem dX11_endSource_1 : decode cX11_endSource 1 = .ok (.iload_n 1, 1) := by decide +kernel
theorem dX11_endSource_2 : decode cX11_endSource 2 = .ok (.i2l, 1) := by decide +kernel
theorem dX11_endSource_3 : decode cX11_endSource 3 = .ok (.lconst 0, 1) := by decide +kernel
theorem dX11_endSource_4 : decode cX11_endSource 4 = .ok (.aload_n 0, 1) := by decide +kernel
theorem dX11_endSource_5 : decode cX11_endSource 5 = .ok (.getfield 20, 3) := by decide +kernel
theorem dX11_endSource_8 : decode cX11_endSource 8 = .ok (.invokeinterface 43 1, 5) := by decide +kernel
theorem dX11_endSource_13 : decode cX11_endSource 13 = .ok (.iconst 1, 1) := by decide +kernel
theorem dX11_endSource_14 : decode cX11_endSource 14 = .ok (.isub, 1) := by decide +kernel
theorem dX11_endSource_15 : decode cX11_endSource 15 = .ok (.i2l, 1) := by decide +kernel
theorem dX11_endSource_16 : decode cX11_endSource 16 = .ok (.invokestatic 49, 3) := by decide +kernel
theorem dX11_endSource_19 : decode cX11_endSource 19 = .ok (.ifCond .eq 7, 3) := by decide +kernel
theorem dX11_endSource_26 : decode cX11_endSource 26 = .ok (.iconst 1, 1) := by decide +kernel
theorem dX11_endSource_27 : decode cX11_endSource 27 = .ok (.putfield 40, 3) := by decide +kernel
theorem dX11_endSource_30 : decode cX11_endSource 30 = .ok (.aload_n 0, 1) := by decide +kernel
theorem dX11_endSource_31 : decode cX11_endSource 31 = .ok (.getfield 40, 3) := by decide +kernel
theorem dX11_endSource_34 : decode cX11_endSource 34 = .ok (.ifCond .le 5, 3) := by decide +kernel
theorem dX11_endSource_37 : decode cX11_endSource 37 = .ok (.iconst 0, 1) := by decide +kernel
theorem dX11_endSource_38 : decode cX11_endSource 38 = .ok (.ireturn, 1) := by decide +kernel
theorem dX11_isLive_0 : decode cX11_isLive 0 = .ok (.aload_n 0, 1) := by decide +kernel
theorem dX11_isLive_1 : decode cX11_isLive 1 = .ok (.iload_n 1, 1) := by decide +kernel
theorem dX11_isLive_2 : decode cX11_isLive 2 = .ok (.i2l, 1) := by decide +kernel
theorem dX11_isLive_3 : decode cX11_isLive 3 = .ok (.lconst 0, 1) := by decide +kernel
theorem dX11_isLive_4 : decode cX11_isLive 4 = .ok (.aload_n 0, 1) := by decide +kernel
theorem dX11_isLive_5 : decode cX11_isLive 5 = .ok (.getfield 20, 3) := by decide +kernel
theorem dX11_isLive_8 : decode cX11_isLive 8 = .ok (.invokeinterface 43 1, 5) := by decide +kernel
theorem dX11_isLive_13 : decode cX11_isLive 13 = .ok (.iconst 1, 1) := by decide +kernel
theorem dX11_isLive_14 : decode cX11_isLive 14 = .ok (.isub, 1) := by decide +kernel
theorem dX11_isLive_15 : decode cX11_isLive 15 = .ok (.i2l, 1) := by decide +kernel
theorem dX11_isLive_16 : decode cX11_isLive 16 = .ok (.invokestatic 49, 3) := by decide +kernel
theorem dX11_isLive_19 : decode cX11_isLive 19 = .ok (.ifCond .eq 7, 3) := by decide +kernel
theorem dX11_isLive_26 : decode cX11_isLive 26 = .ok (.iconst 1, 1) := by decide +kernel
theorem dX11_isLive_27 : decode cX11_isLive 27 = .ok (.putfield 40, 3) := by decide +kernel
theorem dX11_isLive_30 : decode cX11_isLive 30 = .ok (.aload_n 0, 1) := by decide +kernel
theorem dX11_isLive_31 : decode cX11_isLive 31 = .ok (.getfield 40, 3) := by decide +kernel
theorem dX11_isLive_34 : decode cX11_isLive 34 = .ok (.ifCond .ne 26, 3) := by decide +kernel
theorem dX11_isLive_60 : decode cX11_isLive 60 = .ok (.iconst 0, 1) := by decide +kernel
theorem dX11_isLive_61 : decode cX11_isLive 61 = .ok (.ireturn, 1) := by decide +kernel
theorem dX11_sources_0 : decode cX11_sources 0 = .ok (.aload_n 0, 1) := by decide +kernel
theorem dX11_sources_1 : decode cX11_sources 1 = .ok (.iconst 0, 1) := by decide +kernel
theorem dX11_sources_2 : decode cX11_sources 2 = .ok (.putfield 40, 3) := by decide +kernel
theorem dX11_sources_5 : decode cX11_sources 5 = .ok (.aload_n 0, 1) := by decide +kernel
theorem dX11_sources_6 : decode cX11_sources 6 = .ok (.getfield 20, 3) := by decide +kernel
theorem dX11_sources_9 : decode cX11_sources 9 = .ok (.invokeinterface 43 1, 5) := by decide +kernel
theorem dX11_sources_14 : decode cX11_sources 14 = .ok (.ireturn, 1) := by decide +kernel
theorem dX11_kept_0 : decode cX11_kept 0 = .ok (.aload_n 0, 1) := by decide +kernel
theorem dX11_kept_1 : decode cX11_kept 1 = .ok (.iconst 0, 1) := by decide +kernel
theorem dX11_kept_2 : decode cX11_kept 2 = .ok (.putfield 40, 3) := by decide +kernel
theorem dX11_kept_5 : decode cX11_kept 5 = .ok (.aload_n 0, 1) := by decide +kernel
theorem dX11_kept_6 : decode cX11_kept 6 = .ok (.getfield 30, 3) := by decide +kernel
theorem dX11_kept_9 : decode cX11_kept 9 = .ok (.invokeinterface 43 1, 5) := by decide +kernel
theorem dX11_kept_14 : decode cX11_kept 14 = .ok (.ireturn, 1) := by decide +kernel
theorem dX11_dice_0 : decode cX11_dice 0 = .ok (.aload_n 0, 1) := by decide +kernel
theorem dX11_dice_1 : decode cX11_dice 1 = .ok (.iconst 0, 1) := by decide +kernel
theorem dX11_dice_2 : decode cX11_dice 2 = .ok (.putfield 40, 3) := by decide +kernel
theorem dX11_dice_5 : decode cX11_dice 5 = .ok (.aload_n 0, 1) := by decide +kernel
theorem dX11_dice_6 : decode cX11_dice 6 = .ok (.getfield 26, 3) := by decide +kernel
theorem dX11_dice_9 : decode cX11_dice 9 = .ok (.invokevirtual 252, 3) := by decide +kernel
theorem dX11_dice_12 : decode cX11_dice 12 = .ok (.ireturn, 1) := by decide +kernel
theorem dX11_round_0 : decode cX11_round 0 = .ok (.aload_n 0, 1) := by decide +kernel
theorem dX11_round_1 : decode cX11_round 1 = .ok (.iconst 0, 1) := by decide +kernel
theorem dX11_round_2 : decode cX11_round 2 = .ok (.putfield 40, 3) := by decide +kernel
theorem dX11_round_5 : decode cX11_round 5 = .ok (.aload_n 0, 1) := by decide +kernel
theorem dX11_round_6 : decode cX11_round 6 = .ok (.getfield 288, 3) := by decide +kernel
theorem dX11_round_9 : decode cX11_round 9 = .ok (.ireturn, 1) := by decide +kernel
theorem dX11_harmDone_0 : decode cX11_harmDone 0 = .ok (.aload_n 0, 1) := by decide +kernel
theorem dX11_harmDone_1 : decode cX11_harmDone 1 = .ok (.iconst 0, 1) := by decide +kernel
theorem dX11_harmDone_2 : decode cX11_harmDone 2 = .ok (.putfield 40, 3) := by decide +kernel
theorem dX11_harmDone_5 : decode cX11_harmDone 5 = .ok (.aload_n 0, 1) := by decide +kernel
theorem dX11_harmDone_6 : decode cX11_harmDone 6 = .ok (.getfield 331, 3) := by decide +kernel
theorem dX11_harmDone_9 : decode cX11_harmDone 9 = .ok (.lreturn, 1) := by decide +kernel
theorem dX11_tellDie_0 : decode cX11_tellDie 0 = .ok (.aload_n 0, 1) := by decide +kernel
theorem dX11_tellDie_1 : decode cX11_tellDie 1 = .ok (.iload_n 1, 1) := by decide +kernel
theorem dX11_tellDie_2 : decode cX11_tellDie 2 = .ok (.i2l, 1) := by decide +kernel
theorem dX11_tellDie_3 : decode cX11_tellDie 3 = .ok (.lconst 1, 1) := by decide +kernel
theorem dX11_tellDie_4 : decode cX11_tellDie 4 = .ok (.ldc2_w 242, 3) := by decide +kernel
theorem dX11_tellDie_7 : decode cX11_tellDie 7 = .ok (.invokestatic 49, 3) := by decide +kernel
theorem dX11_tellDie_10 : decode cX11_tellDie 10 = .ok (.ifCond .eq 7, 3) := by decide +kernel
theorem dX11_tellDie_13 : decode cX11_tellDie 13 = .ok (.iconst 0, 1) := by decide +kernel
theorem dX11_tellDie_14 : decode cX11_tellDie 14 = .ok (.goto 4, 3) := by decide +kernel
theorem dX11_tellDie_17 : decode cX11_tellDie 17 = .ok (.iconst 1, 1) := by decide +kernel
theorem dX11_tellDie_18 : decode cX11_tellDie 18 = .ok (.putfield 40, 3) := by decide +kernel
theorem dX11_tellDie_21 : decode cX11_tellDie 21 = .ok (.aload_n 0, 1) := by decide +kernel
theorem dX11_tellDie_22 : decode cX11_tellDie 22 = .ok (.getfield 40, 3) := by decide +kernel
theorem dX11_tellDie_25 : decode cX11_tellDie 25 = .ok (.ifCond .le 5, 3) := by decide +kernel
theorem dX11_tellDie_28 : decode cX11_tellDie 28 = .ok (.iconst (-1), 1) := by decide +kernel
theorem dX11_tellDie_29 : decode cX11_tellDie 29 = .ok (.ireturn, 1) := by decide +kernel
theorem dX11_tellDie_30 : decode cX11_tellDie 30 = .ok (.aload_n 0, 1) := by decide +kernel
theorem dX11_tellDie_31 : decode cX11_tellDie 31 = .ok (.bipush 68, 2) := by decide +kernel
theorem dX11_tellDie_33 : decode cX11_tellDie 33 = .ok (.iconst 1, 1) := by decide +kernel
theorem dX11_tellDie_34 : decode cX11_tellDie 34 = .ok (.newarray .int, 2) := by decide +kernel
theorem dX11_tellDie_36 : decode cX11_tellDie 36 = .ok (.dup, 1) := by decide +kernel
theorem dX11_tellDie_37 : decode cX11_tellDie 37 = .ok (.iconst 0, 1) := by decide +kernel
theorem dX11_tellDie_38 : decode cX11_tellDie 38 = .ok (.iload_n 1, 1) := by decide +kernel
theorem dX11_tellDie_39 : decode cX11_tellDie 39 = .ok (.iastore, 1) := by decide +kernel
theorem dX11_tellDie_40 : decode cX11_tellDie 40 = .ok (.invokevirtual 105, 3) := by decide +kernel
theorem dX11_tellDie_43 : decode cX11_tellDie 43 = .ok (.aload_n 0, 1) := by decide +kernel
theorem dX11_tellDie_44 : decode cX11_tellDie 44 = .ok (.getfield 26, 3) := by decide +kernel
theorem dX11_tellDie_47 : decode cX11_tellDie 47 = .ok (.iload_n 1, 1) := by decide +kernel
theorem dX11_tellDie_48 : decode cX11_tellDie 48 = .ok (.invokestatic 244, 3) := by decide +kernel
theorem dX11_tellDie_51 : decode cX11_tellDie 51 = .ok (.invokevirtual 248, 3) := by decide +kernel
theorem dX11_tellDie_54 : decode cX11_tellDie 54 = .ok (.aload_n 0, 1) := by decide +kernel
theorem dX11_tellDie_55 : decode cX11_tellDie 55 = .ok (.getfield 26, 3) := by decide +kernel
theorem dX11_tellDie_58 : decode cX11_tellDie 58 = .ok (.invokevirtual 252, 3) := by decide +kernel
theorem dX11_tellDie_61 : decode cX11_tellDie 61 = .ok (.ireturn, 1) := by decide +kernel
theorem dX11_begin_0 : decode cX11_begin 0 = .ok (.aload_n 0, 1) := by decide +kernel
theorem dX11_begin_1 : decode cX11_begin 1 = .ok (.aload_n 0, 1) := by decide +kernel
theorem dX11_begin_2 : decode cX11_begin 2 = .ok (.getfield 10, 3) := by decide +kernel
theorem dX11_begin_5 : decode cX11_begin 5 = .ok (.invokeinterface 278 1, 5) := by decide +kernel
theorem dX11_begin_10 : decode cX11_begin 10 = .ok (.ifCond .eq 7, 3) := by decide +kernel
theorem dX11_begin_13 : decode cX11_begin 13 = .ok (.iconst 1, 1) := by decide +kernel
theorem dX11_begin_14 : decode cX11_begin 14 = .ok (.goto 15, 3) := by decide +kernel
theorem dX11_begin_29 : decode cX11_begin 29 = .ok (.putfield 40, 3) := by decide +kernel
theorem dX11_begin_32 : decode cX11_begin 32 = .ok (.aload_n 0, 1) := by decide +kernel
theorem dX11_begin_33 : decode cX11_begin 33 = .ok (.getfield 40, 3) := by decide +kernel
theorem dX11_begin_36 : decode cX11_begin 36 = .ok (.ifCond .le 5, 3) := by decide +kernel
theorem dX11_begin_39 : decode cX11_begin 39 = .ok (.iconst (-1), 1) := by decide +kernel
theorem dX11_begin_40 : decode cX11_begin 40 = .ok (.ireturn, 1) := by decide +kernel
theorem dX11_endTurn_0 : decode cX11_endTurn 0 = .ok (.aload_n 0, 1) := by decide +kernel
theorem dX11_endTurn_1 : decode cX11_endTurn 1 = .ok (.aload_n 0, 1) := by decide +kernel
theorem dX11_endTurn_2 : decode cX11_endTurn 2 = .ok (.invokevirtual 98, 3) := by decide +kernel
theorem dX11_endTurn_5 : decode cX11_endTurn 5 = .ok (.ifCond .eq 7, 3) := by decide +kernel
theorem dX11_endTurn_12 : decode cX11_endTurn 12 = .ok (.iconst 1, 1) := by decide +kernel
theorem dX11_endTurn_13 : decode cX11_endTurn 13 = .ok (.putfield 40, 3) := by decide +kernel
theorem dX11_endTurn_16 : decode cX11_endTurn 16 = .ok (.aload_n 0, 1) := by decide +kernel
theorem dX11_endTurn_17 : decode cX11_endTurn 17 = .ok (.getfield 40, 3) := by decide +kernel
theorem dX11_endTurn_20 : decode cX11_endTurn 20 = .ok (.ifCond .le 5, 3) := by decide +kernel
theorem dX11_endTurn_23 : decode cX11_endTurn 23 = .ok (.iconst (-1), 1) := by decide +kernel
theorem dX11_endTurn_24 : decode cX11_endTurn 24 = .ok (.ireturn, 1) := by decide +kernel
theorem dX11_rest_0 : decode cX11_rest 0 = .ok (.aload_n 0, 1) := by decide +kernel
theorem dX11_rest_1 : decode cX11_rest 1 = .ok (.aload_n 0, 1) := by decide +kernel
theorem dX11_rest_2 : decode cX11_rest 2 = .ok (.invokevirtual 98, 3) := by decide +kernel
theorem dX11_rest_5 : decode cX11_rest 5 = .ok (.ifCond .eq 7, 3) := by decide +kernel
theorem dX11_rest_12 : decode cX11_rest 12 = .ok (.iconst 1, 1) := by decide +kernel
theorem dX11_rest_13 : decode cX11_rest 13 = .ok (.putfield 40, 3) := by decide +kernel
theorem dX11_rest_16 : decode cX11_rest 16 = .ok (.aload_n 0, 1) := by decide +kernel
theorem dX11_rest_17 : decode cX11_rest 17 = .ok (.getfield 40, 3) := by decide +kernel
theorem dX11_rest_20 : decode cX11_rest 20 = .ok (.ifCond .le 5, 3) := by decide +kernel
theorem dX11_rest_23 : decode cX11_rest 23 = .ok (.iconst (-1), 1) := by decide +kernel
theorem dX11_rest_24 : decode cX11_rest 24 = .ok (.ireturn, 1) := by decide +kernel
theorem dX11_turn_0 : decode cX11_turn 0 = .ok (.aload_n 0, 1) := by decide +kernel
theorem dX11_turn_1 : decode cX11_turn 1 = .ok (.aload_n 0, 1) := by decide +kernel
theorem dX11_turn_2 : decode cX11_turn 2 = .ok (.invokevirtual 98, 3) := by decide +kernel
theorem dX11_turn_5 : decode cX11_turn 5 = .ok (.ifCond .eq 7, 3) := by decide +kernel
theorem dX11_turn_12 : decode cX11_turn 12 = .ok (.iconst 1, 1) := by decide +kernel
theorem dX11_turn_13 : decode cX11_turn 13 = .ok (.putfield 40, 3) := by decide +kernel
theorem dX11_turn_16 : decode cX11_turn 16 = .ok (.aload_n 0, 1) := by decide +kernel
theorem dX11_turn_17 : decode cX11_turn 17 = .ok (.getfield 40, 3) := by decide +kernel
theorem dX11_turn_20 : decode cX11_turn 20 = .ok (.ifCond .ne 13, 3) := by decide +kernel
theorem dX11_turn_33 : decode cX11_turn 33 = .ok (.iconst (-1), 1) := by decide +kernel
theorem dX11_turn_34 : decode cX11_turn 34 = .ok (.ireturn, 1) := by decide +kernel
theorem dX11_steps_0 : decode cX11_steps 0 = .ok (.aload_n 0, 1) := by decide +kernel
theorem dX11_steps_1 : decode cX11_steps 1 = .ok (.aload_n 0, 1) := by decide +kernel
theorem dX11_steps_2 : decode cX11_steps 2 = .ok (.invokevirtual 98, 3) := by decide +kernel
theorem dX11_steps_5 : decode cX11_steps 5 = .ok (.ifCond .eq 7, 3) := by decide +kernel
theorem dX11_steps_12 : decode cX11_steps 12 = .ok (.iconst 1, 1) := by decide +kernel
theorem dX11_steps_13 : decode cX11_steps 13 = .ok (.putfield 40, 3) := by decide +kernel
theorem dX11_steps_16 : decode cX11_steps 16 = .ok (.aload_n 0, 1) := by decide +kernel
theorem dX11_steps_17 : decode cX11_steps 17 = .ok (.getfield 40, 3) := by decide +kernel
theorem dX11_steps_20 : decode cX11_steps 20 = .ok (.ifCond .ne 10, 3) := by decide +kernel
theorem dX11_steps_30 : decode cX11_steps 30 = .ok (.iconst (-1), 1) := by decide +kernel
theorem dX11_steps_31 : decode cX11_steps 31 = .ok (.ireturn, 1) := by decide +kernel
theorem dX11_stand_0 : decode cX11_stand 0 = .ok (.aload_n 0, 1) := by decide +kernel
theorem dX11_stand_1 : decode cX11_stand 1 = .ok (.aload_n 0, 1) := by decide +kernel
theorem dX11_stand_2 : decode cX11_stand 2 = .ok (.invokevirtual 98, 3) := by decide +kernel
theorem dX11_stand_5 : decode cX11_stand 5 = .ok (.ifCond .ne 7, 3) := by decide +kernel
theorem dX11_stand_8 : decode cX11_stand 8 = .ok (.iconst 1, 1) := by decide +kernel
theorem dX11_stand_9 : decode cX11_stand 9 = .ok (.goto 29, 3) := by decide +kernel
theorem dX11_stand_38 : decode cX11_stand 38 = .ok (.putfield 40, 3) := by decide +kernel
theorem dX11_stand_41 : decode cX11_stand 41 = .ok (.aload_n 0, 1) := by decide +kernel
theorem dX11_stand_42 : decode cX11_stand 42 = .ok (.getfield 40, 3) := by decide +kernel
theorem dX11_stand_45 : decode cX11_stand 45 = .ok (.ifCond .le 5, 3) := by decide +kernel
theorem dX11_stand_48 : decode cX11_stand 48 = .ok (.iconst 0, 1) := by decide +kernel
theorem dX11_stand_49 : decode cX11_stand 49 = .ok (.ireturn, 1) := by decide +kernel
theorem dX11_step_0 : decode cX11_step 0 = .ok (.iload_n 1, 1) := by decide +kernel
theorem dX11_step_1 : decode cX11_step 1 = .ok (.i2l, 1) := by decide +kernel
theorem dX11_step_2 : decode cX11_step 2 = .ok (.ldc2_w 351, 3) := by decide +kernel
theorem dX11_step_5 : decode cX11_step 5 = .ok (.lconst 1, 1) := by decide +kernel
theorem dX11_step_6 : decode cX11_step 6 = .ok (.invokestatic 49, 3) := by decide +kernel
theorem dX11_step_9 : decode cX11_step 9 = .ok (.ifCond .eq 27, 3) := by decide +kernel
theorem dX11_step_12 : decode cX11_step 12 = .ok (.iload_n 2, 1) := by decide +kernel
theorem dX11_step_13 : decode cX11_step 13 = .ok (.i2l, 1) := by decide +kernel
theorem dX11_step_14 : decode cX11_step 14 = .ok (.ldc2_w 351, 3) := by decide +kernel
theorem dX11_step_17 : decode cX11_step 17 = .ok (.lconst 1, 1) := by decide +kernel
theorem dX11_step_18 : decode cX11_step 18 = .ok (.invokestatic 49, 3) := by decide +kernel
theorem dX11_step_21 : decode cX11_step 21 = .ok (.ifCond .eq 15, 3) := by decide +kernel
theorem dX11_step_24 : decode cX11_step 24 = .ok (.iload_n 1, 1) := by decide +kernel
theorem dX11_step_25 : decode cX11_step 25 = .ok (.ifCond .ne 7, 3) := by decide +kernel
theorem dX11_step_28 : decode cX11_step 28 = .ok (.iload_n 2, 1) := by decide +kernel
theorem dX11_step_29 : decode cX11_step 29 = .ok (.ifCond .eq 7, 3) := by decide +kernel
theorem dX11_step_32 : decode cX11_step 32 = .ok (.iconst 1, 1) := by decide +kernel
theorem dX11_step_33 : decode cX11_step 33 = .ok (.goto 4, 3) := by decide +kernel
theorem dX11_step_36 : decode cX11_step 36 = .ok (.iconst 0, 1) := by decide +kernel
theorem dX11_step_37 : decode cX11_step 37 = .ok (.istore_n 3, 1) := by decide +kernel
theorem dX11_step_38 : decode cX11_step 38 = .ok (.aload_n 0, 1) := by decide +kernel
theorem dX11_step_39 : decode cX11_step 39 = .ok (.iload_n 3, 1) := by decide +kernel
theorem dX11_step_40 : decode cX11_step 40 = .ok (.ifCond .ne 7, 3) := by decide +kernel
theorem dX11_step_43 : decode cX11_step 43 = .ok (.iconst 1, 1) := by decide +kernel
theorem dX11_step_44 : decode cX11_step 44 = .ok (.goto 44, 3) := by decide +kernel
theorem dX11_step_47 : decode cX11_step 47 = .ok (.aload_n 0, 1) := by decide +kernel
theorem dX11_step_48 : decode cX11_step 48 = .ok (.invokevirtual 98, 3) := by decide +kernel
theorem dX11_step_51 : decode cX11_step 51 = .ok (.ifCond .ne 7, 3) := by decide +kernel
theorem dX11_step_54 : decode cX11_step 54 = .ok (.iconst 2, 1) := by decide +kernel
theorem dX11_step_55 : decode cX11_step 55 = .ok (.goto 33, 3) := by decide +kernel
theorem dX11_step_88 : decode cX11_step 88 = .ok (.putfield 40, 3) := by decide +kernel
theorem dX11_step_91 : decode cX11_step 91 = .ok (.aload_n 0, 1) := by decide +kernel
theorem dX11_step_92 : decode cX11_step 92 = .ok (.getfield 40, 3) := by decide +kernel
theorem dX11_step_95 : decode cX11_step 95 = .ok (.ifCond .le 5, 3) := by decide +kernel
theorem dX11_step_98 : decode cX11_step 98 = .ok (.iconst 0, 1) := by decide +kernel
theorem dX11_step_99 : decode cX11_step 99 = .ok (.ireturn, 1) := by decide +kernel
theorem dX11_ready_0 : decode cX11_ready 0 = .ok (.iload_n 1, 1) := by decide +kernel
theorem dX11_ready_1 : decode cX11_ready 1 = .ok (.bipush 97, 2) := by decide +kernel
theorem dX11_ready_3 : decode cX11_ready 3 = .ok (.if_icmp .ne 15, 3) := by decide +kernel
theorem dX11_ready_6 : decode cX11_ready 6 = .ok (.iload_n 2, 1) := by decide +kernel
theorem dX11_ready_7 : decode cX11_ready 7 = .ok (.bipush 103, 2) := by decide +kernel
theorem dX11_ready_9 : decode cX11_ready 9 = .ok (.if_icmp .eq 39, 3) := by decide +kernel
theorem dX11_ready_12 : decode cX11_ready 12 = .ok (.iload_n 2, 1) := by decide +kernel
theorem dX11_ready_13 : decode cX11_ready 13 = .ok (.bipush 115, 2) := by decide +kernel
theorem dX11_ready_15 : decode cX11_ready 15 = .ok (.if_icmp .eq 33, 3) := by decide +kernel
theorem dX11_ready_18 : decode cX11_ready 18 = .ok (.iload_n 1, 1) := by decide +kernel
theorem dX11_ready_19 : decode cX11_ready 19 = .ok (.bipush 109, 2) := by decide +kernel
theorem dX11_ready_21 : decode cX11_ready 21 = .ok (.if_icmp .ne 9, 3) := by decide +kernel
theorem dX11_ready_24 : decode cX11_ready 24 = .ok (.iload_n 2, 1) := by decide +kernel
theorem dX11_ready_25 : decode cX11_ready 25 = .ok (.bipush 115, 2) := by decide +kernel
theorem dX11_ready_27 : decode cX11_ready 27 = .ok (.if_icmp .eq 21, 3) := by decide +kernel
theorem dX11_ready_30 : decode cX11_ready 30 = .ok (.iload_n 1, 1) := by decide +kernel
theorem dX11_ready_31 : decode cX11_ready 31 = .ok (.bipush 99, 2) := by decide +kernel
theorem dX11_ready_33 : decode cX11_ready 33 = .ok (.if_icmp .ne 19, 3) := by decide +kernel
theorem dX11_ready_36 : decode cX11_ready 36 = .ok (.iload_n 2, 1) := by decide +kernel
theorem dX11_ready_37 : decode cX11_ready 37 = .ok (.bipush 120, 2) := by decide +kernel
theorem dX11_ready_39 : decode cX11_ready 39 = .ok (.if_icmp .eq 9, 3) := by decide +kernel
theorem dX11_ready_42 : decode cX11_ready 42 = .ok (.iload_n 2, 1) := by decide +kernel
theorem dX11_ready_43 : decode cX11_ready 43 = .ok (.bipush 115, 2) := by decide +kernel
theorem dX11_ready_45 : decode cX11_ready 45 = .ok (.if_icmp .ne 7, 3) := by decide +kernel
theorem dX11_ready_48 : decode cX11_ready 48 = .ok (.iconst 1, 1) := by decide +kernel
theorem dX11_ready_49 : decode cX11_ready 49 = .ok (.goto 4, 3) := by decide +kernel
theorem dX11_ready_52 : decode cX11_ready 52 = .ok (.iconst 0, 1) := by decide +kernel
theorem dX11_ready_53 : decode cX11_ready 53 = .ok (.istore_n 3, 1) := by decide +kernel
theorem dX11_ready_54 : decode cX11_ready 54 = .ok (.aload_n 0, 1) := by decide +kernel
theorem dX11_ready_55 : decode cX11_ready 55 = .ok (.iload_n 3, 1) := by decide +kernel
theorem dX11_ready_56 : decode cX11_ready 56 = .ok (.ifCond .ne 7, 3) := by decide +kernel
theorem dX11_ready_59 : decode cX11_ready 59 = .ok (.iconst 1, 1) := by decide +kernel
theorem dX11_ready_60 : decode cX11_ready 60 = .ok (.goto 39, 3) := by decide +kernel
theorem dX11_ready_63 : decode cX11_ready 63 = .ok (.aload_n 0, 1) := by decide +kernel
theorem dX11_ready_64 : decode cX11_ready 64 = .ok (.invokevirtual 98, 3) := by decide +kernel
theorem dX11_ready_67 : decode cX11_ready 67 = .ok (.ifCond .ne 7, 3) := by decide +kernel
theorem dX11_ready_70 : decode cX11_ready 70 = .ok (.iconst 2, 1) := by decide +kernel
theorem dX11_ready_71 : decode cX11_ready 71 = .ok (.goto 28, 3) := by decide +kernel
theorem dX11_ready_99 : decode cX11_ready 99 = .ok (.putfield 40, 3) := by decide +kernel
theorem dX11_ready_102 : decode cX11_ready 102 = .ok (.aload_n 0, 1) := by decide +kernel
theorem dX11_ready_103 : decode cX11_ready 103 = .ok (.getfield 40, 3) := by decide +kernel
theorem dX11_ready_106 : decode cX11_ready 106 = .ok (.ifCond .le 5, 3) := by decide +kernel
theorem dX11_ready_109 : decode cX11_ready 109 = .ok (.iconst 0, 1) := by decide +kernel
theorem dX11_ready_110 : decode cX11_ready 110 = .ok (.ireturn, 1) := by decide +kernel
theorem dX11_cast_0 : decode cX11_cast 0 = .ok (.ldc_w 356, 3) := by decide +kernel
theorem dX11_cast_3 : decode cX11_cast 3 = .ok (.iload_n 1, 1) := by decide +kernel
theorem dX11_cast_4 : decode cX11_cast 4 = .ok (.invokevirtual 113, 3) := by decide +kernel
theorem dX11_cast_7 : decode cX11_cast 7 = .ok (.ifCond .lt 21, 3) := by decide +kernel
theorem dX11_cast_10 : decode cX11_cast 10 = .ok (.iload_n 1, 1) := by decide +kernel
theorem dX11_cast_11 : decode cX11_cast 11 = .ok (.bipush 115, 2) := by decide +kernel
theorem dX11_cast_13 : decode cX11_cast 13 = .ok (.if_icmp .eq 11, 3) := by decide +kernel
theorem dX11_cast_16 : decode cX11_cast 16 = .ok (.iload_n 2, 1) := by decide +kernel
theorem dX11_cast_17 : decode cX11_cast 17 = .ok (.iload_n 3, 1) := by decide +kernel
theorem dX11_cast_18 : decode cX11_cast 18 = .ok (.invokestatic 94, 3) := by decide +kernel
theorem dX11_cast_21 : decode cX11_cast 21 = .ok (.ifCond .eq 7, 3) := by decide +kernel
theorem dX11_cast_24 : decode cX11_cast 24 = .ok (.iconst 1, 1) := by decide +kernel
theorem dX11_cast_25 : decode cX11_cast 25 = .ok (.goto 4, 3) := by decide +kernel
theorem dX11_cast_28 : decode cX11_cast 28 = .ok (.iconst 0, 1) := by decide +kernel
theorem dX11_cast_29 : decode cX11_cast 29 = .ok (.istore 4, 2) := by decide +kernel
theorem dX11_cast_31 : decode cX11_cast 31 = .ok (.aload_n 0, 1) := by decide +kernel
theorem dX11_cast_32 : decode cX11_cast 32 = .ok (.iload 4, 2) := by decide +kernel
theorem dX11_cast_34 : decode cX11_cast 34 = .ok (.ifCond .ne 7, 3) := by decide +kernel
theorem dX11_cast_37 : decode cX11_cast 37 = .ok (.iconst 1, 1) := by decide +kernel
theorem dX11_cast_38 : decode cX11_cast 38 = .ok (.goto 15, 3) := by decide +kernel
theorem dX11_cast_41 : decode cX11_cast 41 = .ok (.aload_n 0, 1) := by decide +kernel
theorem dX11_cast_42 : decode cX11_cast 42 = .ok (.invokevirtual 98, 3) := by decide +kernel
theorem dX11_cast_45 : decode cX11_cast 45 = .ok (.ifCond .ne 7, 3) := by decide +kernel
theorem dX11_cast_48 : decode cX11_cast 48 = .ok (.iconst 2, 1) := by decide +kernel
theorem dX11_cast_49 : decode cX11_cast 49 = .ok (.goto 4, 3) := by decide +kernel
theorem dX11_cast_53 : decode cX11_cast 53 = .ok (.putfield 40, 3) := by decide +kernel
theorem dX11_cast_56 : decode cX11_cast 56 = .ok (.aload_n 0, 1) := by decide +kernel
theorem dX11_cast_57 : decode cX11_cast 57 = .ok (.getfield 40, 3) := by decide +kernel
theorem dX11_cast_60 : decode cX11_cast 60 = .ok (.ifCond .le 6, 3) := by decide +kernel
theorem dX11_cast_63 : decode cX11_cast 63 = .ok (.bipush 32, 2) := by decide +kernel
theorem dX11_cast_65 : decode cX11_cast 65 = .ok (.ireturn, 1) := by decide +kernel
theorem dX11_again_0 : decode cX11_again 0 = .ok (.iconst 0, 1) := by decide +kernel
theorem dX11_again_1 : decode cX11_again 1 = .ok (.istore 4, 2) := by decide +kernel
theorem dX11_again_3 : decode cX11_again 3 = .ok (.aload_n 0, 1) := by decide +kernel
theorem dX11_again_4 : decode cX11_again 4 = .ok (.getfield 30, 3) := by decide +kernel
theorem dX11_again_7 : decode cX11_again 7 = .ok (.invokeinterface 70 1, 5) := by decide +kernel
theorem dX11_again_12 : decode cX11_again 12 = .ok (.astore 5, 2) := by decide +kernel
theorem dX11_again_14 : decode cX11_again 14 = .ok (.aload 5, 2) := by decide +kernel
theorem dX11_again_16 : decode cX11_again 16 = .ok (.invokeinterface 74 1, 5) := by decide +kernel
theorem dX11_again_21 : decode cX11_again 21 = .ok (.ifCond .eq 38, 3) := by decide +kernel
theorem dX11_again_59 : decode cX11_again 59 = .ok (.aload_n 0, 1) := by decide +kernel
theorem dX11_again_60 : decode cX11_again 60 = .ok (.iload_n 1, 1) := by decide +kernel
theorem dX11_again_61 : decode cX11_again 61 = .ok (.i2l, 1) := by decide +kernel
theorem dX11_again_62 : decode cX11_again 62 = .ok (.lconst 0, 1) := by decide +kernel
theorem dX11_again_63 : decode cX11_again 63 = .ok (.iload 4, 2) := by decide +kernel
theorem dX11_again_65 : decode cX11_again 65 = .ok (.iconst 1, 1) := by decide +kernel
theorem dX11_again_66 : decode cX11_again 66 = .ok (.isub, 1) := by decide +kernel
theorem dX11_again_67 : decode cX11_again 67 = .ok (.i2l, 1) := by decide +kernel
theorem dX11_again_68 : decode cX11_again 68 = .ok (.invokestatic 49, 3) := by decide +kernel
theorem dX11_again_71 : decode cX11_again 71 = .ok (.ifCond .eq 11, 3) := by decide +kernel
theorem dX11_again_82 : decode cX11_again 82 = .ok (.iconst 1, 1) := by decide +kernel
theorem dX11_again_83 : decode cX11_again 83 = .ok (.goto 20, 3) := by decide +kernel
theorem dX11_again_103 : decode cX11_again 103 = .ok (.putfield 40, 3) := by decide +kernel
theorem dX11_again_106 : decode cX11_again 106 = .ok (.aload_n 0, 1) := by decide +kernel
theorem dX11_again_107 : decode cX11_again 107 = .ok (.getfield 40, 3) := by decide +kernel
theorem dX11_again_110 : decode cX11_again 110 = .ok (.ifCond .le 5, 3) := by decide +kernel
theorem dX11_again_113 : decode cX11_again 113 = .ok (.iconst (-1), 1) := by decide +kernel
theorem dX11_again_114 : decode cX11_again 114 = .ok (.ireturn, 1) := by decide +kernel
theorem dX11_hitShare_0 : decode cX11_hitShare 0 = .ok (.aload_n 0, 1) := by decide +kernel
theorem dX11_hitShare_1 : decode cX11_hitShare 1 = .ok (.aload_n 0, 1) := by decide +kernel
theorem dX11_hitShare_2 : decode cX11_hitShare 2 = .ok (.getfield 321, 3) := by decide +kernel
theorem dX11_hitShare_5 : decode cX11_hitShare 5 = .ok (.ifCond .ne 7, 3) := by decide +kernel
theorem dX11_hitShare_8 : decode cX11_hitShare 8 = .ok (.iconst 1, 1) := by decide +kernel
theorem dX11_hitShare_9 : decode cX11_hitShare 9 = .ok (.goto 4, 3) := by decide +kernel
theorem dX11_hitShare_13 : decode cX11_hitShare 13 = .ok (.putfield 40, 3) := by decide +kernel
theorem dX11_hitShare_16 : decode cX11_hitShare 16 = .ok (.aload_n 0, 1) := by decide +kernel
theorem dX11_hitShare_17 : decode cX11_hitShare 17 = .ok (.getfield 40, 3) := by decide +kernel
theorem dX11_hitShare_20 : decode cX11_hitShare 20 = .ok (.ifCond .ne 17, 3) := by decide +kernel
theorem dX11_hitShare_37 : decode cX11_hitShare 37 = .ok (.fconst 0, 1) := by decide +kernel
theorem dX11_hitShare_38 : decode cX11_hitShare 38 = .ok (.freturn, 1) := by decide +kernel
theorem dX11_meanLife_0 : decode cX11_meanLife 0 = .ok (.aload_n 0, 1) := by decide +kernel
theorem dX11_meanLife_1 : decode cX11_meanLife 1 = .ok (.aload_n 0, 1) := by decide +kernel
theorem dX11_meanLife_2 : decode cX11_meanLife 2 = .ok (.getfield 10, 3) := by decide +kernel
theorem dX11_meanLife_5 : decode cX11_meanLife 5 = .ok (.invokeinterface 278 1, 5) := by decide +kernel
theorem dX11_meanLife_10 : decode cX11_meanLife 10 = .ok (.ifCond .eq 7, 3) := by decide +kernel
theorem dX11_meanLife_13 : decode cX11_meanLife 13 = .ok (.iconst 1, 1) := by decide +kernel
theorem dX11_meanLife_14 : decode cX11_meanLife 14 = .ok (.goto 4, 3) := by decide +kernel
theorem dX11_meanLife_18 : decode cX11_meanLife 18 = .ok (.putfield 40, 3) := by decide +kernel
theorem dX11_meanLife_21 : decode cX11_meanLife 21 = .ok (.iconst 0, 1) := by decide +kernel
theorem dX11_meanLife_22 : decode cX11_meanLife 22 = .ok (.istore_n 1, 1) := by decide +kernel
theorem dX11_meanLife_23 : decode cX11_meanLife 23 = .ok (.aload_n 0, 1) := by decide +kernel
theorem dX11_meanLife_24 : decode cX11_meanLife 24 = .ok (.getfield 10, 3) := by decide +kernel
theorem dX11_meanLife_27 : decode cX11_meanLife 27 = .ok (.invokeinterface 70 1, 5) := by decide +kernel
theorem dX11_meanLife_32 : decode cX11_meanLife 32 = .ok (.astore_n 2, 1) := by decide +kernel
theorem dX11_meanLife_33 : decode cX11_meanLife 33 = .ok (.aload_n 2, 1) := by decide +kernel
theorem dX11_meanLife_34 : decode cX11_meanLife 34 = .ok (.invokeinterface 74 1, 5) := by decide +kernel
theorem dX11_meanLife_39 : decode cX11_meanLife 39 = .ok (.ifCond .eq 23, 3) := by decide +kernel
theorem dX11_meanLife_62 : decode cX11_meanLife 62 = .ok (.aload_n 0, 1) := by decide +kernel
theorem dX11_meanLife_63 : decode cX11_meanLife 63 = .ok (.getfield 40, 3) := by decide +kernel
theorem dX11_meanLife_66 : decode cX11_meanLife 66 = .ok (.ifCond .ne 19, 3) := by decide +kernel
theorem dX11_meanLife_85 : decode cX11_meanLife 85 = .ok (.dconst 0, 1) := by decide +kernel
theorem dX11_meanLife_86 : decode cX11_meanLife 86 = .ok (.dreturn, 1) := by decide +kernel
theorem dX11_isSound_0 : decode cX11_isSound 0 = .ok (.aload_n 0, 1) := by decide +kernel
theorem dX11_isSound_1 : decode cX11_isSound 1 = .ok (.iconst 0, 1) := by decide +kernel
theorem dX11_isSound_2 : decode cX11_isSound 2 = .ok (.putfield 40, 3) := by decide +kernel
theorem dX11_isSound_5 : decode cX11_isSound 5 = .ok (.iconst 1, 1) := by decide +kernel
theorem dX11_isSound_6 : decode cX11_isSound 6 = .ok (.ireturn, 1) := by decide +kernel
theorem dX11_init_0 : decode cX11_init 0 = .ok (.aload_n 0, 1) := by decide +kernel
theorem dX11_init_1 : decode cX11_init 1 = .ok (.invokespecial 1, 3) := by decide +kernel
theorem dX11_init_4 : decode cX11_init 4 = .ok (.aload_n 0, 1) := by decide +kernel
theorem dX11_init_5 : decode cX11_init 5 = .ok (.new 7, 3) := by decide +kernel
theorem dX11_init_8 : decode cX11_init 8 = .ok (.dup, 1) := by decide +kernel
theorem dX11_init_9 : decode cX11_init 9 = .ok (.invokespecial 9, 3) := by decide +kernel
theorem dX11_init_12 : decode cX11_init 12 = .ok (.putfield 10, 3) := by decide +kernel
theorem dX11_init_15 : decode cX11_init 15 = .ok (.aload_n 0, 1) := by decide +kernel
theorem dX11_init_16 : decode cX11_init 16 = .ok (.bipush 64, 2) := by decide +kernel
theorem dX11_init_18 : decode cX11_init 18 = .ok (.newarray .char, 2) := by decide +kernel
theorem dX11_init_20 : decode cX11_init 20 = .ok (.putfield 16, 3) := by decide +kernel
theorem dX11_init_23 : decode cX11_init 23 = .ok (.aload_n 0, 1) := by decide +kernel
theorem dX11_init_24 : decode cX11_init 24 = .ok (.new 7, 3) := by decide +kernel
theorem dX11_init_27 : decode cX11_init 27 = .ok (.dup, 1) := by decide +kernel
theorem dX11_init_28 : decode cX11_init 28 = .ok (.invokespecial 9, 3) := by decide +kernel
theorem dX11_init_31 : decode cX11_init 31 = .ok (.putfield 20, 3) := by decide +kernel
theorem dX11_init_34 : decode cX11_init 34 = .ok (.aload_n 0, 1) := by decide +kernel
theorem dX11_init_35 : decode cX11_init 35 = .ok (.new 23, 3) := by decide +kernel
theorem dX11_init_38 : decode cX11_init 38 = .ok (.dup, 1) := by decide +kernel
theorem dX11_init_39 : decode cX11_init 39 = .ok (.invokespecial 25, 3) := by decide +kernel
theorem dX11_init_42 : decode cX11_init 42 = .ok (.putfield 26, 3) := by decide +kernel
theorem dX11_init_45 : decode cX11_init 45 = .ok (.aload_n 0, 1) := by decide +kernel
theorem dX11_init_46 : decode cX11_init 46 = .ok (.new 7, 3) := by decide +kernel
theorem dX11_init_49 : decode cX11_init 49 = .ok (.dup, 1) := by decide +kernel
theorem dX11_init_50 : decode cX11_init 50 = .ok (.invokespecial 9, 3) := by decide +kernel
theorem dX11_init_53 : decode cX11_init 53 = .ok (.putfield 30, 3) := by decide +kernel
theorem dX11_init_56 : decode cX11_init 56 = .ok (.aload_n 0, 1) := by decide +kernel
theorem dX11_init_57 : decode cX11_init 57 = .ok (.new 7, 3) := by decide +kernel
theorem dX11_init_60 : decode cX11_init 60 = .ok (.dup, 1) := by decide +kernel
theorem dX11_init_61 : decode cX11_init 61 = .ok (.invokespecial 9, 3) := by decide +kernel
theorem dX11_init_64 : decode cX11_init 64 = .ok (.putfield 33, 3) := by decide +kernel
theorem dX11_init_67 : decode cX11_init 67 = .ok (.aload_n 0, 1) := by decide +kernel
theorem dX11_init_68 : decode cX11_init 68 = .ok (.iconst (-1), 1) := by decide +kernel
theorem dX11_init_69 : decode cX11_init 69 = .ok (.putfield 36, 3) := by decide +kernel
theorem dX11_init_72 : decode cX11_init 72 = .ok (.iconst 0, 1) := by decide +kernel
theorem dX11_init_73 : decode cX11_init 73 = .ok (.istore_n 1, 1) := by decide +kernel
theorem dX11_init_74 : decode cX11_init 74 = .ok (.iload_n 1, 1) := by decide +kernel
theorem dX11_init_75 : decode cX11_init 75 = .ok (.aload_n 0, 1) := by decide +kernel
theorem dX11_init_76 : decode cX11_init 76 = .ok (.getfield 16, 3) := by decide +kernel
theorem dX11_init_79 : decode cX11_init 79 = .ok (.arraylength, 1) := by decide +kernel
theorem dX11_init_80 : decode cX11_init 80 = .ok (.if_icmp .ge 17, 3) := by decide +kernel
theorem dX11_init_83 : decode cX11_init 83 = .ok (.aload_n 0, 1) := by decide +kernel
theorem dX11_init_84 : decode cX11_init 84 = .ok (.getfield 16, 3) := by decide +kernel
theorem dX11_init_87 : decode cX11_init 87 = .ok (.iload_n 1, 1) := by decide +kernel
theorem dX11_init_88 : decode cX11_init 88 = .ok (.bipush 46, 2) := by decide +kernel
theorem dX11_init_90 : decode cX11_init 90 = .ok (.castore, 1) := by decide +kernel
theorem dX11_init_91 : decode cX11_init 91 = .ok (.iinc 1 1, 3) := by decide +kernel
theorem dX11_init_94 : decode cX11_init 94 = .ok (.goto (-20), 3) := by decide +kernel
theorem dX11_init_97 : decode cX11_init 97 = .ok (.return_, 1) := by decide +kernel
set_option maxHeartbeats 4000000 in
set_option maxRecDepth 100000 in
theorem c_X11_in (l : Launch) (hfl : l.stackTraces = false) (g : GP) (n1 : Int64) (n2 : Int64) (n3 : Int64)  : CI l yX11_in (wG yX11_in cX11_in 6 (Option.some Jvm.ClassFile.FieldType.boolean)) (LV 1 0 0) g [.long n1, .long n2, .long n3] ([]) (fun (r : Int32) (u : va_W) => ((inR n1 n2 n3) ∧ r = 1 ∧ u = []) ∨ ((¬ inR n1 n2 n3) ∧ r = 0 ∧ u = [])) := by
  intro sz
  refine Met.ofW (cc := cX11_in) (maxL := 6) (ret := (Option.some Jvm.ClassFile.FieldType.boolean)) (by decide) rfl ?_
  intro p e s m args below meth c s₁ B hml hv
  obtain ⟨rfl, hsz, hP, hK, hD0, hT0⟩ := hv
  have hx := B.exec
  have hb := B.bytes
  have hr := B.returns
  have hts := atoms_spec (ws := (wG yX11_in cX11_in 6 (Option.some Jvm.ClassFile.FieldType.boolean))) B.pre
  have htg : ∀ w ∈ G9, w.before _ s = true := fun w h => hts w (List.mem_cons_of_mem _ h)
  have hown : s.vm.findClass "HeroTableModel" = some m.cls := findClass_of_methodNamed B.named
  have hlocks := B.notSynchronized
  subst hsz
  have hD := hD0.self (sz := s.heap.size)
  have hT := hT0
  clear hT0
  generalize hAe : va_A [] s.heap.size = A at hD hT ⊢
  have hA : ∀ q : Nat, s.heap.size ≤ q → A q := fun q h => by rw [← hAe]; exact Or.inr h
  obtain ⟨H, hH0⟩ : ∃ H, H = s.heap := ⟨_, rfl⟩
  have hS : va_S A s.heap H [] := by rw [hH0]; exact va_S.rf
  have hP : va_P g.1 CLS [] H := by rw [hH0]; exact hP
  rw [← hH0]
  have hl := lv_entry ([.long n1, .long n2, .long n3]) (n := 6) (Nat.le_of_ble_eq_true rfl)
  rw [lg_entry_eq]
  generalize (lg_sl ([.long n1, .long n2, .long n3]) ++ List.replicate (6 - (lg_sl ([.long n1, .long n2, .long n3])).length) Slot.unset).toArray = ls at hl ⊢
  have hl : lv_has ls 6 [(0, .long n1), (2, .long n2), (4, .long n3)] := hl
  refine lv_lload_n hx hb dX11_in_0 rfl (lv_at hl 0 rfl) ?_
  refine lv_lload_n hx hb dX11_in_1 rfl (lv_at hl 1 rfl) ?_
  refine W.lcmp hx hb dX11_in_2 ?_
  refine lv_topi (fun x_1 ex_1 => ?_)
  refine lv_if_lt (tgt := 17) hx hb dX11_in_3 (by decide) (fun c_2 => ?_) (fun c_2 => ?_)
  · refine lv_iconst (v := 0) hx hb dX11_in_17 (by decide) ?_
    have hP9 := hP.sub (ws' := []) [] rfl
    have hD9 := hD.sub (ws' := []) [] (by decide) rfl
    refine W.widen (k := 0) (n := 0) (Nat.le_of_ble_eq_true rfl) (Nat.le_of_ble_eq_true rfl) ?_
    exact W.zret (v := 0) hx hb hr rfl (fun t ht hW => ⟨⟨0, [], rfl, Or.inr (⟨fun h => absurd h.1 (lcLt ex_1 c_2), rfl, rfl⟩), by rw [ht]; exact hP9, va_K.moved hW.alike hK, hD9⟩, hS.F ht⟩) hS.2.2 dX11_in_18
  · refine lv_lload_n hx hb dX11_in_6 rfl (lv_at hl 0 rfl) ?_
    refine lv_lload hx hb dX11_in_7 (lv_at hl 2 rfl) ?_
    refine W.lcmp hx hb dX11_in_9 ?_
    refine lv_topi (fun x_3 ex_3 => ?_)
    refine lv_if_gt (tgt := 17) hx hb dX11_in_10 (by decide) (fun c_4 => ?_) (fun c_4 => ?_)
    · refine lv_iconst (v := 0) hx hb dX11_in_17 (by decide) ?_
      have hP9 := hP.sub (ws' := []) [] rfl
      have hD9 := hD.sub (ws' := []) [] (by decide) rfl
      refine W.widen (k := 0) (n := 0) (Nat.le_of_ble_eq_true rfl) (Nat.le_of_ble_eq_true rfl) ?_
      exact W.zret (v := 0) hx hb hr rfl (fun t ht hW => ⟨⟨0, [], rfl, Or.inr (⟨fun h => absurd h.2 (lcGt ex_3 c_4), rfl, rfl⟩), by rw [ht]; exact hP9, va_K.moved hW.alike hK, hD9⟩, hS.F ht⟩) hS.2.2 dX11_in_18
    · refine lv_iconst (v := 1) hx hb dX11_in_13 (by decide) ?_
      refine lv_goto (tgt := 18) hx hb dX11_in_14 (by decide) ?_
      have hP9 := hP.sub (ws' := []) [] rfl
      have hD9 := hD.sub (ws' := []) [] (by decide) rfl
      refine W.widen (k := 0) (n := 0) (Nat.le_of_ble_eq_true rfl) (Nat.le_of_ble_eq_true rfl) ?_
      exact W.zret (v := 1) hx hb hr rfl (fun t ht hW => ⟨⟨1, [], rfl, Or.inl ⟨⟨lcGe ex_1 c_2, lcLe ex_3 c_4⟩, rfl, rfl⟩, by rw [ht]; exact hP9, va_K.moved hW.alike hK, hD9⟩, hS.F ht⟩) hS.2.2 dX11_in_18

set_option maxHeartbeats 4000000 in
set_option maxRecDepth 100000 in
theorem c_X11_thrown (l : Launch) (hfl : l.stackTraces = false) (g : GP) (m0 : Nat) (mh : Nat) (mg : Nat) (ms : Nat) (md : Nat) (mc : Nat) (mr : Nat) (n1 : Int32)  : CI l yX11_thrown (wG yX11_thrown cX11_thrown 1 (Option.some Jvm.ClassFile.FieldType.int)) (LV 1 0 0) g [.ref m0] ([(m0, .inr (11, [.ref mh, .ref mg, .ref ms, .ref md, .ref mc, .ref mr, .int (-1), .int 0, .int 0, .int 0, .long 0, .int 0, .int 0, .int n1]))]) (fun (r : Int32) (u : va_W) => r = n1 ∧ u = []) := by
  intro sz
  refine Met.ofW (cc := cX11_thrown) (maxL := 1) (ret := (Option.some Jvm.ClassFile.FieldType.int)) (by decide) rfl ?_
  intro p e s m args below meth c s₁ B hml hv
  obtain ⟨rfl, hsz, hP, hK, hD0, hT0⟩ := hv
  have hx := B.exec
  have hb := B.bytes
  have hr := B.returns
  have hts := atoms_spec (ws := (wG yX11_thrown cX11_thrown 1 (Option.some Jvm.ClassFile.FieldType.int))) B.pre
  have htg : ∀ w ∈ G9, w.before _ s = true := fun w h => hts w (List.mem_cons_of_mem _ h)
  have hown : s.vm.findClass "HeroTableModel" = some m.cls := findClass_of_methodNamed B.named
  have hlocks := B.notSynchronized
  subst hsz
  have hD := hD0.self (sz := s.heap.size)
  have hT := hT0
  clear hT0
  generalize hAe : va_A [(m0, .inr (11, [.ref mh, .ref mg, .ref ms, .ref md, .ref mc, .ref mr, .int (-1), .int 0, .int 0, .int 0, .long 0, .int 0, .int 0, .int n1]))] s.heap.size = A at hD hT ⊢
  have hA : ∀ q : Nat, s.heap.size ≤ q → A q := fun q h => by rw [← hAe]; exact Or.inr h
  obtain ⟨H, hH0⟩ : ∃ H, H = s.heap := ⟨_, rfl⟩
  have hS : va_S A s.heap H [] := by rw [hH0]; exact va_S.rf
  have hP : va_P g.1 CLS [(m0, .inr (11, [.ref mh, .ref mg, .ref ms, .ref md, .ref mc, .ref mr, .int (-1), .int 0, .int 0, .int 0, .long 0, .int 0, .int 0, .int n1]))] H := by rw [hH0]; exact hP
  rw [← hH0]
  have hl := lv_entry ([.ref m0]) (n := 1) (Nat.le_of_ble_eq_true rfl)
  rw [lg_entry_eq]
  generalize (lg_sl ([.ref m0]) ++ List.replicate (1 - (lg_sl ([.ref m0])).length) Slot.unset).toArray = ls at hl ⊢
  have hl : lv_has ls 1 [(0, .ref m0)] := hl
  refine lv_aload_n hx hb dX11_thrown_0 rfl (lv_at hl 0 rfl) ?_
  refine va_get (D := g.1) (ci := 11) (v := .int n1) (C := RX11) (T := TX11) (N := 14) hx hb htg inG_X11 hown hK hP 0 rfl rfl 13 (by decide) (htg _ k1353) (fun _ h9 => h9) rfl dX11_thrown_1 ?_
  have hP9 := hP.sub (ws' := []) [] rfl
  have hD9 := hD.sub (ws' := []) [] (by decide) rfl
  refine W.widen (k := 0) (n := 0) (Nat.le_of_ble_eq_true rfl) (Nat.le_of_ble_eq_true rfl) ?_
  exact W.iret (v := n1) hx hb hr (fun t ht hW => ⟨⟨n1, [], rfl, ⟨rfl, rfl⟩, by rw [ht]; exact hP9, va_K.moved hW.alike hK, hD9⟩, hS.F ht⟩) hS.2.2 dX11_thrown_4

set_option maxHeartbeats 4000000 in
set_option maxRecDepth 100000 in
theorem c_X11_isOn (l : Launch) (hfl : l.stackTraces = false) (g : GP) (m0 : Nat) (mh : Nat) (mg : Nat) (ms : Nat) (md : Nat) (mc : Nat) (mr : Nat)  : CI l yX11_isOn (wG yX11_isOn cX11_isOn 1 (Option.some Jvm.ClassFile.FieldType.boolean)) (LV 1 0 0) g [.ref m0] ([(m0, .inr (11, [.ref mh, .ref mg, .ref ms, .ref md, .ref mc, .ref mr, .int (-1), .int 0, .int 0, .int 0, .long 0, .int 0, .int 0, .int 0]))]) (fun (r : Int32) (u : va_W) => r = 0 ∧ u = [(m0, .inr (11, [.ref mh, .ref mg, .ref ms, .ref md, .ref mc, .ref mr, .int (-1), .int 0, .int 0, .int 0, .long 0, .int 0, .int 0, .int 0]))]) := by
  intro sz
  refine Met.ofW (cc := cX11_isOn) (maxL := 1) (ret := (Option.some Jvm.ClassFile.FieldType.boolean)) (by decide) rfl ?_
  intro p e s m args below meth c s₁ B hml hv
  obtain ⟨rfl, hsz, hP, hK, hD0, hT0⟩ := hv
  have hx := B.exec
  have hb := B.bytes
  have hr := B.returns
  have hts := atoms_spec (ws := (wG yX11_isOn cX11_isOn 1 (Option.some Jvm.ClassFile.FieldType.boolean))) B.pre
  have htg : ∀ w ∈ G9, w.before _ s = true := fun w h => hts w (List.mem_cons_of_mem _ h)
  have hown : s.vm.findClass "HeroTableModel" = some m.cls := findClass_of_methodNamed B.named
  have hlocks := B.notSynchronized
  subst hsz
  have hD := hD0.self (sz := s.heap.size)
  have hT := hT0
  clear hT0
  generalize hAe : va_A [(m0, .inr (11, [.ref mh, .ref mg, .ref ms, .ref md, .ref mc, .ref mr, .int (-1), .int 0, .int 0, .int 0, .long 0, .int 0, .int 0, .int 0]))] s.heap.size = A at hD hT ⊢
  have hA : ∀ q : Nat, s.heap.size ≤ q → A q := fun q h => by rw [← hAe]; exact Or.inr h
  obtain ⟨H, hH0⟩ : ∃ H, H = s.heap := ⟨_, rfl⟩
  have hS : va_S A s.heap H [] := by rw [hH0]; exact va_S.rf
  have hP : va_P g.1 CLS [(m0, .inr (11, [.ref mh, .ref mg, .ref ms, .ref md, .ref mc, .ref mr, .int (-1), .int 0, .int 0, .int 0, .long 0, .int 0, .int 0, .int 0]))] H := by rw [hH0]; exact hP
  rw [← hH0]
  have hl := lv_entry ([.ref m0]) (n := 1) (Nat.le_of_ble_eq_true rfl)
  rw [lg_entry_eq]
  generalize (lg_sl ([.ref m0]) ++ List.replicate (1 - (lg_sl ([.ref m0])).length) Slot.unset).toArray = ls at hl ⊢
  have hl : lv_has ls 1 [(0, .ref m0)] := hl
  refine lv_aload_n hx hb dX11_isOn_0 rfl (lv_at hl 0 rfl) ?_
  refine va_get (D := g.1) (ci := 11) (v := .int (-1)) (C := RX11) (T := TX11) (N := 14) hx hb htg inG_X11 hown hK hP 0 rfl rfl 6 (by decide) (htg _ k1346) (fun _ h9 => h9) rfl dX11_isOn_1 ?_
  refine lv_iconst (v := (-1)) hx hb dX11_isOn_4 (by decide) ?_
  refine lv_icmp_eq (tgt := 12) hx hb dX11_isOn_5 (by decide) (fun c_1 => ?_) (fun c_1 => absurd (by decide) c_1)
  refine lv_iconst (v := 0) hx hb dX11_isOn_12 (by decide) ?_
  have hP9 := hP.sub (ws' := [(m0, .inr (11, [.ref mh, .ref mg, .ref ms, .ref md, .ref mc, .ref mr, .int (-1), .int 0, .int 0, .int 0, .long 0, .int 0, .int 0, .int 0]))]) [0] rfl
  have hD9 := hD.sub (ws' := [(m0, .inr (11, [.ref mh, .ref mg, .ref ms, .ref md, .ref mc, .ref mr, .int (-1), .int 0, .int 0, .int 0, .long 0, .int 0, .int 0, .int 0]))]) [0] (by decide) rfl
  refine W.widen (k := 0) (n := 0) (Nat.le_of_ble_eq_true rfl) (Nat.le_of_ble_eq_true rfl) ?_
  exact W.zret (v := 0) hx hb hr rfl (fun t ht hW => ⟨⟨0, [(m0, .inr (11, [.ref mh, .ref mg, .ref ms, .ref md, .ref mc, .ref mr, .int (-1), .int 0, .int 0, .int 0, .long 0, .int 0, .int 0, .int 0]))], rfl, ⟨rfl, rfl⟩, by rw [ht]; exact hP9, va_K.moved hW.alike hK, hD9⟩, hS.F ht⟩) hS.2.2 dX11_isOn_13

set_option maxHeartbeats 4000000 in
set_option maxRecDepth 100000 in
theorem c_X11_isCell (l : Launch) (hfl : l.stackTraces = false) (g : GP) (n1 : Int32) (n2 : Int32)  : CI l yX11_isCell (wG yX11_isCell cX11_isCell 2 (Option.some Jvm.ClassFile.FieldType.boolean)) (LV 2 0 0) g [.int n1, .int n2] ([]) (fun (r : Int32) (u : va_W) => ((okCell n1 n2) ∧ r = 1 ∧ u = []) ∨ ((¬ okCell n1 n2) ∧ r = 0 ∧ u = [])) := by
  intro sz
  refine Met.ofW (cc := cX11_isCell) (maxL := 2) (ret := (Option.some Jvm.ClassFile.FieldType.boolean)) (by decide) rfl ?_
  intro p e s m args below meth c s₁ B hml hv
  obtain ⟨rfl, hsz, hP, hK, hD0, hT0⟩ := hv
  have hx := B.exec
  have hb := B.bytes
  have hr := B.returns
  have hts := atoms_spec (ws := (wG yX11_isCell cX11_isCell 2 (Option.some Jvm.ClassFile.FieldType.boolean))) B.pre
  have htg : ∀ w ∈ G9, w.before _ s = true := fun w h => hts w (List.mem_cons_of_mem _ h)
  have hown : s.vm.findClass "HeroTableModel" = some m.cls := findClass_of_methodNamed B.named
  have hlocks := B.notSynchronized
  subst hsz
  have hD := hD0.self (sz := s.heap.size)
  have hT := hT0
  clear hT0
  generalize hAe : va_A [] s.heap.size = A at hD hT ⊢
  have hA : ∀ q : Nat, s.heap.size ≤ q → A q := fun q h => by rw [← hAe]; exact Or.inr h
  obtain ⟨H, hH0⟩ : ∃ H, H = s.heap := ⟨_, rfl⟩
  have hS : va_S A s.heap H [] := by rw [hH0]; exact va_S.rf
  have hP : va_P g.1 CLS [] H := by rw [hH0]; exact hP
  rw [← hH0]
  have hl := lv_entry ([.int n1, .int n2]) (n := 2) (Nat.le_of_ble_eq_true rfl)
  rw [lg_entry_eq]
  generalize (lg_sl ([.int n1, .int n2]) ++ List.replicate (2 - (lg_sl ([.int n1, .int n2])).length) Slot.unset).toArray = ls at hl ⊢
  have hl : lv_has ls 2 [(0, .int n1), (1, .int n2)] := hl
  refine lv_iload_n hx hb dX11_isCell_0 rfl (lv_at hl 0 rfl) ?_
  refine lv_i2l (v := n1.toInt64) hx hb dX11_isCell_1 rfl ?_
  refine lv_lconst (v := 0) hx hb dX11_isCell_2 (by decide) ?_
  refine lv_ldc2 (own := "HeroTableModel") (index := 53) (v := 7) hx hb hown (htg _ k1399) dX11_isCell_3 ?_
  have hPc := hP.sub (ws' := []) [] rfl
  have hDc := hD.sub (ws' := []) [] (by decide) rfl
  have hFc := va_free (wc := []) hD hS hA [] rfl
  refine q_ci (wr := []) (va_runS (As := [.long n1.toInt64, .long 0, .long 7]) (rest := []) ⟨hx, hb, hml, hown, htg⟩ (c_X11_in l hfl g n1.toInt64 0 7  H.size) ⟨(qB htg k1393 k57 k1391 ok_X11_in rfl rfl ⟨Nat.le_of_ble_eq_true rfl, Nat.le_of_ble_eq_true rfl⟩), htg _ k1392⟩ (q_pre [.long n1.toInt64, .long 0, .long 7] hPc hDc hK hS hT hFc) rfl rfl hl.1 rfl (lv_room (Nat.le_of_ble_eq_true rfl)) dX11_isCell_6 ⟨Nat.le_of_ble_eq_true rfl, Nat.le_of_ble_eq_true rfl⟩) hP hD hS hFc [] [] rfl rfl (by decide) (by decide) (fun r9 u9 H locs hw hP hD hS => ?_)
  try dsimp only at hw
  rcases hw with ⟨c_1, rfl, rfl⟩ | ⟨c_2, rfl, rfl⟩
  · have hP : va_P g.1 CLS [] H := hP
    have hD : va_D A [] := hD
    refine W.widen (k := 0) (n := 0) (Nat.le_of_ble_eq_true rfl) (Nat.le_of_ble_eq_true rfl) ?_
    refine lv_if_eq (tgt := 28) hx hb dX11_isCell_9 (by decide) (fun c_3 => absurd c_3 (by decide)) (fun c_3 => ?_)
    refine lv_iload_n hx hb dX11_isCell_12 rfl (lv_at hl 1 rfl) ?_
    refine lv_i2l (v := n2.toInt64) hx hb dX11_isCell_13 rfl ?_
    refine lv_lconst (v := 0) hx hb dX11_isCell_14 (by decide) ?_
    refine lv_ldc2 (own := "HeroTableModel") (index := 53) (v := 7) hx hb hown (htg _ k1399) dX11_isCell_15 ?_
    have hPc := hP.sub (ws' := []) [] rfl
    have hDc := hD.sub (ws' := []) [] (by decide) rfl
    have hFc := va_free (wc := []) hD hS hA [] rfl
    refine q_ci (wr := []) (va_runS (As := [.long n2.toInt64, .long 0, .long 7]) (rest := []) ⟨hx, hb, hml, hown, htg⟩ (c_X11_in l hfl g n2.toInt64 0 7  H.size) ⟨(qB htg k1393 k57 k1391 ok_X11_in rfl rfl ⟨Nat.le_of_ble_eq_true rfl, Nat.le_of_ble_eq_true rfl⟩), htg _ k1392⟩ (q_pre [.long n2.toInt64, .long 0, .long 7] hPc hDc hK hS hT hFc) rfl rfl hl.1 rfl (lv_room (Nat.le_of_ble_eq_true rfl)) dX11_isCell_18 ⟨Nat.le_of_ble_eq_true rfl, Nat.le_of_ble_eq_true rfl⟩) hP hD hS hFc [] [] rfl rfl (by decide) (by decide) (fun r9 u9 H locs hw hP hD hS => ?_)
    try dsimp only at hw
    rcases hw with ⟨c_4, rfl, rfl⟩ | ⟨c_5, rfl, rfl⟩
    · have hP : va_P g.1 CLS [] H := hP
      have hD : va_D A [] := hD
      refine W.widen (k := 0) (n := 0) (Nat.le_of_ble_eq_true rfl) (Nat.le_of_ble_eq_true rfl) ?_
      refine lv_if_eq (tgt := 28) hx hb dX11_isCell_21 (by decide) (fun c_6 => absurd c_6 (by decide)) (fun c_6 => ?_)
      refine lv_iconst (v := 1) hx hb dX11_isCell_24 (by decide) ?_
      refine lv_goto (tgt := 29) hx hb dX11_isCell_25 (by decide) ?_
      have hP9 := hP.sub (ws' := []) [] rfl
      have hD9 := hD.sub (ws' := []) [] (by decide) rfl
      refine W.widen (k := 0) (n := 0) (Nat.le_of_ble_eq_true rfl) (Nat.le_of_ble_eq_true rfl) ?_
      exact W.zret (v := 1) hx hb hr rfl (fun t ht hW => ⟨⟨1, [], rfl, Or.inl ⟨by simp only [okCell]; simp only [inR, Int32.toInt_toInt64, ll0, ll1, ll7, ll99, ll30, ll9, ll40, ll50, ll20, lln20, lln1, fa_lt, fa_le, fa_eq, li0, li1, li97, li99, li103, li109, li115, li120] at c_1 c_4 ⊢; omega, rfl, rfl⟩, by rw [ht]; exact hP9, va_K.moved hW.alike hK, hD9⟩, hS.F ht⟩) hS.2.2 dX11_isCell_29
    · have hP : va_P g.1 CLS [] H := hP
      have hD : va_D A [] := hD
      refine W.widen (k := 0) (n := 0) (Nat.le_of_ble_eq_true rfl) (Nat.le_of_ble_eq_true rfl) ?_
      refine lv_if_eq (tgt := 28) hx hb dX11_isCell_21 (by decide) (fun c_7 => ?_) (fun c_7 => absurd (by decide) c_7)
      refine lv_iconst (v := 0) hx hb dX11_isCell_28 (by decide) ?_
      have hP9 := hP.sub (ws' := []) [] rfl
      have hD9 := hD.sub (ws' := []) [] (by decide) rfl
      refine W.widen (k := 0) (n := 0) (Nat.le_of_ble_eq_true rfl) (Nat.le_of_ble_eq_true rfl) ?_
      exact W.zret (v := 0) hx hb hr rfl (fun t ht hW => ⟨⟨0, [], rfl, Or.inr (⟨by simp only [okCell]; simp only [inR, Int32.toInt_toInt64, ll0, ll1, ll7, ll99, ll30, ll9, ll40, ll50, ll20, lln20, lln1, fa_lt, fa_le, fa_eq, li0, li1, li97, li99, li103, li109, li115, li120] at c_1 c_5 ⊢; omega, rfl, rfl⟩), by rw [ht]; exact hP9, va_K.moved hW.alike hK, hD9⟩, hS.F ht⟩) hS.2.2 dX11_isCell_29
  · have hP : va_P g.1 CLS [] H := hP
    have hD : va_D A [] := hD
    refine W.widen (k := 0) (n := 0) (Nat.le_of_ble_eq_true rfl) (Nat.le_of_ble_eq_true rfl) ?_
    refine lv_if_eq (tgt := 28) hx hb dX11_isCell_9 (by decide) (fun c_8 => ?_) (fun c_8 => absurd (by decide) c_8)
    refine lv_iconst (v := 0) hx hb dX11_isCell_28 (by decide) ?_
    have hP9 := hP.sub (ws' := []) [] rfl
    have hD9 := hD.sub (ws' := []) [] (by decide) rfl
    refine W.widen (k := 0) (n := 0) (Nat.le_of_ble_eq_true rfl) (Nat.le_of_ble_eq_true rfl) ?_
    exact W.zret (v := 0) hx hb hr rfl (fun t ht hW => ⟨⟨0, [], rfl, Or.inr (⟨by simp only [okCell]; simp only [inR, Int32.toInt_toInt64, ll0, ll1, ll7, ll99, ll30, ll9, ll40, ll50, ll20, lln20, lln1, fa_lt, fa_le, fa_eq, li0, li1, li97, li99, li103, li109, li115, li120] at c_2 ⊢; omega, rfl, rfl⟩), by rw [ht]; exact hP9, va_K.moved hW.alike hK, hD9⟩, hS.F ht⟩) hS.2.2 dX11_isCell_29

set_option maxHeartbeats 4000000 in
set_option maxRecDepth 100000 in
theorem c_X11_isHero (l : Launch) (hfl : l.stackTraces = false) (g : GP) (m0 : Nat) (mh : Nat) (mg : Nat) (ms : Nat) (md : Nat) (mc : Nat) (mr : Nat) (n1 : Int32)  : CI l yX11_isHero (wG yX11_isHero cX11_isHero 2 (Option.some Jvm.ClassFile.FieldType.boolean)) (LV 2 0 0) g [.ref m0, .int n1] ([(m0, .inr (11, [.ref mh, .ref mg, .ref ms, .ref md, .ref mc, .ref mr, .int (-1), .int 0, .int 0, .int 0, .long 0, .int 0, .int 0, .int 0])), (mh, .inr (1, [.int 0, .ref (g.2.2 1), .int 0]))]) (fun (r : Int32) (u : va_W) => r = 0 ∧ u = [(m0, .inr (11, [.ref mh, .ref mg, .ref ms, .ref md, .ref mc, .ref mr, .int (-1), .int 0, .int 0, .int 0, .long 0, .int 0, .int 0, .int 0])), (mh, .inr (1, [.int 0, .ref (g.2.2 1), .int 0]))]) := by
  intro sz
  refine Met.ofW (cc := cX11_isHero) (maxL := 2) (ret := (Option.some Jvm.ClassFile.FieldType.boolean)) (by decide) rfl ?_
  intro p e s m args below meth c s₁ B hml hv
  obtain ⟨rfl, hsz, hP, hK, hD0, hT0⟩ := hv
  have hx := B.exec
  have hb := B.bytes
  have hr := B.returns
  have hts := atoms_spec (ws := (wG yX11_isHero cX11_isHero 2 (Option.some Jvm.ClassFile.FieldType.boolean))) B.pre
  have htg : ∀ w ∈ G9, w.before _ s = true := fun w h => hts w (List.mem_cons_of_mem _ h)
  have hown : s.vm.findClass "HeroTableModel" = some m.cls := findClass_of_methodNamed B.named
  have hlocks := B.notSynchronized
  subst hsz
  have hD := hD0.self (sz := s.heap.size)
  have hT := hT0
  clear hT0
  generalize hAe : va_A [(m0, .inr (11, [.ref mh, .ref mg, .ref ms, .ref md, .ref mc, .ref mr, .int (-1), .int 0, .int 0, .int 0, .long 0, .int 0, .int 0, .int 0])), (mh, .inr (1, [.int 0, .ref (g.2.2 1), .int 0]))] s.heap.size = A at hD hT ⊢
  have hA : ∀ q : Nat, s.heap.size ≤ q → A q := fun q h => by rw [← hAe]; exact Or.inr h
  obtain ⟨H, hH0⟩ : ∃ H, H = s.heap := ⟨_, rfl⟩
  have hS : va_S A s.heap H [] := by rw [hH0]; exact va_S.rf
  have hP : va_P g.1 CLS [(m0, .inr (11, [.ref mh, .ref mg, .ref ms, .ref md, .ref mc, .ref mr, .int (-1), .int 0, .int 0, .int 0, .long 0, .int 0, .int 0, .int 0])), (mh, .inr (1, [.int 0, .ref (g.2.2 1), .int 0]))] H := by rw [hH0]; exact hP
  rw [← hH0]
  have hl := lv_entry ([.ref m0, .int n1]) (n := 2) (Nat.le_of_ble_eq_true rfl)
  rw [lg_entry_eq]
  generalize (lg_sl ([.ref m0, .int n1]) ++ List.replicate (2 - (lg_sl ([.ref m0, .int n1])).length) Slot.unset).toArray = ls at hl ⊢
  have hl : lv_has ls 2 [(0, .ref m0), (1, .int n1)] := hl
  refine lv_iload_n hx hb dX11_isHero_0 rfl (lv_at hl 1 rfl) ?_
  refine lv_i2l (v := n1.toInt64) hx hb dX11_isHero_1 rfl ?_
  refine lv_lconst (v := 0) hx hb dX11_isHero_2 (by decide) ?_
  refine lv_aload_n hx hb dX11_isHero_3 rfl (lv_at hl 0 rfl) ?_
  refine va_get (D := g.1) (ci := 11) (v := .ref mh) (C := RX11) (T := TX11) (N := 14) hx hb htg inG_X11 hown hK hP 0 rfl rfl 0 (by decide) (htg _ k1340) (fun _ h9 => h9) rfl dX11_isHero_4 ?_
  have hPc := hP.sub (ws' := [(mh, .inr (1, [.int 0, .ref (g.2.2 1), .int 0]))]) [1] rfl
  have hDc := hD.sub (ws' := [(mh, .inr (1, [.int 0, .ref (g.2.2 1), .int 0]))]) [1] (by decide) rfl
  have hFc := va_free (wc := [(mh, .inr (1, [.int 0, .ref (g.2.2 1), .int 0]))]) hD hS hA [1] rfl
  refine q_cFi (wr := [(m0, .inr (11, [.ref mh, .ref mg, .ref ms, .ref md, .ref mc, .ref mr, .int (-1), .int 0, .int 0, .int 0, .long 0, .int 0, .int 0, .int 0]))]) (va_runF (As := []) (rest := [.long 0, .long n1.toInt64]) (hK.1 1 _ rfl).2 ⟨hx, hb, hml, hown, htg⟩ (c_L_size l hfl g mh (g.2.2 1) 0 0  H.size) (qI5 htg k1409 k60 k1401 k1405 k1407 (hT.1.2.2.1.1) okx_size rfl rfl ⟨Nat.le_of_ble_eq_true rfl, Nat.le_of_ble_eq_true rfl⟩) ⟨(q_pre [.ref mh] hPc hDc hK hS hT hFc).1, va_recv hK hP (ci := 1) (q0 := 1) rfl rfl, (q_pre [.ref mh] hPc hDc hK hS hT hFc).2⟩ rfl rfl hl.1 rfl (lv_room (Nat.le_of_ble_eq_true rfl)) dX11_isHero_7 ⟨Nat.le_of_ble_eq_true rfl, Nat.le_of_ble_eq_true rfl⟩) hP hD hS hFc [1] [0] rfl rfl (by decide) (by decide) (fun r9 u9 H locs hw hP hD hS => ?_)
  try dsimp only at hw
  rcases hw with ⟨rfl, rfl⟩
  have hP : va_P g.1 CLS [(m0, .inr (11, [.ref mh, .ref mg, .ref ms, .ref md, .ref mc, .ref mr, .int (-1), .int 0, .int 0, .int 0, .long 0, .int 0, .int 0, .int 0])), (mh, .inr (1, [.int 0, .ref (g.2.2 1), .int 0]))] H := hP
  have hD : va_D A [(m0, .inr (11, [.ref mh, .ref mg, .ref ms, .ref md, .ref mc, .ref mr, .int (-1), .int 0, .int 0, .int 0, .long 0, .int 0, .int 0, .int 0])), (mh, .inr (1, [.int 0, .ref (g.2.2 1), .int 0]))] := hD
  refine W.widen (k := 0) (n := 0) (Nat.le_of_ble_eq_true rfl) (Nat.le_of_ble_eq_true rfl) ?_
  refine lv_iconst (v := 1) hx hb dX11_isHero_12 (by decide) ?_
  refine lv_isub hx hb dX11_isHero_13 ?_
  refine lv_topi (fun x_1 ex_1 => ?_)
  obtain rfl : x_1 = (-1) := ex_1.trans (by decide)
  refine lv_i2l (v := (-1)) hx hb dX11_isHero_14 (by decide) ?_
  have hPc := hP.sub (ws' := []) [] rfl
  have hDc := hD.sub (ws' := []) [] (by decide) rfl
  have hFc := va_free (wc := []) hD hS hA [] rfl
  refine q_ci (wr := [(m0, .inr (11, [.ref mh, .ref mg, .ref ms, .ref md, .ref mc, .ref mr, .int (-1), .int 0, .int 0, .int 0, .long 0, .int 0, .int 0, .int 0])), (mh, .inr (1, [.int 0, .ref (g.2.2 1), .int 0]))]) (va_runS (As := [.long n1.toInt64, .long 0, .long (-1)]) (rest := []) ⟨hx, hb, hml, hown, htg⟩ (c_X11_in l hfl g n1.toInt64 0 (-1)  H.size) ⟨(qB htg k1393 k57 k1391 ok_X11_in rfl rfl ⟨Nat.le_of_ble_eq_true rfl, Nat.le_of_ble_eq_true rfl⟩), htg _ k1392⟩ (q_pre [.long n1.toInt64, .long 0, .long (-1)] hPc hDc hK hS hT hFc) rfl rfl hl.1 rfl (lv_room (Nat.le_of_ble_eq_true rfl)) dX11_isHero_15 ⟨Nat.le_of_ble_eq_true rfl, Nat.le_of_ble_eq_true rfl⟩) hP hD hS hFc [] [0, 1] rfl rfl (by decide) (by decide) (fun r9 u9 H locs hw hP hD hS => ?_)
  try dsimp only at hw
  rcases hw with ⟨c_2, rfl, rfl⟩ | ⟨c_3, rfl, rfl⟩
  · exact absurd c_2 inNo
  · have hP : va_P g.1 CLS [(m0, .inr (11, [.ref mh, .ref mg, .ref ms, .ref md, .ref mc, .ref mr, .int (-1), .int 0, .int 0, .int 0, .long 0, .int 0, .int 0, .int 0])), (mh, .inr (1, [.int 0, .ref (g.2.2 1), .int 0]))] H := hP
    have hD : va_D A [(m0, .inr (11, [.ref mh, .ref mg, .ref ms, .ref md, .ref mc, .ref mr, .int (-1), .int 0, .int 0, .int 0, .long 0, .int 0, .int 0, .int 0])), (mh, .inr (1, [.int 0, .ref (g.2.2 1), .int 0]))] := hD
    refine W.widen (k := 0) (n := 0) (Nat.le_of_ble_eq_true rfl) (Nat.le_of_ble_eq_true rfl) ?_
    have hP9 := hP.sub (ws' := [(m0, .inr (11, [.ref mh, .ref mg, .ref ms, .ref md, .ref mc, .ref mr, .int (-1), .int 0, .int 0, .int 0, .long 0, .int 0, .int 0, .int 0])), (mh, .inr (1, [.int 0, .ref (g.2.2 1), .int 0]))]) [0, 1] rfl
    have hD9 := hD.sub (ws' := [(m0, .inr (11, [.ref mh, .ref mg, .ref ms, .ref md, .ref mc, .ref mr, .int (-1), .int 0, .int 0, .int 0, .long 0, .int 0, .int 0, .int 0])), (mh, .inr (1, [.int 0, .ref (g.2.2 1), .int 0]))]) [0, 1] (by decide) rfl
    refine W.widen (k := 0) (n := 0) (Nat.le_of_ble_eq_true rfl) (Nat.le_of_ble_eq_true rfl) ?_
    exact W.zret (v := 0) hx hb hr rfl (fun t ht hW => ⟨⟨0, [(m0, .inr (11, [.ref mh, .ref mg, .ref ms, .ref md, .ref mc, .ref mr, .int (-1), .int 0, .int 0, .int 0, .long 0, .int 0, .int 0, .int 0])), (mh, .inr (1, [.int 0, .ref (g.2.2 1), .int 0]))], rfl, ⟨rfl, rfl⟩, by rw [ht]; exact hP9, va_K.moved hW.alike hK, hD9⟩, hS.F ht⟩) hS.2.2 dX11_isHero_18

set_option maxHeartbeats 4000000 in
set_option maxRecDepth 100000 in
theorem c_X11_heroIn (l : Launch) (hfl : l.stackTraces = false) (g : GP) (m0 : Nat) (mh : Nat) (mg : Nat) (ms : Nat) (md : Nat) (mc : Nat) (mr : Nat) (n1 : Int32) (n2 : Int32)  : CQ l yX11_heroIn (wG yX11_heroIn cX11_heroIn 5 (Option.some (Jvm.ClassFile.FieldType.object "HeroTableModel$Hero"))) (LV 4 1 4) g [.ref m0, .int n1, .int n2] ([(m0, .inr (11, [.ref mh, .ref mg, .ref ms, .ref md, .ref mc, .ref mr, .int (-1), .int 0, .int 0, .int 0, .long 0, .int 0, .int 0, .int 0])), (mh, .inr (1, [.int 0, .ref (g.2.2 1), .int 0]))]) (fun (r : Option Nat) (u : va_W) => r = none ∧ u = [(m0, .inr (11, [.ref mh, .ref mg, .ref ms, .ref md, .ref mc, .ref mr, .int (-1), .int 0, .int 0, .int 0, .long 0, .int 0, .int 0, .int 0])), (mh, .inr (1, [.int 0, .ref (g.2.2 1), .int 0]))]) := by
  intro sz
  refine Met.ofW (cc := cX11_heroIn) (maxL := 5) (ret := (Option.some (Jvm.ClassFile.FieldType.object "HeroTableModel$Hero"))) (by decide) rfl ?_
  intro p e s m args below meth c s₁ B hml hv
  obtain ⟨rfl, hsz, hP, hK, hD0, hT0⟩ := hv
  have hx := B.exec
  have hb := B.bytes
  have hr := B.returns
  have hts := atoms_spec (ws := (wG yX11_heroIn cX11_heroIn 5 (Option.some (Jvm.ClassFile.FieldType.object "HeroTableModel$Hero")))) B.pre
  have htg : ∀ w ∈ G9, w.before _ s = true := fun w h => hts w (List.mem_cons_of_mem _ h)
  have hown : s.vm.findClass "HeroTableModel" = some m.cls := findClass_of_methodNamed B.named
  have hlocks := B.notSynchronized
  subst hsz
  have hD := hD0.self (sz := s.heap.size)
  have hT := hT0
  clear hT0
  generalize hAe : va_A [(m0, .inr (11, [.ref mh, .ref mg, .ref ms, .ref md, .ref mc, .ref mr, .int (-1), .int 0, .int 0, .int 0, .long 0, .int 0, .int 0, .int 0])), (mh, .inr (1, [.int 0, .ref (g.2.2 1), .int 0]))] s.heap.size = A at hD hT ⊢
  have hA : ∀ q : Nat, s.heap.size ≤ q → A q := fun q h => by rw [← hAe]; exact Or.inr h
  obtain ⟨H, hH0⟩ : ∃ H, H = s.heap := ⟨_, rfl⟩
  have hS : va_S A s.heap H [] := by rw [hH0]; exact va_S.rf
  have hP : va_P g.1 CLS [(m0, .inr (11, [.ref mh, .ref mg, .ref ms, .ref md, .ref mc, .ref mr, .int (-1), .int 0, .int 0, .int 0, .long 0, .int 0, .int 0, .int 0])), (mh, .inr (1, [.int 0, .ref (g.2.2 1), .int 0]))] H := by rw [hH0]; exact hP
  rw [← hH0]
  have hl := lv_entry ([.ref m0, .int n1, .int n2]) (n := 5) (Nat.le_of_ble_eq_true rfl)
  rw [lg_entry_eq]
  generalize (lg_sl ([.ref m0, .int n1, .int n2]) ++ List.replicate (5 - (lg_sl ([.ref m0, .int n1, .int n2])).length) Slot.unset).toArray = ls at hl ⊢
  have hl : lv_has ls 5 [(0, .ref m0), (1, .int n1), (2, .int n2)] := hl
  refine lv_aload_n hx hb dX11_heroIn_0 rfl (lv_at hl 0 rfl) ?_
  refine va_get (D := g.1) (ci := 11) (v := .ref mh) (C := RX11) (T := TX11) (N := 14) hx hb htg inG_X11 hown hK hP 0 rfl rfl 0 (by decide) (htg _ k1340) (fun _ h9 => h9) rfl dX11_heroIn_1 ?_
  have hPc := hP.sub (ws' := [(mh, .inr (1, [.int 0, .ref (g.2.2 1), .int 0]))]) [1] rfl
  have hDc := hD.sub (ws' := [(mh, .inr (1, [.int 0, .ref (g.2.2 1), .int 0]))]) [1] (by decide) rfl
  have hFc := va_free (wc := [(mh, .inr (1, [.int 0, .ref (g.2.2 1), .int 0]))]) hD hS hA [1] rfl
  refine q_cFq (wr := [(m0, .inr (11, [.ref mh, .ref mg, .ref ms, .ref md, .ref mc, .ref mr, .int (-1), .int 0, .int 0, .int 0, .long 0, .int 0, .int 0, .int 0]))]) (va_runF (As := []) (rest := []) (hK.1 1 _ rfl).2 ⟨hx, hb, hml, hown, htg⟩ (c_L_iterator l hfl g mh  H.size) (qI5 htg k1426 k60 k1419 k1422 k1424 (hT.1.2.2.1.2.2.1) okx_iterator rfl rfl ⟨Nat.le_of_ble_eq_true rfl, Nat.le_of_ble_eq_true rfl⟩) ⟨(q_pre [.ref mh] hPc hDc hK hS hT hFc).1, va_recv hK hP (ci := 1) (q0 := 1) rfl rfl, (q_pre [.ref mh] hPc hDc hK hS hT hFc).2⟩ rfl rfl hl.1 rfl (lv_room (Nat.le_of_ble_eq_true rfl)) dX11_heroIn_4 ⟨Nat.le_of_ble_eq_true rfl, Nat.le_of_ble_eq_true rfl⟩) hP hD hS hFc [1] [0] rfl rfl (by decide) (by decide) (fun r9 u9 H locs hw hP hD hS => ?_)
  try dsimp only at hw
  rcases hw with ⟨q_1, rfl, rfl⟩
  have hP : va_P g.1 CLS [(m0, .inr (11, [.ref mh, .ref mg, .ref ms, .ref md, .ref mc, .ref mr, .int (-1), .int 0, .int 0, .int 0, .long 0, .int 0, .int 0, .int 0])), (mh, .inr (1, [.int 0, .ref (g.2.2 1), .int 0])), (q_1, .inr (0, [.int 0, .int (-1), .int 0, .ref mh]))] H := hP
  have hD : va_D A [(m0, .inr (11, [.ref mh, .ref mg, .ref ms, .ref md, .ref mc, .ref mr, .int (-1), .int 0, .int 0, .int 0, .long 0, .int 0, .int 0, .int 0])), (mh, .inr (1, [.int 0, .ref (g.2.2 1), .int 0])), (q_1, .inr (0, [.int 0, .int (-1), .int 0, .ref mh]))] := hD
  refine W.widen (k := 1) (n := 4) (Nat.le_of_ble_eq_true rfl) (Nat.le_of_ble_eq_true rfl) ?_
  refine lv_astore_n (lv' := [(3, .ref q_1), (0, .ref m0), (1, .int n1), (2, .int n2)]) hx hb dX11_heroIn_9 rfl hl (by decide) rfl (fun ls hl => ?_)
  refine lv_aload_n hx hb dX11_heroIn_10 rfl (lv_at hl 0 rfl) ?_
  have hPc := hP.sub (ws' := [(q_1, .inr (0, [.int 0, .int (-1), .int 0, .ref mh])), (mh, .inr (1, [.int 0, .ref (g.2.2 1), .int 0]))]) [2, 1] rfl
  have hDc := hD.sub (ws' := [(q_1, .inr (0, [.int 0, .int (-1), .int 0, .ref mh])), (mh, .inr (1, [.int 0, .ref (g.2.2 1), .int 0]))]) [2, 1] (by decide) rfl
  have hFc := va_free (wc := [(q_1, .inr (0, [.int 0, .int (-1), .int 0, .ref mh])), (mh, .inr (1, [.int 0, .ref (g.2.2 1), .int 0]))]) hD hS hA [2, 1] rfl
  refine q_cFi (wr := [(m0, .inr (11, [.ref mh, .ref mg, .ref ms, .ref md, .ref mc, .ref mr, .int (-1), .int 0, .int 0, .int 0, .long 0, .int 0, .int 0, .int 0]))]) (va_runF (As := []) (rest := []) (hK.1 0 _ rfl).2 ⟨hx, hb, hml, hown, htg⟩ (c_Itr_hasNext l hfl g q_1 mh  H.size) (qI5 htg k1455 k73 k1447 k1451 k1453 (hT.1.2.2.1.2.2.2.2) okx_hasNext rfl rfl ⟨Nat.le_of_ble_eq_true rfl, Nat.le_of_ble_eq_true rfl⟩) ⟨(q_pre [.ref q_1] hPc hDc hK hS hT hFc).1, va_recv hK hP (ci := 0) (q0 := 2) rfl rfl, (q_pre [.ref q_1] hPc hDc hK hS hT hFc).2⟩ rfl rfl hl.1 rfl (lv_room (Nat.le_of_ble_eq_true rfl)) dX11_heroIn_11 ⟨Nat.le_of_ble_eq_true rfl, Nat.le_of_ble_eq_true rfl⟩) hP hD hS hFc [2, 1] [0] rfl rfl (by decide) (by decide) (fun r9 u9 H locs hw hP hD hS => ?_)
  try dsimp only at hw
  rcases hw with ⟨rfl, rfl⟩
  have hP : va_P g.1 CLS [(m0, .inr (11, [.ref mh, .ref mg, .ref ms, .ref md, .ref mc, .ref mr, .int (-1), .int 0, .int 0, .int 0, .long 0, .int 0, .int 0, .int 0])), (q_1, .inr (0, [.int 0, .int (-1), .int 0, .ref mh])), (mh, .inr (1, [.int 0, .ref (g.2.2 1), .int 0]))] H := hP
  have hD : va_D A [(m0, .inr (11, [.ref mh, .ref mg, .ref ms, .ref md, .ref mc, .ref mr, .int (-1), .int 0, .int 0, .int 0, .long 0, .int 0, .int 0, .int 0])), (q_1, .inr (0, [.int 0, .int (-1), .int 0, .ref mh])), (mh, .inr (1, [.int 0, .ref (g.2.2 1), .int 0]))] := hD
  refine W.widen (k := 1) (n := 4) (Nat.le_of_ble_eq_true rfl) (Nat.le_of_ble_eq_true rfl) ?_
  refine lv_if_eq (tgt := 54) hx hb dX11_heroIn_16 (by decide) (fun c_2 => ?_) (fun c_2 => absurd (by decide) c_2)
  refine lv_null hx hb dX11_heroIn_54 ?_
  have hP9 := hP.sub (ws' := [(m0, .inr (11, [.ref mh, .ref mg, .ref ms, .ref md, .ref mc, .ref mr, .int (-1), .int 0, .int 0, .int 0, .long 0, .int 0, .int 0, .int 0])), (mh, .inr (1, [.int 0, .ref (g.2.2 1), .int 0]))]) [0, 2] rfl
  have hD9 := hD.sub (ws' := [(m0, .inr (11, [.ref mh, .ref mg, .ref ms, .ref md, .ref mc, .ref mr, .int (-1), .int 0, .int 0, .int 0, .long 0, .int 0, .int 0, .int 0])), (mh, .inr (1, [.int 0, .ref (g.2.2 1), .int 0]))]) [0, 2] (by decide) rfl
  refine W.widen (k := 1) (n := 4) (Nat.le_of_ble_eq_true rfl) (Nat.le_of_ble_eq_true rfl) ?_
  exact W.aret (v := .null) hx hb hr (Or.inl ⟨_, rfl⟩) (Or.inl rfl) (fun t ht hW => ⟨⟨none, [(m0, .inr (11, [.ref mh, .ref mg, .ref ms, .ref md, .ref mc, .ref mr, .int (-1), .int 0, .int 0, .int 0, .long 0, .int 0, .int 0, .int 0])), (mh, .inr (1, [.int 0, .ref (g.2.2 1), .int 0]))], rfl, ⟨rfl, rfl⟩, by rw [ht]; exact hP9, va_K.moved hW.alike hK, hD9⟩, hS.F ht⟩) hS.2.2 dX11_heroIn_55

set_option maxHeartbeats 4000000 in
set_option maxRecDepth 100000 in
theorem c_X8_init (l : Launch) (hfl : l.stackTraces = false) (g : GP) (z0 : Nat) (n1 : Int32) (z1 : Nat) (hn1 : narrow .char (.int n1) = .int n1) (hn2 : fits .char (.int n1) = true) : CV l yX8_init (wG yX8_init cX8_init 3 (Option.none : Option Jvm.ClassFile.FieldType)) (LV 2 0 0) g [.ref z0, .int n1, .ref z1] ([(z0, .inr (9, [.int 0, .null]))]) (fun (u : va_W) => u = [(z0, .inr (9, [.int n1, .ref z1]))]) := by
  intro sz
  refine Met.ofW (cc := cX8_init) (maxL := 3) (ret := (Option.none : Option Jvm.ClassFile.FieldType)) (by decide) rfl ?_
  intro p e s m args below meth c s₁ B hml hv
  obtain ⟨rfl, hsz, hP, hK, hD0, hT0⟩ := hv
  have hx := B.exec
  have hb := B.bytes
  have hr := B.returns
  have hts := atoms_spec (ws := (wG yX8_init cX8_init 3 (Option.none : Option Jvm.ClassFile.FieldType))) B.pre
  have htg : ∀ w ∈ G9, w.before _ s = true := fun w h => hts w (List.mem_cons_of_mem _ h)
  have hown : s.vm.findClass "HeroTableModel$Call" = some m.cls := findClass_of_methodNamed B.named
  have hlocks := B.notSynchronized
  have hin : meth.name = "<init>" := (name_of_methodNamed B.named B.method).1
  subst hsz
  have hD := hD0.self (sz := s.heap.size)
  have hT := hT0
  clear hT0
  generalize hAe : va_A [(z0, .inr (9, [.int 0, .null]))] s.heap.size = A at hD hT ⊢
  have hA : ∀ q : Nat, s.heap.size ≤ q → A q := fun q h => by rw [← hAe]; exact Or.inr h
  obtain ⟨H, hH0⟩ : ∃ H, H = s.heap := ⟨_, rfl⟩
  have hS : va_S A s.heap H [] := by rw [hH0]; exact va_S.rf
  have hP : va_P g.1 CLS [(z0, .inr (9, [.int 0, .null]))] H := by rw [hH0]; exact hP
  rw [← hH0]
  have hl := lv_entry ([.ref z0, .int n1, .ref z1]) (n := 3) (Nat.le_of_ble_eq_true rfl)
  rw [lg_entry_eq]
  generalize (lg_sl ([.ref z0, .int n1, .ref z1]) ++ List.replicate (3 - (lg_sl ([.ref z0, .int n1, .ref z1])).length) Slot.unset).toArray = ls at hl ⊢
  have hl : lv_has ls 3 [(0, .ref z0), (1, .int n1), (2, .ref z1)] := hl
  refine lv_aload_n hx hb dX8_init_0 rfl (lv_at hl 0 rfl) ?_
  refine W.objInit hx hb hown (htg _ k1490) (htg _ k98) (htg _ k99) rfl (by rw [hml]; exact hl.1) rfl dX8_init_1 (Nat.le_of_ble_eq_true rfl) (Nat.le_of_ble_eq_true rfl) ?_
  refine W.eq (g2 := F0 m 4 ls []) rfl ?_
  refine lv_aload_n hx hb dX8_init_4 rfl (lv_at hl 0 rfl) ?_
  refine lv_iload_n hx hb dX8_init_5 rfl (lv_at hl 1 rfl) ?_
  refine va_putF (D := g.1) (ci := 9) (v := .int n1) (ty := .char) (C := RX8) (T := TX8) (N := 2) hx hb htg inG_X8 tyX8 tyX8_ok nmX8 hown hK hP hD hS 0 rfl rfl 0 (by decide) (htg _ k1491) (fun _ h9 => h9) rfl hin rfl (by decide +kernel) hn1 hn2 (Nat.le_of_ble_eq_true rfl) dX8_init_6 (fun H locs hP hD hS => ?_)
  have hP : va_P g.1 CLS [(z0, .inr (9, [.int n1, .null]))] H := hP
  have hD : va_D A [(z0, .inr (9, [.int n1, .null]))] := hD
  refine lv_aload_n hx hb dX8_init_9 rfl (lv_at hl 0 rfl) ?_
  refine lv_aload_n hx hb dX8_init_10 rfl (lv_at hl 2 rfl) ?_
  refine va_putF (D := g.1) (ci := 9) (v := .ref z1) (ty := (.array .int)) (C := RX8) (T := TX8) (N := 2) hx hb htg inG_X8 tyX8 tyX8_ok nmX8 hown hK hP hD hS 0 rfl rfl 1 (by decide) (htg _ k1493) (fun _ h9 => h9) rfl hin rfl (by decide +kernel) rfl rfl (Nat.le_of_ble_eq_true rfl) dX8_init_11 (fun H locs hP hD hS => ?_)
  have hP : va_P g.1 CLS [(z0, .inr (9, [.int n1, .ref z1]))] H := hP
  have hD : va_D A [(z0, .inr (9, [.int n1, .ref z1]))] := hD
  have hP9 := hP.sub (ws' := [(z0, .inr (9, [.int n1, .ref z1]))]) [0] rfl
  have hD9 := hD.sub (ws' := [(z0, .inr (9, [.int n1, .ref z1]))]) [0] (by decide) rfl
  refine W.widen (k := 0) (n := 0) (Nat.le_of_ble_eq_true rfl) (Nat.le_of_ble_eq_true rfl) ?_
  exact W.vret hx hb hr (fun t ht hW => ⟨⟨[(z0, .inr (9, [.int n1, .ref z1]))], rfl, rfl, by rw [ht]; exact hP9, va_K.moved hW.alike hK, hD9⟩, hS.F ht⟩) hS.2.2 dX8_init_14

set_option maxHeartbeats 4000000 in
set_option maxRecDepth 100000 in
theorem c_X11_keep (l : Launch) (hfl : l.stackTraces = false) (g : GP) (m0 : Nat) (mh : Nat) (mg : Nat) (ms : Nat) (md : Nat) (mc : Nat) (mr : Nat) (n1 : Int32) (z1 : Nat) (hn1 : narrow .char (.int n1) = .int n1) (hn2 : fits .char (.int n1) = true) : CV l yX11_keep (wG yX11_keep cX11_keep 3 (Option.none : Option Jvm.ClassFile.FieldType)) (LV 6 3 16) g [.ref m0, .int n1, .ref z1] ([(m0, .inr (11, [.ref mh, .ref mg, .ref ms, .ref md, .ref mc, .ref mr, .int (-1), .int 0, .int 0, .int 0, .long 0, .int 0, .int 0, .int 0])), (mc, .inr (1, [.int 0, .ref (g.2.2 1), .int 0]))]) (fun (u : va_W) => u = [(m0, .inr (11, [.ref mh, .ref mg, .ref ms, .ref md, .ref mc, .ref mr, .int (-1), .int 0, .int 0, .int 0, .long 0, .int 0, .int 0, .int 0]))]) := by
  intro sz
  refine Met.ofW (cc := cX11_keep) (maxL := 3) (ret := (Option.none : Option Jvm.ClassFile.FieldType)) (by decide) rfl ?_
  intro p e s m args below meth c s₁ B hml hv
  obtain ⟨rfl, hsz, hP, hK, hD0, hT0⟩ := hv
  have hx := B.exec
  have hb := B.bytes
  have hr := B.returns
  have hts := atoms_spec (ws := (wG yX11_keep cX11_keep 3 (Option.none : Option Jvm.ClassFile.FieldType))) B.pre
  have htg : ∀ w ∈ G9, w.before _ s = true := fun w h => hts w (List.mem_cons_of_mem _ h)
  have hown : s.vm.findClass "HeroTableModel" = some m.cls := findClass_of_methodNamed B.named
  have hlocks := B.notSynchronized
  subst hsz
  have hD := hD0.self (sz := s.heap.size)
  have hT := hT0
  clear hT0
  generalize hAe : va_A [(m0, .inr (11, [.ref mh, .ref mg, .ref ms, .ref md, .ref mc, .ref mr, .int (-1), .int 0, .int 0, .int 0, .long 0, .int 0, .int 0, .int 0])), (mc, .inr (1, [.int 0, .ref (g.2.2 1), .int 0]))] s.heap.size = A at hD hT ⊢
  have hA : ∀ q : Nat, s.heap.size ≤ q → A q := fun q h => by rw [← hAe]; exact Or.inr h
  obtain ⟨H, hH0⟩ : ∃ H, H = s.heap := ⟨_, rfl⟩
  have hS : va_S A s.heap H [] := by rw [hH0]; exact va_S.rf
  have hP : va_P g.1 CLS [(m0, .inr (11, [.ref mh, .ref mg, .ref ms, .ref md, .ref mc, .ref mr, .int (-1), .int 0, .int 0, .int 0, .long 0, .int 0, .int 0, .int 0])), (mc, .inr (1, [.int 0, .ref (g.2.2 1), .int 0]))] H := by rw [hH0]; exact hP
  rw [← hH0]
  have hl := lv_entry ([.ref m0, .int n1, .ref z1]) (n := 3) (Nat.le_of_ble_eq_true rfl)
  rw [lg_entry_eq]
  generalize (lg_sl ([.ref m0, .int n1, .ref z1]) ++ List.replicate (3 - (lg_sl ([.ref m0, .int n1, .ref z1])).length) Slot.unset).toArray = ls at hl ⊢
  have hl : lv_has ls 3 [(0, .ref m0), (1, .int n1), (2, .ref z1)] := hl
  refine lv_aload_n hx hb dX11_keep_0 rfl (lv_at hl 0 rfl) ?_
  refine va_get (D := g.1) (ci := 11) (v := .ref mc) (C := RX11) (T := TX11) (N := 14) hx hb htg inG_X11 hown hK hP 0 rfl rfl 4 (by decide) (htg _ k1344) (fun _ h9 => h9) rfl dX11_keep_1 ?_
  refine va_new (ci := 9) (fs := [.int 0, .null]) (C := RX8) (T := TX8) (N := 2) hx hb htg inG_X8 tyX8 tyX8_ok hown (htg _ k1485) (htg _ k1486) (htg _ k74) hK hP hD hS hA rfl (by decide) (Nat.le_of_ble_eq_true rfl) (Nat.le_of_ble_eq_true rfl) dX11_keep_4 (fun q_1 H hP hD hS => ?_)
  have hP : va_P g.1 CLS [(m0, .inr (11, [.ref mh, .ref mg, .ref ms, .ref md, .ref mc, .ref mr, .int (-1), .int 0, .int 0, .int 0, .long 0, .int 0, .int 0, .int 0])), (mc, .inr (1, [.int 0, .ref (g.2.2 1), .int 0])), (q_1, .inr (9, [.int 0, .null]))] H := hP
  have hD : va_D A [(m0, .inr (11, [.ref mh, .ref mg, .ref ms, .ref md, .ref mc, .ref mr, .int (-1), .int 0, .int 0, .int 0, .long 0, .int 0, .int 0, .int 0])), (mc, .inr (1, [.int 0, .ref (g.2.2 1), .int 0])), (q_1, .inr (9, [.int 0, .null]))] := hD
  refine W.widen (k := 1) (n := 2) (Nat.le_of_ble_eq_true rfl) (Nat.le_of_ble_eq_true rfl) ?_
  refine lv_dup hx hb dX11_keep_7 rfl ?_
  refine lv_iload_n hx hb dX11_keep_8 rfl (lv_at hl 1 rfl) ?_
  refine lv_aload_n hx hb dX11_keep_9 rfl (lv_at hl 2 rfl) ?_
  have hPc := hP.sub (ws' := [(q_1, .inr (9, [.int 0, .null]))]) [2] rfl
  have hDc := hD.sub (ws' := [(q_1, .inr (9, [.int 0, .null]))]) [2] (by decide) rfl
  have hFc := va_free (wc := [(q_1, .inr (9, [.int 0, .null]))]) hD hS hA [2] rfl
  refine q_cv (wr := [(m0, .inr (11, [.ref mh, .ref mg, .ref ms, .ref md, .ref mc, .ref mr, .int (-1), .int 0, .int 0, .int 0, .long 0, .int 0, .int 0, .int 0])), (mc, .inr (1, [.int 0, .ref (g.2.2 1), .int 0]))]) (va_runI (As := [.int n1, .ref z1]) (rest := [.ref q_1, .ref mc]) ⟨hx, hb, hml, hown, htg⟩ (c_X8_init l hfl g q_1 n1 z1 (hn1) (hn2) H.size) ⟨(qB htg k1489 k74 k1487 ok_X8_init rfl rfl ⟨Nat.le_of_ble_eq_true rfl, Nat.le_of_ble_eq_true rfl⟩), rfl, htg _ k1488⟩ (q_pre [.ref q_1, .int n1, .ref z1] hPc hDc hK hS hT hFc) rfl rfl hl.1 rfl (lv_room (Nat.le_of_ble_eq_true rfl)) dX11_keep_10 ⟨Nat.le_of_ble_eq_true rfl, Nat.le_of_ble_eq_true rfl⟩) hP hD hS hFc [2] [0, 1] rfl rfl (by decide) (by decide) (fun u9 H locs hw hP hD hS => ?_)
  try dsimp only at hw
  rcases hw with rfl
  have hP : va_P g.1 CLS [(m0, .inr (11, [.ref mh, .ref mg, .ref ms, .ref md, .ref mc, .ref mr, .int (-1), .int 0, .int 0, .int 0, .long 0, .int 0, .int 0, .int 0])), (mc, .inr (1, [.int 0, .ref (g.2.2 1), .int 0])), (q_1, .inr (9, [.int n1, .ref z1]))] H := hP
  have hD : va_D A [(m0, .inr (11, [.ref mh, .ref mg, .ref ms, .ref md, .ref mc, .ref mr, .int (-1), .int 0, .int 0, .int 0, .long 0, .int 0, .int 0, .int 0])), (mc, .inr (1, [.int 0, .ref (g.2.2 1), .int 0])), (q_1, .inr (9, [.int n1, .ref z1]))] := hD
  refine W.widen (k := 1) (n := 2) (Nat.le_of_ble_eq_true rfl) (Nat.le_of_ble_eq_true rfl) ?_
  have hPc := hP.sub (ws' := [(mc, .inr (1, [.int 0, .ref (g.2.2 1), .int 0])), (q_1, .inr (9, [.int n1, .ref z1]))]) [1, 2] rfl
  have hDc := hD.sub (ws' := [(mc, .inr (1, [.int 0, .ref (g.2.2 1), .int 0])), (q_1, .inr (9, [.int n1, .ref z1]))]) [1, 2] (by decide) rfl
  have hFc := va_free (wc := [(mc, .inr (1, [.int 0, .ref (g.2.2 1), .int 0])), (q_1, .inr (9, [.int n1, .ref z1]))]) hD hS hA [1, 2] rfl
  refine q_cFi (wr := [(m0, .inr (11, [.ref mh, .ref mg, .ref ms, .ref md, .ref mc, .ref mr, .int (-1), .int 0, .int 0, .int 0, .long 0, .int 0, .int 0, .int 0]))]) (va_runF (As := [.ref q_1]) (rest := []) (hK.1 1 _ rfl).2 ⟨hx, hb, hml, hown, htg⟩ (c_L_addC l hfl g mc q_1 n1 z1  H.size) (qI5 htg k1508 k60 k1501 k1504 k1506 (hT.1.2.2.1.2.2.2.1) okx_add rfl rfl ⟨Nat.le_of_ble_eq_true rfl, Nat.le_of_ble_eq_true rfl⟩) ⟨(q_pre [.ref mc, .ref q_1] hPc hDc hK hS hT hFc).1, va_recv hK hP (ci := 1) (q0 := 1) rfl rfl, (q_pre [.ref mc, .ref q_1] hPc hDc hK hS hT hFc).2⟩ rfl rfl hl.1 rfl (lv_room (Nat.le_of_ble_eq_true rfl)) dX11_keep_13 ⟨Nat.le_of_ble_eq_true rfl, Nat.le_of_ble_eq_true rfl⟩) hP hD hS hFc [1, 2] [0] rfl rfl (by decide) (by decide) (fun r9 u9 H locs hw hP hD hS => ?_)
  try dsimp only at hw
  rcases hw with ⟨q_2, rfl, rfl⟩
  have hP : va_P g.1 CLS [(m0, .inr (11, [.ref mh, .ref mg, .ref ms, .ref md, .ref mc, .ref mr, .int (-1), .int 0, .int 0, .int 0, .long 0, .int 0, .int 0, .int 0])), (mc, .inr (1, [.int 1, .ref q_2, .int 1]))] H := hP
  have hD : va_D A [(m0, .inr (11, [.ref mh, .ref mg, .ref ms, .ref md, .ref mc, .ref mr, .int (-1), .int 0, .int 0, .int 0, .long 0, .int 0, .int 0, .int 0])), (mc, .inr (1, [.int 1, .ref q_2, .int 1]))] := hD
  refine W.widen (k := 2) (n := 12) (Nat.le_of_ble_eq_true rfl) (Nat.le_of_ble_eq_true rfl) ?_
  refine lv_pop hx hb dX11_keep_18 rfl ?_
  have hP9 := hP.sub (ws' := [(m0, .inr (11, [.ref mh, .ref mg, .ref ms, .ref md, .ref mc, .ref mr, .int (-1), .int 0, .int 0, .int 0, .long 0, .int 0, .int 0, .int 0]))]) [0] rfl
  have hD9 := hD.sub (ws' := [(m0, .inr (11, [.ref mh, .ref mg, .ref ms, .ref md, .ref mc, .ref mr, .int (-1), .int 0, .int 0, .int 0, .long 0, .int 0, .int 0, .int 0]))]) [0] (by decide) rfl
  refine W.widen (k := 3) (n := 16) (Nat.le_of_ble_eq_true rfl) (Nat.le_of_ble_eq_true rfl) ?_
  exact W.vret hx hb hr (fun t ht hW => ⟨⟨[(m0, .inr (11, [.ref mh, .ref mg, .ref ms, .ref md, .ref mc, .ref mr, .int (-1), .int 0, .int 0, .int 0, .long 0, .int 0, .int 0, .int 0]))], rfl, rfl, by rw [ht]; exact hP9, va_K.moved hW.alike hK, hD9⟩, hS.F ht⟩) hS.2.2 dX11_keep_19

set_option maxHeartbeats 4000000 in
set_option maxRecDepth 100000 in
theorem c_X9_init (l : Launch) (hfl : l.stackTraces = false) (g : GP) (z0 : Nat) (n0 : Int32) (n1 : Int32) (n2 : Int32) (n3 : Int32) (n4 : Int32) (n5 : Int32)  : CV l yX9_init (wG yX9_init cX9_init 7 (Option.none : Option Jvm.ClassFile.FieldType)) (LV 2 1 5) g [.ref z0, .int n0, .int n1, .int n2, .int n3, .int n4, .int n5] ([(z0, .inr (10, [.int 0, .int 0, .int 0, .int 0, .null, .int 0, .int 0, .int 0, .int 0, .int 0, .int 0, .int 0, .int 0, .int 0]))]) (fun (u : va_W) => ∃ (q1 : Nat), u = [(z0, .inr (10, [.int n0, .int n1, .int n2, .int n3, .ref q1, .int n2, .int 0, .int n4, .int n5, .int 0, .int 3, .int 0, .int 32, .int 32]))]) := by
  intro sz
  refine Met.ofW (cc := cX9_init) (maxL := 7) (ret := (Option.none : Option Jvm.ClassFile.FieldType)) (by decide) rfl ?_
  intro p e s m args below meth c s₁ B hml hv
  obtain ⟨rfl, hsz, hP, hK, hD0, hT0⟩ := hv
  have hx := B.exec
  have hb := B.bytes
  have hr := B.returns
  have hts := atoms_spec (ws := (wG yX9_init cX9_init 7 (Option.none : Option Jvm.ClassFile.FieldType))) B.pre
  have htg : ∀ w ∈ G9, w.before _ s = true := fun w h => hts w (List.mem_cons_of_mem _ h)
  have hown : s.vm.findClass "HeroTableModel$Hero" = some m.cls := findClass_of_methodNamed B.named
  have hlocks := B.notSynchronized
  have hin : meth.name = "<init>" := (name_of_methodNamed B.named B.method).1
  subst hsz
  have hD := hD0.self (sz := s.heap.size)
  have hT := hT0
  clear hT0
  generalize hAe : va_A [(z0, .inr (10, [.int 0, .int 0, .int 0, .int 0, .null, .int 0, .int 0, .int 0, .int 0, .int 0, .int 0, .int 0, .int 0, .int 0]))] s.heap.size = A at hD hT ⊢
  have hA : ∀ q : Nat, s.heap.size ≤ q → A q := fun q h => by rw [← hAe]; exact Or.inr h
  obtain ⟨H, hH0⟩ : ∃ H, H = s.heap := ⟨_, rfl⟩
  have hS : va_S A s.heap H [] := by rw [hH0]; exact va_S.rf
  have hP : va_P g.1 CLS [(z0, .inr (10, [.int 0, .int 0, .int 0, .int 0, .null, .int 0, .int 0, .int 0, .int 0, .int 0, .int 0, .int 0, .int 0, .int 0]))] H := by rw [hH0]; exact hP
  rw [← hH0]
  have hl := lv_entry ([.ref z0, .int n0, .int n1, .int n2, .int n3, .int n4, .int n5]) (n := 7) (Nat.le_of_ble_eq_true rfl)
  rw [lg_entry_eq]
  generalize (lg_sl ([.ref z0, .int n0, .int n1, .int n2, .int n3, .int n4, .int n5]) ++ List.replicate (7 - (lg_sl ([.ref z0, .int n0, .int n1, .int n2, .int n3, .int n4, .int n5])).length) Slot.unset).toArray = ls at hl ⊢
  have hl : lv_has ls 7 [(0, .ref z0), (1, .int n0), (2, .int n1), (3, .int n2), (4, .int n3), (5, .int n4), (6, .int n5)] := hl
  refine lv_aload_n hx hb dX9_init_0 rfl (lv_at hl 0 rfl) ?_
  refine W.objInit hx hb hown (htg _ k1572) (htg _ k98) (htg _ k99) rfl (by rw [hml]; exact hl.1) rfl dX9_init_1 (Nat.le_of_ble_eq_true rfl) (Nat.le_of_ble_eq_true rfl) ?_
  refine W.eq (g2 := F0 m 4 ls []) rfl ?_
  refine lv_aload_n hx hb dX9_init_4 rfl (lv_at hl 0 rfl) ?_
  refine lv_iconst (v := 5) hx hb dX9_init_5 (by decide) ?_
  refine va_newa (atype := .int) (ty := .int) (a0 := (5, .inl (fun _ => 0))) (N' := 5) hx hb (htg _ k156) rfl hK hP hD hS hA (fun _ => rfl) (by decide) (by decide) (by decide) (Nat.le_of_ble_eq_true rfl) (Nat.le_of_ble_eq_true rfl) dX9_init_6 (fun q_1 cA H hK9 hP hD hS => ?_)
  obtain rfl := q_arr hK9 (t0 := 1) rfl (by decide)
  clear hK9
  have hP : va_P g.1 CLS [(z0, .inr (10, [.int 0, .int 0, .int 0, .int 0, .null, .int 0, .int 0, .int 0, .int 0, .int 0, .int 0, .int 0, .int 0, .int 0])), (q_1, .inl (g.2.1 1, 5, .inl (fun _ => 0)))] H := hP
  have hD : va_D A [(z0, .inr (10, [.int 0, .int 0, .int 0, .int 0, .null, .int 0, .int 0, .int 0, .int 0, .int 0, .int 0, .int 0, .int 0, .int 0])), (q_1, .inl (g.2.1 1, 5, .inl (fun _ => 0)))] := hD
  refine W.widen (k := 1) (n := 5) (Nat.le_of_ble_eq_true rfl) (Nat.le_of_ble_eq_true rfl) ?_
  refine lv_dup hx hb dX9_init_8 rfl ?_
  refine lv_iconst (v := 0) hx hb dX9_init_9 (by decide) ?_
  refine lv_bipush (v := 12) hx hb dX9_init_10 (by decide) ?_
  refine va_iast hx hb hK hP hD hS 1 1 rfl rfl (i := 0) (vp_in_iff.mpr (by decide)) dX9_init_12 (fun H locs hP hD hS => ?_)
  have hP : va_P g.1 CLS [(z0, .inr (10, [.int 0, .int 0, .int 0, .int 0, .null, .int 0, .int 0, .int 0, .int 0, .int 0, .int 0, .int 0, .int 0, .int 0])), (q_1, .inl (g.2.1 1, 5, .inl (upd (fun _ => 0) 0 12)))] H := hP
  have hD : va_D A [(z0, .inr (10, [.int 0, .int 0, .int 0, .int 0, .null, .int 0, .int 0, .int 0, .int 0, .int 0, .int 0, .int 0, .int 0, .int 0])), (q_1, .inl (g.2.1 1, 5, .inl (upd (fun _ => 0) 0 12)))] := hD
  refine lv_dup hx hb dX9_init_13 rfl ?_
  refine lv_iconst (v := 1) hx hb dX9_init_14 (by decide) ?_
  refine lv_iconst (v := 4) hx hb dX9_init_15 (by decide) ?_
  refine va_iast hx hb hK hP hD hS 1 1 rfl rfl (i := 1) (vp_in_iff.mpr (by decide)) dX9_init_16 (fun H locs hP hD hS => ?_)
  have hP : va_P g.1 CLS [(z0, .inr (10, [.int 0, .int 0, .int 0, .int 0, .null, .int 0, .int 0, .int 0, .int 0, .int 0, .int 0, .int 0, .int 0, .int 0])), (q_1, .inl (g.2.1 1, 5, .inl (upd (upd (fun _ => 0) 0 12) 1 4)))] H := hP
  have hD : va_D A [(z0, .inr (10, [.int 0, .int 0, .int 0, .int 0, .null, .int 0, .int 0, .int 0, .int 0, .int 0, .int 0, .int 0, .int 0, .int 0])), (q_1, .inl (g.2.1 1, 5, .inl (upd (upd (fun _ => 0) 0 12) 1 4)))] := hD
  refine lv_dup hx hb dX9_init_17 rfl ?_
  refine lv_iconst (v := 2) hx hb dX9_init_18 (by decide) ?_
  refine lv_iconst (v := 5) hx hb dX9_init_19 (by decide) ?_
  refine va_iast hx hb hK hP hD hS 1 1 rfl rfl (i := 2) (vp_in_iff.mpr (by decide)) dX9_init_20 (fun H locs hP hD hS => ?_)
  have hP : va_P g.1 CLS [(z0, .inr (10, [.int 0, .int 0, .int 0, .int 0, .null, .int 0, .int 0, .int 0, .int 0, .int 0, .int 0, .int 0, .int 0, .int 0])), (q_1, .inl (g.2.1 1, 5, .inl (upd (upd (upd (fun _ => 0) 0 12) 1 4) 2 5)))] H := hP
  have hD : va_D A [(z0, .inr (10, [.int 0, .int 0, .int 0, .int 0, .null, .int 0, .int 0, .int 0, .int 0, .int 0, .int 0, .int 0, .int 0, .int 0])), (q_1, .inl (g.2.1 1, 5, .inl (upd (upd (upd (fun _ => 0) 0 12) 1 4) 2 5)))] := hD
  refine lv_dup hx hb dX9_init_21 rfl ?_
  refine lv_iconst (v := 3) hx hb dX9_init_22 (by decide) ?_
  refine lv_iconst (v := 4) hx hb dX9_init_23 (by decide) ?_
  refine va_iast hx hb hK hP hD hS 1 1 rfl rfl (i := 3) (vp_in_iff.mpr (by decide)) dX9_init_24 (fun H locs hP hD hS => ?_)
  have hP : va_P g.1 CLS [(z0, .inr (10, [.int 0, .int 0, .int 0, .int 0, .null, .int 0, .int 0, .int 0, .int 0, .int 0, .int 0, .int 0, .int 0, .int 0])), (q_1, .inl (g.2.1 1, 5, .inl (upd (upd (upd (upd (fun _ => 0) 0 12) 1 4) 2 5) 3 4)))] H := hP
  have hD : va_D A [(z0, .inr (10, [.int 0, .int 0, .int 0, .int 0, .null, .int 0, .int 0, .int 0, .int 0, .int 0, .int 0, .int 0, .int 0, .int 0])), (q_1, .inl (g.2.1 1, 5, .inl (upd (upd (upd (upd (fun _ => 0) 0 12) 1 4) 2 5) 3 4)))] := hD
  refine lv_dup hx hb dX9_init_25 rfl ?_
  refine lv_iconst (v := 4) hx hb dX9_init_26 (by decide) ?_
  refine lv_iconst (v := 2) hx hb dX9_init_27 (by decide) ?_
  refine va_iast hx hb hK hP hD hS 1 1 rfl rfl (i := 4) (vp_in_iff.mpr (by decide)) dX9_init_28 (fun H locs hP hD hS => ?_)
  have hP : va_P g.1 CLS [(z0, .inr (10, [.int 0, .int 0, .int 0, .int 0, .null, .int 0, .int 0, .int 0, .int 0, .int 0, .int 0, .int 0, .int 0, .int 0])), (q_1, .inl (g.2.1 1, 5, .inl (upd (upd (upd (upd (upd (fun _ => 0) 0 12) 1 4) 2 5) 3 4) 4 2)))] H := hP
  have hD : va_D A [(z0, .inr (10, [.int 0, .int 0, .int 0, .int 0, .null, .int 0, .int 0, .int 0, .int 0, .int 0, .int 0, .int 0, .int 0, .int 0])), (q_1, .inl (g.2.1 1, 5, .inl (upd (upd (upd (upd (upd (fun _ => 0) 0 12) 1 4) 2 5) 3 4) 4 2)))] := hD
  refine va_putF (D := g.1) (ci := 10) (v := .ref q_1) (ty := (.array .int)) (C := RX9) (T := TX9) (N := 14) hx hb htg inG_X9 tyX9 tyX9_ok nmX9 hown hK hP hD hS 0 rfl rfl 4 (by decide) (htg _ k1581) (fun _ h9 => h9) rfl hin rfl (by decide +kernel) rfl rfl (Nat.le_of_ble_eq_true rfl) dX9_init_29 (fun H locs hP hD hS => ?_)
  have hP : va_P g.1 CLS [(z0, .inr (10, [.int 0, .int 0, .int 0, .int 0, .ref q_1, .int 0, .int 0, .int 0, .int 0, .int 0, .int 0, .int 0, .int 0, .int 0])), (q_1, .inl (g.2.1 1, 5, .inl (upd (upd (upd (upd (upd (fun _ => 0) 0 12) 1 4) 2 5) 3 4) 4 2)))] H := hP
  have hD : va_D A [(z0, .inr (10, [.int 0, .int 0, .int 0, .int 0, .ref q_1, .int 0, .int 0, .int 0, .int 0, .int 0, .int 0, .int 0, .int 0, .int 0])), (q_1, .inl (g.2.1 1, 5, .inl (upd (upd (upd (upd (upd (fun _ => 0) 0 12) 1 4) 2 5) 3 4) 4 2)))] := hD
  refine lv_aload_n hx hb dX9_init_32 rfl (lv_at hl 0 rfl) ?_
  refine lv_iconst (v := 3) hx hb dX9_init_33 (by decide) ?_
  refine va_put (D := g.1) (ci := 10) (v := .int 3) (ty := .int) (C := RX9) (T := TX9) (N := 14) hx hb htg inG_X9 tyX9 tyX9_ok nmX9 hown hK hP hD hS 0 rfl rfl 10 (by decide) (htg _ k1591) (fun _ h9 => h9) rfl (by decide +kernel) rfl rfl (Nat.le_of_ble_eq_true rfl) dX9_init_34 (fun H locs hP hD hS => ?_)
  have hP : va_P g.1 CLS [(z0, .inr (10, [.int 0, .int 0, .int 0, .int 0, .ref q_1, .int 0, .int 0, .int 0, .int 0, .int 0, .int 3, .int 0, .int 0, .int 0])), (q_1, .inl (g.2.1 1, 5, .inl (upd (upd (upd (upd (upd (fun _ => 0) 0 12) 1 4) 2 5) 3 4) 4 2)))] H := hP
  have hD : va_D A [(z0, .inr (10, [.int 0, .int 0, .int 0, .int 0, .ref q_1, .int 0, .int 0, .int 0, .int 0, .int 0, .int 3, .int 0, .int 0, .int 0])), (q_1, .inl (g.2.1 1, 5, .inl (upd (upd (upd (upd (upd (fun _ => 0) 0 12) 1 4) 2 5) 3 4) 4 2)))] := hD
  refine lv_aload_n hx hb dX9_init_37 rfl (lv_at hl 0 rfl) ?_
  refine lv_bipush (v := 32) hx hb dX9_init_38 (by decide) ?_
  refine va_put (D := g.1) (ci := 10) (v := .int 32) (ty := .char) (C := RX9) (T := TX9) (N := 14) hx hb htg inG_X9 tyX9 tyX9_ok nmX9 hown hK hP hD hS 0 rfl rfl 12 (by decide) (htg _ k1594) (fun _ h9 => h9) rfl (by decide +kernel) rfl rfl (Nat.le_of_ble_eq_true rfl) dX9_init_40 (fun H locs hP hD hS => ?_)
  have hP : va_P g.1 CLS [(z0, .inr (10, [.int 0, .int 0, .int 0, .int 0, .ref q_1, .int 0, .int 0, .int 0, .int 0, .int 0, .int 3, .int 0, .int 32, .int 0])), (q_1, .inl (g.2.1 1, 5, .inl (upd (upd (upd (upd (upd (fun _ => 0) 0 12) 1 4) 2 5) 3 4) 4 2)))] H := hP
  have hD : va_D A [(z0, .inr (10, [.int 0, .int 0, .int 0, .int 0, .ref q_1, .int 0, .int 0, .int 0, .int 0, .int 0, .int 3, .int 0, .int 32, .int 0])), (q_1, .inl (g.2.1 1, 5, .inl (upd (upd (upd (upd (upd (fun _ => 0) 0 12) 1 4) 2 5) 3 4) 4 2)))] := hD
  refine lv_aload_n hx hb dX9_init_43 rfl (lv_at hl 0 rfl) ?_
  refine lv_bipush (v := 32) hx hb dX9_init_44 (by decide) ?_
  refine va_put (D := g.1) (ci := 10) (v := .int 32) (ty := .char) (C := RX9) (T := TX9) (N := 14) hx hb htg inG_X9 tyX9 tyX9_ok nmX9 hown hK hP hD hS 0 rfl rfl 13 (by decide) (htg _ k1596) (fun _ h9 => h9) rfl (by decide +kernel) rfl rfl (Nat.le_of_ble_eq_true rfl) dX9_init_46 (fun H locs hP hD hS => ?_)
  have hP : va_P g.1 CLS [(z0, .inr (10, [.int 0, .int 0, .int 0, .int 0, .ref q_1, .int 0, .int 0, .int 0, .int 0, .int 0, .int 3, .int 0, .int 32, .int 32])), (q_1, .inl (g.2.1 1, 5, .inl (upd (upd (upd (upd (upd (fun _ => 0) 0 12) 1 4) 2 5) 3 4) 4 2)))] H := hP
  have hD : va_D A [(z0, .inr (10, [.int 0, .int 0, .int 0, .int 0, .ref q_1, .int 0, .int 0, .int 0, .int 0, .int 0, .int 3, .int 0, .int 32, .int 32])), (q_1, .inl (g.2.1 1, 5, .inl (upd (upd (upd (upd (upd (fun _ => 0) 0 12) 1 4) 2 5) 3 4) 4 2)))] := hD
  refine lv_aload_n hx hb dX9_init_49 rfl (lv_at hl 0 rfl) ?_
  refine lv_iload_n hx hb dX9_init_50 rfl (lv_at hl 1 rfl) ?_
  refine va_putF (D := g.1) (ci := 10) (v := .int n0) (ty := .int) (C := RX9) (T := TX9) (N := 14) hx hb htg inG_X9 tyX9 tyX9_ok nmX9 hown hK hP hD hS 0 rfl rfl 0 (by decide) (htg _ k1573) (fun _ h9 => h9) rfl hin rfl (by decide +kernel) rfl rfl (Nat.le_of_ble_eq_true rfl) dX9_init_51 (fun H locs hP hD hS => ?_)
  have hP : va_P g.1 CLS [(z0, .inr (10, [.int n0, .int 0, .int 0, .int 0, .ref q_1, .int 0, .int 0, .int 0, .int 0, .int 0, .int 3, .int 0, .int 32, .int 32])), (q_1, .inl (g.2.1 1, 5, .inl (upd (upd (upd (upd (upd (fun _ => 0) 0 12) 1 4) 2 5) 3 4) 4 2)))] H := hP
  have hD : va_D A [(z0, .inr (10, [.int n0, .int 0, .int 0, .int 0, .ref q_1, .int 0, .int 0, .int 0, .int 0, .int 0, .int 3, .int 0, .int 32, .int 32])), (q_1, .inl (g.2.1 1, 5, .inl (upd (upd (upd (upd (upd (fun _ => 0) 0 12) 1 4) 2 5) 3 4) 4 2)))] := hD
  refine lv_aload_n hx hb dX9_init_54 rfl (lv_at hl 0 rfl) ?_
  refine lv_iload_n hx hb dX9_init_55 rfl (lv_at hl 2 rfl) ?_
  refine va_putF (D := g.1) (ci := 10) (v := .int n1) (ty := .int) (C := RX9) (T := TX9) (N := 14) hx hb htg inG_X9 tyX9 tyX9_ok nmX9 hown hK hP hD hS 0 rfl rfl 1 (by decide) (htg _ k1575) (fun _ h9 => h9) rfl hin rfl (by decide +kernel) rfl rfl (Nat.le_of_ble_eq_true rfl) dX9_init_56 (fun H locs hP hD hS => ?_)
  have hP : va_P g.1 CLS [(z0, .inr (10, [.int n0, .int n1, .int 0, .int 0, .ref q_1, .int 0, .int 0, .int 0, .int 0, .int 0, .int 3, .int 0, .int 32, .int 32])), (q_1, .inl (g.2.1 1, 5, .inl (upd (upd (upd (upd (upd (fun _ => 0) 0 12) 1 4) 2 5) 3 4) 4 2)))] H := hP
  have hD : va_D A [(z0, .inr (10, [.int n0, .int n1, .int 0, .int 0, .ref q_1, .int 0, .int 0, .int 0, .int 0, .int 0, .int 3, .int 0, .int 32, .int 32])), (q_1, .inl (g.2.1 1, 5, .inl (upd (upd (upd (upd (upd (fun _ => 0) 0 12) 1 4) 2 5) 3 4) 4 2)))] := hD
  refine lv_aload_n hx hb dX9_init_59 rfl (lv_at hl 0 rfl) ?_
  refine lv_iload_n hx hb dX9_init_60 rfl (lv_at hl 3 rfl) ?_
  refine va_putF (D := g.1) (ci := 10) (v := .int n2) (ty := .int) (C := RX9) (T := TX9) (N := 14) hx hb htg inG_X9 tyX9 tyX9_ok nmX9 hown hK hP hD hS 0 rfl rfl 2 (by decide) (htg _ k1577) (fun _ h9 => h9) rfl hin rfl (by decide +kernel) rfl rfl (Nat.le_of_ble_eq_true rfl) dX9_init_61 (fun H locs hP hD hS => ?_)
  have hP : va_P g.1 CLS [(z0, .inr (10, [.int n0, .int n1, .int n2, .int 0, .ref q_1, .int 0, .int 0, .int 0, .int 0, .int 0, .int 3, .int 0, .int 32, .int 32])), (q_1, .inl (g.2.1 1, 5, .inl (upd (upd (upd (upd (upd (fun _ => 0) 0 12) 1 4) 2 5) 3 4) 4 2)))] H := hP
  have hD : va_D A [(z0, .inr (10, [.int n0, .int n1, .int n2, .int 0, .ref q_1, .int 0, .int 0, .int 0, .int 0, .int 0, .int 3, .int 0, .int 32, .int 32])), (q_1, .inl (g.2.1 1, 5, .inl (upd (upd (upd (upd (upd (fun _ => 0) 0 12) 1 4) 2 5) 3 4) 4 2)))] := hD
  refine lv_aload_n hx hb dX9_init_64 rfl (lv_at hl 0 rfl) ?_
  refine lv_iload_n hx hb dX9_init_65 rfl (lv_at hl 3 rfl) ?_
  refine va_put (D := g.1) (ci := 10) (v := .int n2) (ty := .int) (C := RX9) (T := TX9) (N := 14) hx hb htg inG_X9 tyX9 tyX9_ok nmX9 hown hK hP hD hS 0 rfl rfl 5 (by decide) (htg _ k1583) (fun _ h9 => h9) rfl (by decide +kernel) rfl rfl (Nat.le_of_ble_eq_true rfl) dX9_init_66 (fun H locs hP hD hS => ?_)
  have hP : va_P g.1 CLS [(z0, .inr (10, [.int n0, .int n1, .int n2, .int 0, .ref q_1, .int n2, .int 0, .int 0, .int 0, .int 0, .int 3, .int 0, .int 32, .int 32])), (q_1, .inl (g.2.1 1, 5, .inl (upd (upd (upd (upd (upd (fun _ => 0) 0 12) 1 4) 2 5) 3 4) 4 2)))] H := hP
  have hD : va_D A [(z0, .inr (10, [.int n0, .int n1, .int n2, .int 0, .ref q_1, .int n2, .int 0, .int 0, .int 0, .int 0, .int 3, .int 0, .int 32, .int 32])), (q_1, .inl (g.2.1 1, 5, .inl (upd (upd (upd (upd (upd (fun _ => 0) 0 12) 1 4) 2 5) 3 4) 4 2)))] := hD
  refine lv_aload_n hx hb dX9_init_69 rfl (lv_at hl 0 rfl) ?_
  refine lv_iload hx hb dX9_init_70 (lv_at hl 4 rfl) ?_
  refine va_putF (D := g.1) (ci := 10) (v := .int n3) (ty := .int) (C := RX9) (T := TX9) (N := 14) hx hb htg inG_X9 tyX9 tyX9_ok nmX9 hown hK hP hD hS 0 rfl rfl 3 (by decide) (htg _ k1579) (fun _ h9 => h9) rfl hin rfl (by decide +kernel) rfl rfl (Nat.le_of_ble_eq_true rfl) dX9_init_72 (fun H locs hP hD hS => ?_)
  have hP : va_P g.1 CLS [(z0, .inr (10, [.int n0, .int n1, .int n2, .int n3, .ref q_1, .int n2, .int 0, .int 0, .int 0, .int 0, .int 3, .int 0, .int 32, .int 32])), (q_1, .inl (g.2.1 1, 5, .inl (upd (upd (upd (upd (upd (fun _ => 0) 0 12) 1 4) 2 5) 3 4) 4 2)))] H := hP
  have hD : va_D A [(z0, .inr (10, [.int n0, .int n1, .int n2, .int n3, .ref q_1, .int n2, .int 0, .int 0, .int 0, .int 0, .int 3, .int 0, .int 32, .int 32])), (q_1, .inl (g.2.1 1, 5, .inl (upd (upd (upd (upd (upd (fun _ => 0) 0 12) 1 4) 2 5) 3 4) 4 2)))] := hD
  refine lv_aload_n hx hb dX9_init_75 rfl (lv_at hl 0 rfl) ?_
  refine lv_iload hx hb dX9_init_76 (lv_at hl 5 rfl) ?_
  refine va_put (D := g.1) (ci := 10) (v := .int n4) (ty := .int) (C := RX9) (T := TX9) (N := 14) hx hb htg inG_X9 tyX9 tyX9_ok nmX9 hown hK hP hD hS 0 rfl rfl 7 (by decide) (htg _ k1586) (fun _ h9 => h9) rfl (by decide +kernel) rfl rfl (Nat.le_of_ble_eq_true rfl) dX9_init_78 (fun H locs hP hD hS => ?_)
  have hP : va_P g.1 CLS [(z0, .inr (10, [.int n0, .int n1, .int n2, .int n3, .ref q_1, .int n2, .int 0, .int n4, .int 0, .int 0, .int 3, .int 0, .int 32, .int 32])), (q_1, .inl (g.2.1 1, 5, .inl (upd (upd (upd (upd (upd (fun _ => 0) 0 12) 1 4) 2 5) 3 4) 4 2)))] H := hP
  have hD : va_D A [(z0, .inr (10, [.int n0, .int n1, .int n2, .int n3, .ref q_1, .int n2, .int 0, .int n4, .int 0, .int 0, .int 3, .int 0, .int 32, .int 32])), (q_1, .inl (g.2.1 1, 5, .inl (upd (upd (upd (upd (upd (fun _ => 0) 0 12) 1 4) 2 5) 3 4) 4 2)))] := hD
  refine lv_aload_n hx hb dX9_init_81 rfl (lv_at hl 0 rfl) ?_
  refine lv_iload hx hb dX9_init_82 (lv_at hl 6 rfl) ?_
  refine va_put (D := g.1) (ci := 10) (v := .int n5) (ty := .int) (C := RX9) (T := TX9) (N := 14) hx hb htg inG_X9 tyX9 tyX9_ok nmX9 hown hK hP hD hS 0 rfl rfl 8 (by decide) (htg _ k1588) (fun _ h9 => h9) rfl (by decide +kernel) rfl rfl (Nat.le_of_ble_eq_true rfl) dX9_init_84 (fun H locs hP hD hS => ?_)
  have hP : va_P g.1 CLS [(z0, .inr (10, [.int n0, .int n1, .int n2, .int n3, .ref q_1, .int n2, .int 0, .int n4, .int n5, .int 0, .int 3, .int 0, .int 32, .int 32])), (q_1, .inl (g.2.1 1, 5, .inl (upd (upd (upd (upd (upd (fun _ => 0) 0 12) 1 4) 2 5) 3 4) 4 2)))] H := hP
  have hD : va_D A [(z0, .inr (10, [.int n0, .int n1, .int n2, .int n3, .ref q_1, .int n2, .int 0, .int n4, .int n5, .int 0, .int 3, .int 0, .int 32, .int 32])), (q_1, .inl (g.2.1 1, 5, .inl (upd (upd (upd (upd (upd (fun _ => 0) 0 12) 1 4) 2 5) 3 4) 4 2)))] := hD
  have hP9 := hP.sub (ws' := [(z0, .inr (10, [.int n0, .int n1, .int n2, .int n3, .ref q_1, .int n2, .int 0, .int n4, .int n5, .int 0, .int 3, .int 0, .int 32, .int 32]))]) [0] rfl
  have hD9 := hD.sub (ws' := [(z0, .inr (10, [.int n0, .int n1, .int n2, .int n3, .ref q_1, .int n2, .int 0, .int n4, .int n5, .int 0, .int 3, .int 0, .int 32, .int 32]))]) [0] (by decide) rfl
  refine W.widen (k := 1) (n := 5) (Nat.le_of_ble_eq_true rfl) (Nat.le_of_ble_eq_true rfl) ?_
  exact W.vret hx hb hr (fun t ht hW => ⟨⟨[(z0, .inr (10, [.int n0, .int n1, .int n2, .int n3, .ref q_1, .int n2, .int 0, .int n4, .int n5, .int 0, .int 3, .int 0, .int 32, .int 32]))], rfl, ⟨q_1, rfl⟩, by rw [ht]; exact hP9, va_K.moved hW.alike hK, hD9⟩, hS.F ht⟩) hS.2.2 dX9_init_87

set_option maxHeartbeats 4000000 in
set_option maxRecDepth 100000 in
theorem c_m_addHero (l : Launch) (hfl : l.stackTraces = false) (g : GP) (m0 : Nat) (mh : Nat) (mg : Nat) (ms : Nat) (md : Nat) (mc : Nat) (mr : Nat) (fm : Nat → Int32) (n1 : Int32) (n2 : Int32) (n3 : Int32) (n4 : Int32) (n5 : Int32) (hfm : ∀ j : Nat, j < 64 → fm j = 46) : CI l yX11_addHero (wG yX11_addHero cX11_addHero 7 (Option.some Jvm.ClassFile.FieldType.int)) (LV 8 20 100) g [.ref m0, .int n1, .int n2, .int n3, .int n4, .int n5] ([(m0, .inr (11, [.ref mh, .ref mg, .ref ms, .ref md, .ref mc, .ref mr, .int (-1), .int 0, .int 0, .int 0, .long 0, .int 0, .int 0, .int 0])), (mh, .inr (1, [.int 0, .ref (g.2.2 1), .int 0])), (mc, .inr (1, [.int 0, .ref (g.2.2 1), .int 0])), (mg, .inl (g.2.1 0, 64, .inl fm))]) (fun (r : Int32) (u : va_W) => ((okAdd n1 n2 n3 n4 n5) ∧ r = 0 ∧ u = [(m0, .inr (11, [.ref mh, .ref mg, .ref ms, .ref md, .ref mc, .ref mr, .int (-1), .int 0, .int 0, .int 0, .long 0, .int 0, .int 0, .int 0]))]) ∨ ((¬ okAdd n1 n2 n3 n4 n5) ∧ r = (-1) ∧ u = [(m0, .inr (11, [.ref mh, .ref mg, .ref ms, .ref md, .ref mc, .ref mr, .int (-1), .int 0, .int 0, .int 0, .long 0, .int 0, .int 0, .int 1]))])) := by
  intro sz
  refine Met.ofW (cc := cX11_addHero) (maxL := 7) (ret := (Option.some Jvm.ClassFile.FieldType.int)) (by decide) rfl ?_
  intro p e s m args below meth c s₁ B hml hv
  obtain ⟨rfl, hsz, hP, hK, hD0, hT0⟩ := hv
  have hx := B.exec
  have hb := B.bytes
  have hr := B.returns
  have hts := atoms_spec (ws := (wG yX11_addHero cX11_addHero 7 (Option.some Jvm.ClassFile.FieldType.int))) B.pre
  have htg : ∀ w ∈ G9, w.before _ s = true := fun w h => hts w (List.mem_cons_of_mem _ h)
  have hown : s.vm.findClass "HeroTableModel" = some m.cls := findClass_of_methodNamed B.named
  have hlocks := B.notSynchronized
  subst hsz
  have hD := hD0.self (sz := s.heap.size)
  have hT := hT0
  clear hT0
  generalize hAe : va_A [(m0, .inr (11, [.ref mh, .ref mg, .ref ms, .ref md, .ref mc, .ref mr, .int (-1), .int 0, .int 0, .int 0, .long 0, .int 0, .int 0, .int 0])), (mh, .inr (1, [.int 0, .ref (g.2.2 1), .int 0])), (mc, .inr (1, [.int 0, .ref (g.2.2 1), .int 0])), (mg, .inl (g.2.1 0, 64, .inl fm))] s.heap.size = A at hD hT ⊢
  have hA : ∀ q : Nat, s.heap.size ≤ q → A q := fun q h => by rw [← hAe]; exact Or.inr h
  obtain ⟨H, hH0⟩ : ∃ H, H = s.heap := ⟨_, rfl⟩
  have hS : va_S A s.heap H [] := by rw [hH0]; exact va_S.rf
  have hP : va_P g.1 CLS [(m0, .inr (11, [.ref mh, .ref mg, .ref ms, .ref md, .ref mc, .ref mr, .int (-1), .int 0, .int 0, .int 0, .long 0, .int 0, .int 0, .int 0])), (mh, .inr (1, [.int 0, .ref (g.2.2 1), .int 0])), (mc, .inr (1, [.int 0, .ref (g.2.2 1), .int 0])), (mg, .inl (g.2.1 0, 64, .inl fm))] H := by rw [hH0]; exact hP
  rw [← hH0]
  have hl := lv_entry ([.ref m0, .int n1, .int n2, .int n3, .int n4, .int n5]) (n := 7) (Nat.le_of_ble_eq_true rfl)
  rw [lg_entry_eq]
  generalize (lg_sl ([.ref m0, .int n1, .int n2, .int n3, .int n4, .int n5]) ++ List.replicate (7 - (lg_sl ([.ref m0, .int n1, .int n2, .int n3, .int n4, .int n5])).length) Slot.unset).toArray = ls at hl ⊢
  have hl : lv_has ls 7 [(0, .ref m0), (1, .int n1), (2, .int n2), (3, .int n3), (4, .int n4), (5, .int n5)] := hl
  refine lv_iload_n hx hb dX11_addHero_0 rfl (lv_at hl 1 rfl) ?_
  refine lv_i2l (v := n1.toInt64) hx hb dX11_addHero_1 rfl ?_
  refine lv_lconst (v := 0) hx hb dX11_addHero_2 (by decide) ?_
  refine lv_lconst (v := 1) hx hb dX11_addHero_3 (by decide) ?_
  have hPc := hP.sub (ws' := []) [] rfl
  have hDc := hD.sub (ws' := []) [] (by decide) rfl
  have hFc := va_free (wc := []) hD hS hA [] rfl
  refine q_ci (wr := [(m0, .inr (11, [.ref mh, .ref mg, .ref ms, .ref md, .ref mc, .ref mr, .int (-1), .int 0, .int 0, .int 0, .long 0, .int 0, .int 0, .int 0])), (mh, .inr (1, [.int 0, .ref (g.2.2 1), .int 0])), (mc, .inr (1, [.int 0, .ref (g.2.2 1), .int 0])), (mg, .inl (g.2.1 0, 64, .inl fm))]) (va_runS (As := [.long n1.toInt64, .long 0, .long 1]) (rest := []) ⟨hx, hb, hml, hown, htg⟩ (c_X11_in l hfl g n1.toInt64 0 1  H.size) ⟨(qB htg k1393 k57 k1391 ok_X11_in rfl rfl ⟨Nat.le_of_ble_eq_true rfl, Nat.le_of_ble_eq_true rfl⟩), htg _ k1392⟩ (q_pre [.long n1.toInt64, .long 0, .long 1] hPc hDc hK hS hT hFc) rfl rfl hl.1 rfl (lv_room (Nat.le_of_ble_eq_true rfl)) dX11_addHero_4 ⟨Nat.le_of_ble_eq_true rfl, Nat.le_of_ble_eq_true rfl⟩) hP hD hS hFc [] [0, 1, 2, 3] rfl rfl (by decide) (by decide) (fun r9 u9 H locs hw hP hD hS => ?_)
  try dsimp only at hw
  rcases hw with ⟨c_1, rfl, rfl⟩ | ⟨c_2, rfl, rfl⟩
  · have hP : va_P g.1 CLS [(m0, .inr (11, [.ref mh, .ref mg, .ref ms, .ref md, .ref mc, .ref mr, .int (-1), .int 0, .int 0, .int 0, .long 0, .int 0, .int 0, .int 0])), (mh, .inr (1, [.int 0, .ref (g.2.2 1), .int 0])), (mc, .inr (1, [.int 0, .ref (g.2.2 1), .int 0])), (mg, .inl (g.2.1 0, 64, .inl fm))] H := hP
    have hD : va_D A [(m0, .inr (11, [.ref mh, .ref mg, .ref ms, .ref md, .ref mc, .ref mr, .int (-1), .int 0, .int 0, .int 0, .long 0, .int 0, .int 0, .int 0])), (mh, .inr (1, [.int 0, .ref (g.2.2 1), .int 0])), (mc, .inr (1, [.int 0, .ref (g.2.2 1), .int 0])), (mg, .inl (g.2.1 0, 64, .inl fm))] := hD
    refine W.widen (k := 0) (n := 0) (Nat.le_of_ble_eq_true rfl) (Nat.le_of_ble_eq_true rfl) ?_
    refine lv_if_eq (tgt := 48) hx hb dX11_addHero_7 (by decide) (fun c_3 => absurd c_3 (by decide)) (fun c_3 => ?_)
    refine lv_iload_n hx hb dX11_addHero_10 rfl (lv_at hl 2 rfl) ?_
    refine lv_i2l (v := n2.toInt64) hx hb dX11_addHero_11 rfl ?_
    refine lv_lconst (v := 1) hx hb dX11_addHero_12 (by decide) ?_
    refine lv_ldc2 (own := "HeroTableModel") (index := 90) (v := 99) hx hb hown (htg _ k1394) dX11_addHero_13 ?_
    have hPc := hP.sub (ws' := []) [] rfl
    have hDc := hD.sub (ws' := []) [] (by decide) rfl
    have hFc := va_free (wc := []) hD hS hA [] rfl
    refine q_ci (wr := [(m0, .inr (11, [.ref mh, .ref mg, .ref ms, .ref md, .ref mc, .ref mr, .int (-1), .int 0, .int 0, .int 0, .long 0, .int 0, .int 0, .int 0])), (mh, .inr (1, [.int 0, .ref (g.2.2 1), .int 0])), (mc, .inr (1, [.int 0, .ref (g.2.2 1), .int 0])), (mg, .inl (g.2.1 0, 64, .inl fm))]) (va_runS (As := [.long n2.toInt64, .long 1, .long 99]) (rest := []) ⟨hx, hb, hml, hown, htg⟩ (c_X11_in l hfl g n2.toInt64 1 99  H.size) ⟨(qB htg k1393 k57 k1391 ok_X11_in rfl rfl ⟨Nat.le_of_ble_eq_true rfl, Nat.le_of_ble_eq_true rfl⟩), htg _ k1392⟩ (q_pre [.long n2.toInt64, .long 1, .long 99] hPc hDc hK hS hT hFc) rfl rfl hl.1 rfl (lv_room (Nat.le_of_ble_eq_true rfl)) dX11_addHero_16 ⟨Nat.le_of_ble_eq_true rfl, Nat.le_of_ble_eq_true rfl⟩) hP hD hS hFc [] [0, 1, 2, 3] rfl rfl (by decide) (by decide) (fun r9 u9 H locs hw hP hD hS => ?_)
    try dsimp only at hw
    rcases hw with ⟨c_4, rfl, rfl⟩ | ⟨c_5, rfl, rfl⟩
    · have hP : va_P g.1 CLS [(m0, .inr (11, [.ref mh, .ref mg, .ref ms, .ref md, .ref mc, .ref mr, .int (-1), .int 0, .int 0, .int 0, .long 0, .int 0, .int 0, .int 0])), (mh, .inr (1, [.int 0, .ref (g.2.2 1), .int 0])), (mc, .inr (1, [.int 0, .ref (g.2.2 1), .int 0])), (mg, .inl (g.2.1 0, 64, .inl fm))] H := hP
      have hD : va_D A [(m0, .inr (11, [.ref mh, .ref mg, .ref ms, .ref md, .ref mc, .ref mr, .int (-1), .int 0, .int 0, .int 0, .long 0, .int 0, .int 0, .int 0])), (mh, .inr (1, [.int 0, .ref (g.2.2 1), .int 0])), (mc, .inr (1, [.int 0, .ref (g.2.2 1), .int 0])), (mg, .inl (g.2.1 0, 64, .inl fm))] := hD
      refine W.widen (k := 0) (n := 0) (Nat.le_of_ble_eq_true rfl) (Nat.le_of_ble_eq_true rfl) ?_
      refine lv_if_eq (tgt := 48) hx hb dX11_addHero_19 (by decide) (fun c_6 => absurd c_6 (by decide)) (fun c_6 => ?_)
      refine lv_iload_n hx hb dX11_addHero_22 rfl (lv_at hl 3 rfl) ?_
      refine lv_i2l (v := n3.toInt64) hx hb dX11_addHero_23 rfl ?_
      refine lv_lconst (v := 0) hx hb dX11_addHero_24 (by decide) ?_
      refine lv_ldc2 (own := "HeroTableModel") (index := 92) (v := 30) hx hb hown (htg _ k1395) dX11_addHero_25 ?_
      have hPc := hP.sub (ws' := []) [] rfl
      have hDc := hD.sub (ws' := []) [] (by decide) rfl
      have hFc := va_free (wc := []) hD hS hA [] rfl
      refine q_ci (wr := [(m0, .inr (11, [.ref mh, .ref mg, .ref ms, .ref md, .ref mc, .ref mr, .int (-1), .int 0, .int 0, .int 0, .long 0, .int 0, .int 0, .int 0])), (mh, .inr (1, [.int 0, .ref (g.2.2 1), .int 0])), (mc, .inr (1, [.int 0, .ref (g.2.2 1), .int 0])), (mg, .inl (g.2.1 0, 64, .inl fm))]) (va_runS (As := [.long n3.toInt64, .long 0, .long 30]) (rest := []) ⟨hx, hb, hml, hown, htg⟩ (c_X11_in l hfl g n3.toInt64 0 30  H.size) ⟨(qB htg k1393 k57 k1391 ok_X11_in rfl rfl ⟨Nat.le_of_ble_eq_true rfl, Nat.le_of_ble_eq_true rfl⟩), htg _ k1392⟩ (q_pre [.long n3.toInt64, .long 0, .long 30] hPc hDc hK hS hT hFc) rfl rfl hl.1 rfl (lv_room (Nat.le_of_ble_eq_true rfl)) dX11_addHero_28 ⟨Nat.le_of_ble_eq_true rfl, Nat.le_of_ble_eq_true rfl⟩) hP hD hS hFc [] [0, 1, 2, 3] rfl rfl (by decide) (by decide) (fun r9 u9 H locs hw hP hD hS => ?_)
      try dsimp only at hw
      rcases hw with ⟨c_7, rfl, rfl⟩ | ⟨c_8, rfl, rfl⟩
      · have hP : va_P g.1 CLS [(m0, .inr (11, [.ref mh, .ref mg, .ref ms, .ref md, .ref mc, .ref mr, .int (-1), .int 0, .int 0, .int 0, .long 0, .int 0, .int 0, .int 0])), (mh, .inr (1, [.int 0, .ref (g.2.2 1), .int 0])), (mc, .inr (1, [.int 0, .ref (g.2.2 1), .int 0])), (mg, .inl (g.2.1 0, 64, .inl fm))] H := hP
        have hD : va_D A [(m0, .inr (11, [.ref mh, .ref mg, .ref ms, .ref md, .ref mc, .ref mr, .int (-1), .int 0, .int 0, .int 0, .long 0, .int 0, .int 0, .int 0])), (mh, .inr (1, [.int 0, .ref (g.2.2 1), .int 0])), (mc, .inr (1, [.int 0, .ref (g.2.2 1), .int 0])), (mg, .inl (g.2.1 0, 64, .inl fm))] := hD
        refine W.widen (k := 0) (n := 0) (Nat.le_of_ble_eq_true rfl) (Nat.le_of_ble_eq_true rfl) ?_
        refine lv_if_eq (tgt := 48) hx hb dX11_addHero_31 (by decide) (fun c_9 => absurd c_9 (by decide)) (fun c_9 => ?_)
        refine lv_iload hx hb dX11_addHero_34 (lv_at hl 4 rfl) ?_
        refine lv_iload hx hb dX11_addHero_36 (lv_at hl 5 rfl) ?_
        have hPc := hP.sub (ws' := []) [] rfl
        have hDc := hD.sub (ws' := []) [] (by decide) rfl
        have hFc := va_free (wc := []) hD hS hA [] rfl
        refine q_ci (wr := [(m0, .inr (11, [.ref mh, .ref mg, .ref ms, .ref md, .ref mc, .ref mr, .int (-1), .int 0, .int 0, .int 0, .long 0, .int 0, .int 0, .int 0])), (mh, .inr (1, [.int 0, .ref (g.2.2 1), .int 0])), (mc, .inr (1, [.int 0, .ref (g.2.2 1), .int 0])), (mg, .inl (g.2.1 0, 64, .inl fm))]) (va_runS (As := [.int n4, .int n5]) (rest := []) ⟨hx, hb, hml, hown, htg⟩ (c_X11_isCell l hfl g n4 n5  H.size) ⟨(qB htg k1398 k57 k1396 ok_X11_isCell rfl rfl ⟨Nat.le_of_ble_eq_true rfl, Nat.le_of_ble_eq_true rfl⟩), htg _ k1397⟩ (q_pre [.int n4, .int n5] hPc hDc hK hS hT hFc) rfl rfl hl.1 rfl (lv_room (Nat.le_of_ble_eq_true rfl)) dX11_addHero_38 ⟨Nat.le_of_ble_eq_true rfl, Nat.le_of_ble_eq_true rfl⟩) hP hD hS hFc [] [0, 1, 2, 3] rfl rfl (by decide) (by decide) (fun r9 u9 H locs hw hP hD hS => ?_)
        try dsimp only at hw
        rcases hw with ⟨c_10, rfl, rfl⟩ | ⟨c_11, rfl, rfl⟩
        · have hP : va_P g.1 CLS [(m0, .inr (11, [.ref mh, .ref mg, .ref ms, .ref md, .ref mc, .ref mr, .int (-1), .int 0, .int 0, .int 0, .long 0, .int 0, .int 0, .int 0])), (mh, .inr (1, [.int 0, .ref (g.2.2 1), .int 0])), (mc, .inr (1, [.int 0, .ref (g.2.2 1), .int 0])), (mg, .inl (g.2.1 0, 64, .inl fm))] H := hP
          have hD : va_D A [(m0, .inr (11, [.ref mh, .ref mg, .ref ms, .ref md, .ref mc, .ref mr, .int (-1), .int 0, .int 0, .int 0, .long 0, .int 0, .int 0, .int 0])), (mh, .inr (1, [.int 0, .ref (g.2.2 1), .int 0])), (mc, .inr (1, [.int 0, .ref (g.2.2 1), .int 0])), (mg, .inl (g.2.1 0, 64, .inl fm))] := hD
          refine W.widen (k := 0) (n := 0) (Nat.le_of_ble_eq_true rfl) (Nat.le_of_ble_eq_true rfl) ?_
          refine lv_if_eq (tgt := 48) hx hb dX11_addHero_41 (by decide) (fun c_12 => absurd c_12 (by decide)) (fun c_12 => ?_)
          refine lv_iconst (v := 1) hx hb dX11_addHero_44 (by decide) ?_
          refine lv_goto (tgt := 49) hx hb dX11_addHero_45 (by decide) ?_
          refine lv_istore (lv' := [(6, .int 1), (0, .ref m0), (1, .int n1), (2, .int n2), (3, .int n3), (4, .int n4), (5, .int n5)]) hx hb dX11_addHero_49 hl (by decide) rfl (fun ls hl => ?_)
          refine lv_aload_n hx hb dX11_addHero_51 rfl (lv_at hl 1 rfl) ?_
          refine lv_iload hx hb dX11_addHero_52 (lv_at hl 0 rfl) ?_
          refine lv_if_ne (tgt := 61) hx hb dX11_addHero_54 (by decide) (fun c_13 => ?_) (fun c_13 => absurd c_13 (by decide))
          refine lv_aload_n hx hb dX11_addHero_61 rfl (lv_at hl 1 rfl) ?_
          refine va_get (D := g.1) (ci := 11) (v := .ref mh) (C := RX11) (T := TX11) (N := 14) hx hb htg inG_X11 hown hK hP 0 rfl rfl 0 (by decide) (htg _ k1340) (fun _ h9 => h9) rfl dX11_addHero_62 ?_
          have hPc := hP.sub (ws' := [(mh, .inr (1, [.int 0, .ref (g.2.2 1), .int 0]))]) [1] rfl
          have hDc := hD.sub (ws' := [(mh, .inr (1, [.int 0, .ref (g.2.2 1), .int 0]))]) [1] (by decide) rfl
          have hFc := va_free (wc := [(mh, .inr (1, [.int 0, .ref (g.2.2 1), .int 0]))]) hD hS hA [1] rfl
          refine q_cFi (wr := [(m0, .inr (11, [.ref mh, .ref mg, .ref ms, .ref md, .ref mc, .ref mr, .int (-1), .int 0, .int 0, .int 0, .long 0, .int 0, .int 0, .int 0])), (mc, .inr (1, [.int 0, .ref (g.2.2 1), .int 0])), (mg, .inl (g.2.1 0, 64, .inl fm))]) (va_runF (As := []) (rest := [.ref m0]) (hK.1 1 _ rfl).2 ⟨hx, hb, hml, hown, htg⟩ (c_L_size l hfl g mh (g.2.2 1) 0 0  H.size) (qI5 htg k1409 k60 k1401 k1405 k1407 (hT.1.2.2.1.1) okx_size rfl rfl ⟨Nat.le_of_ble_eq_true rfl, Nat.le_of_ble_eq_true rfl⟩) ⟨(q_pre [.ref mh] hPc hDc hK hS hT hFc).1, va_recv hK hP (ci := 1) (q0 := 1) rfl rfl, (q_pre [.ref mh] hPc hDc hK hS hT hFc).2⟩ rfl rfl hl.1 rfl (lv_room (Nat.le_of_ble_eq_true rfl)) dX11_addHero_65 ⟨Nat.le_of_ble_eq_true rfl, Nat.le_of_ble_eq_true rfl⟩) hP hD hS hFc [1] [0, 2, 3] rfl rfl (by decide) (by decide) (fun r9 u9 H locs hw hP hD hS => ?_)
          try dsimp only at hw
          rcases hw with ⟨rfl, rfl⟩
          have hP : va_P g.1 CLS [(m0, .inr (11, [.ref mh, .ref mg, .ref ms, .ref md, .ref mc, .ref mr, .int (-1), .int 0, .int 0, .int 0, .long 0, .int 0, .int 0, .int 0])), (mc, .inr (1, [.int 0, .ref (g.2.2 1), .int 0])), (mg, .inl (g.2.1 0, 64, .inl fm)), (mh, .inr (1, [.int 0, .ref (g.2.2 1), .int 0]))] H := hP
          have hD : va_D A [(m0, .inr (11, [.ref mh, .ref mg, .ref ms, .ref md, .ref mc, .ref mr, .int (-1), .int 0, .int 0, .int 0, .long 0, .int 0, .int 0, .int 0])), (mc, .inr (1, [.int 0, .ref (g.2.2 1), .int 0])), (mg, .inl (g.2.1 0, 64, .inl fm)), (mh, .inr (1, [.int 0, .ref (g.2.2 1), .int 0]))] := hD
          refine W.widen (k := 0) (n := 0) (Nat.le_of_ble_eq_true rfl) (Nat.le_of_ble_eq_true rfl) ?_
          refine lv_bipush (v := 6) hx hb dX11_addHero_70 (by decide) ?_
          refine lv_icmp_eq (tgt := 82) hx hb dX11_addHero_72 (by decide) (fun c_14 => absurd c_14 (by decide)) (fun c_14 => ?_)
          refine lv_aload_n hx hb dX11_addHero_75 rfl (lv_at hl 1 rfl) ?_
          have hPc := hP.sub (ws' := [(m0, .inr (11, [.ref mh, .ref mg, .ref ms, .ref md, .ref mc, .ref mr, .int (-1), .int 0, .int 0, .int 0, .long 0, .int 0, .int 0, .int 0]))]) [0] rfl
          have hDc := hD.sub (ws' := [(m0, .inr (11, [.ref mh, .ref mg, .ref ms, .ref md, .ref mc, .ref mr, .int (-1), .int 0, .int 0, .int 0, .long 0, .int 0, .int 0, .int 0]))]) [0] (by decide) rfl
          have hFc := va_free (wc := [(m0, .inr (11, [.ref mh, .ref mg, .ref ms, .ref md, .ref mc, .ref mr, .int (-1), .int 0, .int 0, .int 0, .long 0, .int 0, .int 0, .int 0]))]) hD hS hA [0] rfl
          refine q_ci (wr := [(mc, .inr (1, [.int 0, .ref (g.2.2 1), .int 0])), (mg, .inl (g.2.1 0, 64, .inl fm)), (mh, .inr (1, [.int 0, .ref (g.2.2 1), .int 0]))]) (va_runV (As := []) (rest := [.ref m0]) ⟨hx, hb, hml, hown, htg⟩ (c_X11_isOn l hfl g m0 mh mg ms md mc mr  H.size) ⟨(qB htg k1413 k57 k1410 ok_X11_isOn rfl rfl ⟨Nat.le_of_ble_eq_true rfl, Nat.le_of_ble_eq_true rfl⟩), htg _ k1412, htg _ k17⟩ ⟨(q_pre [.ref m0] hPc hDc hK hS hT hFc).1, va_recv hK hP (ci := 11) (q0 := 0) rfl rfl, (q_pre [.ref m0] hPc hDc hK hS hT hFc).2⟩ rfl rfl hl.1 rfl (lv_room (Nat.le_of_ble_eq_true rfl)) dX11_addHero_76 ⟨Nat.le_of_ble_eq_true rfl, Nat.le_of_ble_eq_true rfl⟩) hP hD hS hFc [0] [1, 2, 3] rfl rfl (by decide) (by decide) (fun r9 u9 H locs hw hP hD hS => ?_)
          try dsimp only at hw
          rcases hw with ⟨rfl, rfl⟩
          have hP : va_P g.1 CLS [(mc, .inr (1, [.int 0, .ref (g.2.2 1), .int 0])), (mg, .inl (g.2.1 0, 64, .inl fm)), (mh, .inr (1, [.int 0, .ref (g.2.2 1), .int 0])), (m0, .inr (11, [.ref mh, .ref mg, .ref ms, .ref md, .ref mc, .ref mr, .int (-1), .int 0, .int 0, .int 0, .long 0, .int 0, .int 0, .int 0]))] H := hP
          have hD : va_D A [(mc, .inr (1, [.int 0, .ref (g.2.2 1), .int 0])), (mg, .inl (g.2.1 0, 64, .inl fm)), (mh, .inr (1, [.int 0, .ref (g.2.2 1), .int 0])), (m0, .inr (11, [.ref mh, .ref mg, .ref ms, .ref md, .ref mc, .ref mr, .int (-1), .int 0, .int 0, .int 0, .long 0, .int 0, .int 0, .int 0]))] := hD
          refine W.widen (k := 0) (n := 0) (Nat.le_of_ble_eq_true rfl) (Nat.le_of_ble_eq_true rfl) ?_
          refine lv_if_eq (tgt := 86) hx hb dX11_addHero_79 (by decide) (fun c_15 => ?_) (fun c_15 => absurd (by decide) c_15)
          refine lv_aload_n hx hb dX11_addHero_86 rfl (lv_at hl 1 rfl) ?_
          refine va_get (D := g.1) (ci := 11) (v := .ref mg) (C := RX11) (T := TX11) (N := 14) hx hb htg inG_X11 hown hK hP 3 rfl rfl 1 (by decide) (htg _ k1341) (fun _ h9 => h9) rfl dX11_addHero_87 ?_
          refine lv_bipush (v := 8) hx hb dX11_addHero_90 (by decide) ?_
          refine lv_iload hx hb dX11_addHero_92 (lv_at hl 6 rfl) ?_
          refine lv_imul hx hb dX11_addHero_94 ?_
          refine lv_topi (fun x_16 ex_16 => ?_)
          refine lv_iload hx hb dX11_addHero_95 (lv_at hl 5 rfl) ?_
          refine lv_iadd hx hb dX11_addHero_97 ?_
          refine lv_topi (fun x_17 ex_17 => ?_)
          refine va_cald hx hb hK hP 1 0 rfl rfl (i := x_17) (cellIn c_10 ex_16 ex_17) dX11_addHero_98 ?_
          refine lv_topi (fun x_18 ex_18 => ?_)
          obtain rfl : x_18 = 46 := ex_18.trans (cellAt hfm c_10 ex_16 ex_17)
          refine lv_bipush (v := 35) hx hb dX11_addHero_99 (by decide) ?_
          refine lv_icmp_eq (tgt := 115) hx hb dX11_addHero_101 (by decide) (fun c_19 => absurd c_19 (by decide)) (fun c_19 => ?_)
          refine lv_aload_n hx hb dX11_addHero_104 rfl (lv_at hl 1 rfl) ?_
          refine lv_iload hx hb dX11_addHero_105 (lv_at hl 5 rfl) ?_
          refine lv_iload hx hb dX11_addHero_107 (lv_at hl 6 rfl) ?_
          have hPc := hP.sub (ws' := [(m0, .inr (11, [.ref mh, .ref mg, .ref ms, .ref md, .ref mc, .ref mr, .int (-1), .int 0, .int 0, .int 0, .long 0, .int 0, .int 0, .int 0])), (mh, .inr (1, [.int 0, .ref (g.2.2 1), .int 0]))]) [3, 2] rfl
          have hDc := hD.sub (ws' := [(m0, .inr (11, [.ref mh, .ref mg, .ref ms, .ref md, .ref mc, .ref mr, .int (-1), .int 0, .int 0, .int 0, .long 0, .int 0, .int 0, .int 0])), (mh, .inr (1, [.int 0, .ref (g.2.2 1), .int 0]))]) [3, 2] (by decide) rfl
          have hFc := va_free (wc := [(m0, .inr (11, [.ref mh, .ref mg, .ref ms, .ref md, .ref mc, .ref mr, .int (-1), .int 0, .int 0, .int 0, .long 0, .int 0, .int 0, .int 0])), (mh, .inr (1, [.int 0, .ref (g.2.2 1), .int 0]))]) hD hS hA [3, 2] rfl
          refine q_cq (wr := [(mc, .inr (1, [.int 0, .ref (g.2.2 1), .int 0])), (mg, .inl (g.2.1 0, 64, .inl fm))]) (va_runV (As := [.int n4, .int n5]) (rest := [.ref m0]) ⟨hx, hb, hml, hown, htg⟩ (c_X11_heroIn l hfl g m0 mh mg ms md mc mr n4 n5  H.size) ⟨(qB htg k1417 k57 k1414 ok_X11_heroIn rfl rfl ⟨Nat.le_of_ble_eq_true rfl, Nat.le_of_ble_eq_true rfl⟩), htg _ k1416, htg _ k18⟩ ⟨(q_pre [.ref m0, .int n4, .int n5] hPc hDc hK hS hT hFc).1, va_recv hK hP (ci := 11) (q0 := 3) rfl rfl, (q_pre [.ref m0, .int n4, .int n5] hPc hDc hK hS hT hFc).2⟩ rfl rfl hl.1 rfl (lv_room (Nat.le_of_ble_eq_true rfl)) dX11_addHero_109 ⟨Nat.le_of_ble_eq_true rfl, Nat.le_of_ble_eq_true rfl⟩) hP hD hS hFc [3, 2] [0, 1] rfl rfl (by decide) (by decide) (fun r9 u9 H locs hw hP hD hS => ?_)
          try dsimp only at hw
          rcases hw with ⟨rfl, rfl⟩
          have hP : va_P g.1 CLS [(mc, .inr (1, [.int 0, .ref (g.2.2 1), .int 0])), (mg, .inl (g.2.1 0, 64, .inl fm)), (m0, .inr (11, [.ref mh, .ref mg, .ref ms, .ref md, .ref mc, .ref mr, .int (-1), .int 0, .int 0, .int 0, .long 0, .int 0, .int 0, .int 0])), (mh, .inr (1, [.int 0, .ref (g.2.2 1), .int 0]))] H := hP
          have hD : va_D A [(mc, .inr (1, [.int 0, .ref (g.2.2 1), .int 0])), (mg, .inl (g.2.1 0, 64, .inl fm)), (m0, .inr (11, [.ref mh, .ref mg, .ref ms, .ref md, .ref mc, .ref mr, .int (-1), .int 0, .int 0, .int 0, .long 0, .int 0, .int 0, .int 0])), (mh, .inr (1, [.int 0, .ref (g.2.2 1), .int 0]))] := hD
          refine W.widen (k := 1) (n := 4) (Nat.le_of_ble_eq_true rfl) (Nat.le_of_ble_eq_true rfl) ?_
          refine lv_ifnullN (tgt := 119) hx hb dX11_addHero_112 (by decide) ?_
          refine lv_iconst (v := 0) hx hb dX11_addHero_119 (by decide) ?_
          refine va_put (D := g.1) (ci := 11) (v := .int 0) (ty := .int) (C := RX11) (T := TX11) (N := 14) hx hb htg inG_X11 tyX11 tyX11_ok nmX11 hown hK hP hD hS 2 rfl rfl 13 (by decide) (htg _ k1353) (fun _ h9 => h9) rfl (by decide +kernel) rfl rfl (Nat.le_of_ble_eq_true rfl) dX11_addHero_120 (fun H locs hP hD hS => ?_)
          have hP : va_P g.1 CLS [(mc, .inr (1, [.int 0, .ref (g.2.2 1), .int 0])), (mg, .inl (g.2.1 0, 64, .inl fm)), (m0, .inr (11, [.ref mh, .ref mg, .ref ms, .ref md, .ref mc, .ref mr, .int (-1), .int 0, .int 0, .int 0, .long 0, .int 0, .int 0, .int 0])), (mh, .inr (1, [.int 0, .ref (g.2.2 1), .int 0]))] H := hP
          have hD : va_D A [(mc, .inr (1, [.int 0, .ref (g.2.2 1), .int 0])), (mg, .inl (g.2.1 0, 64, .inl fm)), (m0, .inr (11, [.ref mh, .ref mg, .ref ms, .ref md, .ref mc, .ref mr, .int (-1), .int 0, .int 0, .int 0, .long 0, .int 0, .int 0, .int 0])), (mh, .inr (1, [.int 0, .ref (g.2.2 1), .int 0]))] := hD
          refine lv_aload_n hx hb dX11_addHero_123 rfl (lv_at hl 1 rfl) ?_
          refine va_get (D := g.1) (ci := 11) (v := .int 0) (C := RX11) (T := TX11) (N := 14) hx hb htg inG_X11 hown hK hP 2 rfl rfl 13 (by decide) (htg _ k1353) (fun _ h9 => h9) rfl dX11_addHero_124 ?_
          refine lv_if_le (tgt := 132) hx hb dX11_addHero_127 (by decide) (fun c_20 => ?_) (fun c_20 => absurd (by decide) c_20)
          refine lv_aload_n hx hb dX11_addHero_132 rfl (lv_at hl 1 rfl) ?_
          refine lv_bipush (v := 72) hx hb dX11_addHero_133 (by decide) ?_
          refine lv_iconst (v := 5) hx hb dX11_addHero_135 (by decide) ?_
          refine va_newa (atype := .int) (ty := .int) (a0 := (5, .inl (fun _ => 0))) (N' := 5) hx hb (htg _ k156) rfl hK hP hD hS hA (fun _ => rfl) (by decide) (by decide) (by decide) (Nat.le_of_ble_eq_true rfl) (Nat.le_of_ble_eq_true rfl) dX11_addHero_136 (fun q_21 cA H hK9 hP hD hS => ?_)
          obtain rfl := q_arr hK9 (t0 := 1) rfl (by decide)
          clear hK9
          have hP : va_P g.1 CLS [(mc, .inr (1, [.int 0, .ref (g.2.2 1), .int 0])), (mg, .inl (g.2.1 0, 64, .inl fm)), (m0, .inr (11, [.ref mh, .ref mg, .ref ms, .ref md, .ref mc, .ref mr, .int (-1), .int 0, .int 0, .int 0, .long 0, .int 0, .int 0, .int 0])), (mh, .inr (1, [.int 0, .ref (g.2.2 1), .int 0])), (q_21, .inl (g.2.1 1, 5, .inl (fun _ => 0)))] H := hP
          have hD : va_D A [(mc, .inr (1, [.int 0, .ref (g.2.2 1), .int 0])), (mg, .inl (g.2.1 0, 64, .inl fm)), (m0, .inr (11, [.ref mh, .ref mg, .ref ms, .ref md, .ref mc, .ref mr, .int (-1), .int 0, .int 0, .int 0, .long 0, .int 0, .int 0, .int 0])), (mh, .inr (1, [.int 0, .ref (g.2.2 1), .int 0])), (q_21, .inl (g.2.1 1, 5, .inl (fun _ => 0)))] := hD
          refine W.widen (k := 2) (n := 9) (Nat.le_of_ble_eq_true rfl) (Nat.le_of_ble_eq_true rfl) ?_
          refine lv_dup hx hb dX11_addHero_138 rfl ?_
          refine lv_iconst (v := 0) hx hb dX11_addHero_139 (by decide) ?_
          refine lv_iload_n hx hb dX11_addHero_140 rfl (lv_at hl 2 rfl) ?_
          refine va_iast hx hb hK hP hD hS 4 1 rfl rfl (i := 0) (vp_in_iff.mpr (by decide)) dX11_addHero_141 (fun H locs hP hD hS => ?_)
          have hP : va_P g.1 CLS [(mc, .inr (1, [.int 0, .ref (g.2.2 1), .int 0])), (mg, .inl (g.2.1 0, 64, .inl fm)), (m0, .inr (11, [.ref mh, .ref mg, .ref ms, .ref md, .ref mc, .ref mr, .int (-1), .int 0, .int 0, .int 0, .long 0, .int 0, .int 0, .int 0])), (mh, .inr (1, [.int 0, .ref (g.2.2 1), .int 0])), (q_21, .inl (g.2.1 1, 5, .inl (upd (fun _ => 0) 0 n1)))] H := hP
          have hD : va_D A [(mc, .inr (1, [.int 0, .ref (g.2.2 1), .int 0])), (mg, .inl (g.2.1 0, 64, .inl fm)), (m0, .inr (11, [.ref mh, .ref mg, .ref ms, .ref md, .ref mc, .ref mr, .int (-1), .int 0, .int 0, .int 0, .long 0, .int 0, .int 0, .int 0])), (mh, .inr (1, [.int 0, .ref (g.2.2 1), .int 0])), (q_21, .inl (g.2.1 1, 5, .inl (upd (fun _ => 0) 0 n1)))] := hD
          refine lv_dup hx hb dX11_addHero_142 rfl ?_
          refine lv_iconst (v := 1) hx hb dX11_addHero_143 (by decide) ?_
          refine lv_iload_n hx hb dX11_addHero_144 rfl (lv_at hl 3 rfl) ?_
          refine va_iast hx hb hK hP hD hS 4 1 rfl rfl (i := 1) (vp_in_iff.mpr (by decide)) dX11_addHero_145 (fun H locs hP hD hS => ?_)
          have hP : va_P g.1 CLS [(mc, .inr (1, [.int 0, .ref (g.2.2 1), .int 0])), (mg, .inl (g.2.1 0, 64, .inl fm)), (m0, .inr (11, [.ref mh, .ref mg, .ref ms, .ref md, .ref mc, .ref mr, .int (-1), .int 0, .int 0, .int 0, .long 0, .int 0, .int 0, .int 0])), (mh, .inr (1, [.int 0, .ref (g.2.2 1), .int 0])), (q_21, .inl (g.2.1 1, 5, .inl (upd (upd (fun _ => 0) 0 n1) 1 n2)))] H := hP
          have hD : va_D A [(mc, .inr (1, [.int 0, .ref (g.2.2 1), .int 0])), (mg, .inl (g.2.1 0, 64, .inl fm)), (m0, .inr (11, [.ref mh, .ref mg, .ref ms, .ref md, .ref mc, .ref mr, .int (-1), .int 0, .int 0, .int 0, .long 0, .int 0, .int 0, .int 0])), (mh, .inr (1, [.int 0, .ref (g.2.2 1), .int 0])), (q_21, .inl (g.2.1 1, 5, .inl (upd (upd (fun _ => 0) 0 n1) 1 n2)))] := hD
          refine lv_dup hx hb dX11_addHero_146 rfl ?_
          refine lv_iconst (v := 2) hx hb dX11_addHero_147 (by decide) ?_
          refine lv_iload_n hx hb dX11_addHero_148 rfl (lv_at hl 4 rfl) ?_
          refine va_iast hx hb hK hP hD hS 4 1 rfl rfl (i := 2) (vp_in_iff.mpr (by decide)) dX11_addHero_149 (fun H locs hP hD hS => ?_)
          have hP : va_P g.1 CLS [(mc, .inr (1, [.int 0, .ref (g.2.2 1), .int 0])), (mg, .inl (g.2.1 0, 64, .inl fm)), (m0, .inr (11, [.ref mh, .ref mg, .ref ms, .ref md, .ref mc, .ref mr, .int (-1), .int 0, .int 0, .int 0, .long 0, .int 0, .int 0, .int 0])), (mh, .inr (1, [.int 0, .ref (g.2.2 1), .int 0])), (q_21, .inl (g.2.1 1, 5, .inl (upd (upd (upd (fun _ => 0) 0 n1) 1 n2) 2 n3)))] H := hP
          have hD : va_D A [(mc, .inr (1, [.int 0, .ref (g.2.2 1), .int 0])), (mg, .inl (g.2.1 0, 64, .inl fm)), (m0, .inr (11, [.ref mh, .ref mg, .ref ms, .ref md, .ref mc, .ref mr, .int (-1), .int 0, .int 0, .int 0, .long 0, .int 0, .int 0, .int 0])), (mh, .inr (1, [.int 0, .ref (g.2.2 1), .int 0])), (q_21, .inl (g.2.1 1, 5, .inl (upd (upd (upd (fun _ => 0) 0 n1) 1 n2) 2 n3)))] := hD
          refine lv_dup hx hb dX11_addHero_150 rfl ?_
          refine lv_iconst (v := 3) hx hb dX11_addHero_151 (by decide) ?_
          refine lv_iload hx hb dX11_addHero_152 (lv_at hl 5 rfl) ?_
          refine va_iast hx hb hK hP hD hS 4 1 rfl rfl (i := 3) (vp_in_iff.mpr (by decide)) dX11_addHero_154 (fun H locs hP hD hS => ?_)
          have hP : va_P g.1 CLS [(mc, .inr (1, [.int 0, .ref (g.2.2 1), .int 0])), (mg, .inl (g.2.1 0, 64, .inl fm)), (m0, .inr (11, [.ref mh, .ref mg, .ref ms, .ref md, .ref mc, .ref mr, .int (-1), .int 0, .int 0, .int 0, .long 0, .int 0, .int 0, .int 0])), (mh, .inr (1, [.int 0, .ref (g.2.2 1), .int 0])), (q_21, .inl (g.2.1 1, 5, .inl (upd (upd (upd (upd (fun _ => 0) 0 n1) 1 n2) 2 n3) 3 n4)))] H := hP
          have hD : va_D A [(mc, .inr (1, [.int 0, .ref (g.2.2 1), .int 0])), (mg, .inl (g.2.1 0, 64, .inl fm)), (m0, .inr (11, [.ref mh, .ref mg, .ref ms, .ref md, .ref mc, .ref mr, .int (-1), .int 0, .int 0, .int 0, .long 0, .int 0, .int 0, .int 0])), (mh, .inr (1, [.int 0, .ref (g.2.2 1), .int 0])), (q_21, .inl (g.2.1 1, 5, .inl (upd (upd (upd (upd (fun _ => 0) 0 n1) 1 n2) 2 n3) 3 n4)))] := hD
          refine lv_dup hx hb dX11_addHero_155 rfl ?_
          refine lv_iconst (v := 4) hx hb dX11_addHero_156 (by decide) ?_
          refine lv_iload hx hb dX11_addHero_157 (lv_at hl 6 rfl) ?_
          refine va_iast hx hb hK hP hD hS 4 1 rfl rfl (i := 4) (vp_in_iff.mpr (by decide)) dX11_addHero_159 (fun H locs hP hD hS => ?_)
          have hP : va_P g.1 CLS [(mc, .inr (1, [.int 0, .ref (g.2.2 1), .int 0])), (mg, .inl (g.2.1 0, 64, .inl fm)), (m0, .inr (11, [.ref mh, .ref mg, .ref ms, .ref md, .ref mc, .ref mr, .int (-1), .int 0, .int 0, .int 0, .long 0, .int 0, .int 0, .int 0])), (mh, .inr (1, [.int 0, .ref (g.2.2 1), .int 0])), (q_21, .inl (g.2.1 1, 5, .inl (upd (upd (upd (upd (upd (fun _ => 0) 0 n1) 1 n2) 2 n3) 3 n4) 4 n5)))] H := hP
          have hD : va_D A [(mc, .inr (1, [.int 0, .ref (g.2.2 1), .int 0])), (mg, .inl (g.2.1 0, 64, .inl fm)), (m0, .inr (11, [.ref mh, .ref mg, .ref ms, .ref md, .ref mc, .ref mr, .int (-1), .int 0, .int 0, .int 0, .long 0, .int 0, .int 0, .int 0])), (mh, .inr (1, [.int 0, .ref (g.2.2 1), .int 0])), (q_21, .inl (g.2.1 1, 5, .inl (upd (upd (upd (upd (upd (fun _ => 0) 0 n1) 1 n2) 2 n3) 3 n4) 4 n5)))] := hD
          have hPc := hP.sub (ws' := [(m0, .inr (11, [.ref mh, .ref mg, .ref ms, .ref md, .ref mc, .ref mr, .int (-1), .int 0, .int 0, .int 0, .long 0, .int 0, .int 0, .int 0])), (mc, .inr (1, [.int 0, .ref (g.2.2 1), .int 0]))]) [2, 0] rfl
          have hDc := hD.sub (ws' := [(m0, .inr (11, [.ref mh, .ref mg, .ref ms, .ref md, .ref mc, .ref mr, .int (-1), .int 0, .int 0, .int 0, .long 0, .int 0, .int 0, .int 0])), (mc, .inr (1, [.int 0, .ref (g.2.2 1), .int 0]))]) [2, 0] (by decide) rfl
          have hFc := va_free (wc := [(m0, .inr (11, [.ref mh, .ref mg, .ref ms, .ref md, .ref mc, .ref mr, .int (-1), .int 0, .int 0, .int 0, .long 0, .int 0, .int 0, .int 0])), (mc, .inr (1, [.int 0, .ref (g.2.2 1), .int 0]))]) hD hS hA [2, 0] rfl
          refine q_cv (wr := [(mg, .inl (g.2.1 0, 64, .inl fm)), (mh, .inr (1, [.int 0, .ref (g.2.2 1), .int 0])), (q_21, .inl (g.2.1 1, 5, .inl (upd (upd (upd (upd (upd (fun _ => 0) 0 n1) 1 n2) 2 n3) 3 n4) 4 n5)))]) (va_runV (As := [.int 72, .ref q_21]) (rest := []) ⟨hx, hb, hml, hown, htg⟩ (c_X11_keep l hfl g m0 mh mg ms md mc mr 72 q_21 (rfl) (rfl) H.size) ⟨(qB htg k1484 k57 k1481 ok_X11_keep rfl rfl ⟨Nat.le_of_ble_eq_true rfl, Nat.le_of_ble_eq_true rfl⟩), htg _ k1483, htg _ k19⟩ ⟨(q_pre [.ref m0, .int 72, .ref q_21] hPc hDc hK hS hT hFc).1, va_recv hK hP (ci := 11) (q0 := 2) rfl rfl, (q_pre [.ref m0, .int 72, .ref q_21] hPc hDc hK hS hT hFc).2⟩ rfl rfl hl.1 rfl (lv_room (Nat.le_of_ble_eq_true rfl)) dX11_addHero_160 ⟨Nat.le_of_ble_eq_true rfl, Nat.le_of_ble_eq_true rfl⟩) hP hD hS hFc [2, 0] [1, 3, 4] rfl rfl (by decide) (by decide) (fun u9 H locs hw hP hD hS => ?_)
          try dsimp only at hw
          rcases hw with rfl
          have hP : va_P g.1 CLS [(mg, .inl (g.2.1 0, 64, .inl fm)), (mh, .inr (1, [.int 0, .ref (g.2.2 1), .int 0])), (q_21, .inl (g.2.1 1, 5, .inl (upd (upd (upd (upd (upd (fun _ => 0) 0 n1) 1 n2) 2 n3) 3 n4) 4 n5))), (m0, .inr (11, [.ref mh, .ref mg, .ref ms, .ref md, .ref mc, .ref mr, .int (-1), .int 0, .int 0, .int 0, .long 0, .int 0, .int 0, .int 0]))] H := hP
          have hD : va_D A [(mg, .inl (g.2.1 0, 64, .inl fm)), (mh, .inr (1, [.int 0, .ref (g.2.2 1), .int 0])), (q_21, .inl (g.2.1 1, 5, .inl (upd (upd (upd (upd (upd (fun _ => 0) 0 n1) 1 n2) 2 n3) 3 n4) 4 n5))), (m0, .inr (11, [.ref mh, .ref mg, .ref ms, .ref md, .ref mc, .ref mr, .int (-1), .int 0, .int 0, .int 0, .long 0, .int 0, .int 0, .int 0]))] := hD
          refine W.widen (k := 5) (n := 25) (Nat.le_of_ble_eq_true rfl) (Nat.le_of_ble_eq_true rfl) ?_
          refine lv_aload_n hx hb dX11_addHero_163 rfl (lv_at hl 1 rfl) ?_
          refine va_get (D := g.1) (ci := 11) (v := .ref mh) (C := RX11) (T := TX11) (N := 14) hx hb htg inG_X11 hown hK hP 3 rfl rfl 0 (by decide) (htg _ k1340) (fun _ h9 => h9) rfl dX11_addHero_164 ?_
          refine va_new (ci := 10) (fs := [.int 0, .int 0, .int 0, .int 0, .null, .int 0, .int 0, .int 0, .int 0, .int 0, .int 0, .int 0, .int 0, .int 0]) (C := RX9) (T := TX9) (N := 14) hx hb htg inG_X9 tyX9 tyX9_ok hown (htg _ k1480) (htg _ k1568) (htg _ k76) hK hP hD hS hA rfl (by decide) (Nat.le_of_ble_eq_true rfl) (Nat.le_of_ble_eq_true rfl) dX11_addHero_167 (fun q_22 H hP hD hS => ?_)
          have hP : va_P g.1 CLS [(mg, .inl (g.2.1 0, 64, .inl fm)), (mh, .inr (1, [.int 0, .ref (g.2.2 1), .int 0])), (q_21, .inl (g.2.1 1, 5, .inl (upd (upd (upd (upd (upd (fun _ => 0) 0 n1) 1 n2) 2 n3) 3 n4) 4 n5))), (m0, .inr (11, [.ref mh, .ref mg, .ref ms, .ref md, .ref mc, .ref mr, .int (-1), .int 0, .int 0, .int 0, .long 0, .int 0, .int 0, .int 0])), (q_22, .inr (10, [.int 0, .int 0, .int 0, .int 0, .null, .int 0, .int 0, .int 0, .int 0, .int 0, .int 0, .int 0, .int 0, .int 0]))] H := hP
          have hD : va_D A [(mg, .inl (g.2.1 0, 64, .inl fm)), (mh, .inr (1, [.int 0, .ref (g.2.2 1), .int 0])), (q_21, .inl (g.2.1 1, 5, .inl (upd (upd (upd (upd (upd (fun _ => 0) 0 n1) 1 n2) 2 n3) 3 n4) 4 n5))), (m0, .inr (11, [.ref mh, .ref mg, .ref ms, .ref md, .ref mc, .ref mr, .int (-1), .int 0, .int 0, .int 0, .long 0, .int 0, .int 0, .int 0])), (q_22, .inr (10, [.int 0, .int 0, .int 0, .int 0, .null, .int 0, .int 0, .int 0, .int 0, .int 0, .int 0, .int 0, .int 0, .int 0]))] := hD
          refine W.widen (k := 6) (n := 39) (Nat.le_of_ble_eq_true rfl) (Nat.le_of_ble_eq_true rfl) ?_
          refine lv_dup hx hb dX11_addHero_170 rfl ?_
          refine lv_aload_n hx hb dX11_addHero_171 rfl (lv_at hl 1 rfl) ?_
          refine va_get (D := g.1) (ci := 11) (v := .ref mh) (C := RX11) (T := TX11) (N := 14) hx hb htg inG_X11 hown hK hP 3 rfl rfl 0 (by decide) (htg _ k1340) (fun _ h9 => h9) rfl dX11_addHero_172 ?_
          have hPc := hP.sub (ws' := [(mh, .inr (1, [.int 0, .ref (g.2.2 1), .int 0]))]) [1] rfl
          have hDc := hD.sub (ws' := [(mh, .inr (1, [.int 0, .ref (g.2.2 1), .int 0]))]) [1] (by decide) rfl
          have hFc := va_free (wc := [(mh, .inr (1, [.int 0, .ref (g.2.2 1), .int 0]))]) hD hS hA [1] rfl
          refine q_cFi (wr := [(mg, .inl (g.2.1 0, 64, .inl fm)), (q_21, .inl (g.2.1 1, 5, .inl (upd (upd (upd (upd (upd (fun _ => 0) 0 n1) 1 n2) 2 n3) 3 n4) 4 n5))), (m0, .inr (11, [.ref mh, .ref mg, .ref ms, .ref md, .ref mc, .ref mr, .int (-1), .int 0, .int 0, .int 0, .long 0, .int 0, .int 0, .int 0])), (q_22, .inr (10, [.int 0, .int 0, .int 0, .int 0, .null, .int 0, .int 0, .int 0, .int 0, .int 0, .int 0, .int 0, .int 0, .int 0]))]) (va_runF (As := []) (rest := [.ref q_22, .ref q_22, .ref mh]) (hK.1 1 _ rfl).2 ⟨hx, hb, hml, hown, htg⟩ (c_L_size l hfl g mh (g.2.2 1) 0 0  H.size) (qI5 htg k1409 k60 k1401 k1405 k1407 (hT.1.2.2.1.1) okx_size rfl rfl ⟨Nat.le_of_ble_eq_true rfl, Nat.le_of_ble_eq_true rfl⟩) ⟨(q_pre [.ref mh] hPc hDc hK hS hT hFc).1, va_recv hK hP (ci := 1) (q0 := 1) rfl rfl, (q_pre [.ref mh] hPc hDc hK hS hT hFc).2⟩ rfl rfl hl.1 rfl (lv_room (Nat.le_of_ble_eq_true rfl)) dX11_addHero_175 ⟨Nat.le_of_ble_eq_true rfl, Nat.le_of_ble_eq_true rfl⟩) hP hD hS hFc [1] [0, 2, 3, 4] rfl rfl (by decide) (by decide) (fun r9 u9 H locs hw hP hD hS => ?_)
          try dsimp only at hw
          rcases hw with ⟨rfl, rfl⟩
          have hP : va_P g.1 CLS [(mg, .inl (g.2.1 0, 64, .inl fm)), (q_21, .inl (g.2.1 1, 5, .inl (upd (upd (upd (upd (upd (fun _ => 0) 0 n1) 1 n2) 2 n3) 3 n4) 4 n5))), (m0, .inr (11, [.ref mh, .ref mg, .ref ms, .ref md, .ref mc, .ref mr, .int (-1), .int 0, .int 0, .int 0, .long 0, .int 0, .int 0, .int 0])), (q_22, .inr (10, [.int 0, .int 0, .int 0, .int 0, .null, .int 0, .int 0, .int 0, .int 0, .int 0, .int 0, .int 0, .int 0, .int 0])), (mh, .inr (1, [.int 0, .ref (g.2.2 1), .int 0]))] H := hP
          have hD : va_D A [(mg, .inl (g.2.1 0, 64, .inl fm)), (q_21, .inl (g.2.1 1, 5, .inl (upd (upd (upd (upd (upd (fun _ => 0) 0 n1) 1 n2) 2 n3) 3 n4) 4 n5))), (m0, .inr (11, [.ref mh, .ref mg, .ref ms, .ref md, .ref mc, .ref mr, .int (-1), .int 0, .int 0, .int 0, .long 0, .int 0, .int 0, .int 0])), (q_22, .inr (10, [.int 0, .int 0, .int 0, .int 0, .null, .int 0, .int 0, .int 0, .int 0, .int 0, .int 0, .int 0, .int 0, .int 0])), (mh, .inr (1, [.int 0, .ref (g.2.2 1), .int 0]))] := hD
          refine W.widen (k := 6) (n := 39) (Nat.le_of_ble_eq_true rfl) (Nat.le_of_ble_eq_true rfl) ?_
          refine lv_iload_n hx hb dX11_addHero_180 rfl (lv_at hl 2 rfl) ?_
          refine lv_iload_n hx hb dX11_addHero_181 rfl (lv_at hl 3 rfl) ?_
          refine lv_iload_n hx hb dX11_addHero_182 rfl (lv_at hl 4 rfl) ?_
          refine lv_iload hx hb dX11_addHero_183 (lv_at hl 5 rfl) ?_
          refine lv_iload hx hb dX11_addHero_185 (lv_at hl 6 rfl) ?_
          have hPc := hP.sub (ws' := [(q_22, .inr (10, [.int 0, .int 0, .int 0, .int 0, .null, .int 0, .int 0, .int 0, .int 0, .int 0, .int 0, .int 0, .int 0, .int 0]))]) [3] rfl
          have hDc := hD.sub (ws' := [(q_22, .inr (10, [.int 0, .int 0, .int 0, .int 0, .null, .int 0, .int 0, .int 0, .int 0, .int 0, .int 0, .int 0, .int 0, .int 0]))]) [3] (by decide) rfl
          have hFc := va_free (wc := [(q_22, .inr (10, [.int 0, .int 0, .int 0, .int 0, .null, .int 0, .int 0, .int 0, .int 0, .int 0, .int 0, .int 0, .int 0, .int 0]))]) hD hS hA [3] rfl
          refine q_cv (wr := [(mg, .inl (g.2.1 0, 64, .inl fm)), (q_21, .inl (g.2.1 1, 5, .inl (upd (upd (upd (upd (upd (fun _ => 0) 0 n1) 1 n2) 2 n3) 3 n4) 4 n5))), (m0, .inr (11, [.ref mh, .ref mg, .ref ms, .ref md, .ref mc, .ref mr, .int (-1), .int 0, .int 0, .int 0, .long 0, .int 0, .int 0, .int 0])), (mh, .inr (1, [.int 0, .ref (g.2.2 1), .int 0]))]) (va_runI (As := [.int 0, .int n1, .int n2, .int n3, .int n4, .int n5]) (rest := [.ref q_22, .ref mh]) ⟨hx, hb, hml, hown, htg⟩ (c_X9_init l hfl g q_22 0 n1 n2 n3 n4 n5  H.size) ⟨(qB htg k1571 k76 k1569 ok_X9_init rfl rfl ⟨Nat.le_of_ble_eq_true rfl, Nat.le_of_ble_eq_true rfl⟩), rfl, htg _ k1570⟩ (q_pre [.ref q_22, .int 0, .int n1, .int n2, .int n3, .int n4, .int n5] hPc hDc hK hS hT hFc) rfl rfl hl.1 rfl (lv_room (Nat.le_of_ble_eq_true rfl)) dX11_addHero_187 ⟨Nat.le_of_ble_eq_true rfl, Nat.le_of_ble_eq_true rfl⟩) hP hD hS hFc [3] [0, 1, 2, 4] rfl rfl (by decide) (by decide) (fun u9 H locs hw hP hD hS => ?_)
          try dsimp only at hw
          rcases hw with ⟨q_23, rfl⟩
          have hP : va_P g.1 CLS [(mg, .inl (g.2.1 0, 64, .inl fm)), (q_21, .inl (g.2.1 1, 5, .inl (upd (upd (upd (upd (upd (fun _ => 0) 0 n1) 1 n2) 2 n3) 3 n4) 4 n5))), (m0, .inr (11, [.ref mh, .ref mg, .ref ms, .ref md, .ref mc, .ref mr, .int (-1), .int 0, .int 0, .int 0, .long 0, .int 0, .int 0, .int 0])), (mh, .inr (1, [.int 0, .ref (g.2.2 1), .int 0])), (q_22, .inr (10, [.int 0, .int n1, .int n2, .int n3, .ref q_23, .int n2, .int 0, .int n4, .int n5, .int 0, .int 3, .int 0, .int 32, .int 32]))] H := hP
          have hD : va_D A [(mg, .inl (g.2.1 0, 64, .inl fm)), (q_21, .inl (g.2.1 1, 5, .inl (upd (upd (upd (upd (upd (fun _ => 0) 0 n1) 1 n2) 2 n3) 3 n4) 4 n5))), (m0, .inr (11, [.ref mh, .ref mg, .ref ms, .ref md, .ref mc, .ref mr, .int (-1), .int 0, .int 0, .int 0, .long 0, .int 0, .int 0, .int 0])), (mh, .inr (1, [.int 0, .ref (g.2.2 1), .int 0])), (q_22, .inr (10, [.int 0, .int n1, .int n2, .int n3, .ref q_23, .int n2, .int 0, .int n4, .int n5, .int 0, .int 3, .int 0, .int 32, .int 32]))] := hD
          refine W.widen (k := 7) (n := 44) (Nat.le_of_ble_eq_true rfl) (Nat.le_of_ble_eq_true rfl) ?_
          have hPc := hP.sub (ws' := [(mh, .inr (1, [.int 0, .ref (g.2.2 1), .int 0])), (q_22, .inr (10, [.int 0, .int n1, .int n2, .int n3, .ref q_23, .int n2, .int 0, .int n4, .int n5, .int 0, .int 3, .int 0, .int 32, .int 32]))]) [3, 4] rfl
          have hDc := hD.sub (ws' := [(mh, .inr (1, [.int 0, .ref (g.2.2 1), .int 0])), (q_22, .inr (10, [.int 0, .int n1, .int n2, .int n3, .ref q_23, .int n2, .int 0, .int n4, .int n5, .int 0, .int 3, .int 0, .int 32, .int 32]))]) [3, 4] (by decide) rfl
          have hFc := va_free (wc := [(mh, .inr (1, [.int 0, .ref (g.2.2 1), .int 0])), (q_22, .inr (10, [.int 0, .int n1, .int n2, .int n3, .ref q_23, .int n2, .int 0, .int n4, .int n5, .int 0, .int 3, .int 0, .int 32, .int 32]))]) hD hS hA [3, 4] rfl
          refine q_cFi (wr := [(mg, .inl (g.2.1 0, 64, .inl fm)), (q_21, .inl (g.2.1 1, 5, .inl (upd (upd (upd (upd (upd (fun _ => 0) 0 n1) 1 n2) 2 n3) 3 n4) 4 n5))), (m0, .inr (11, [.ref mh, .ref mg, .ref ms, .ref md, .ref mc, .ref mr, .int (-1), .int 0, .int 0, .int 0, .long 0, .int 0, .int 0, .int 0]))]) (va_runF (As := [.ref q_22]) (rest := []) (hK.1 1 _ rfl).2 ⟨hx, hb, hml, hown, htg⟩ (c_L_addH l hfl g mh q_22 0 n1 n2 n3 n2 0 n4 n5 0 3 0 32 32 q_23  H.size) (qI5 htg k1508 k60 k1501 k1504 k1506 (hT.1.2.2.1.2.2.2.1) okx_add rfl rfl ⟨Nat.le_of_ble_eq_true rfl, Nat.le_of_ble_eq_true rfl⟩) ⟨(q_pre [.ref mh, .ref q_22] hPc hDc hK hS hT hFc).1, va_recv hK hP (ci := 1) (q0 := 3) rfl rfl, (q_pre [.ref mh, .ref q_22] hPc hDc hK hS hT hFc).2⟩ rfl rfl hl.1 rfl (lv_room (Nat.le_of_ble_eq_true rfl)) dX11_addHero_190 ⟨Nat.le_of_ble_eq_true rfl, Nat.le_of_ble_eq_true rfl⟩) hP hD hS hFc [3, 4] [0, 1, 2] rfl rfl (by decide) (by decide) (fun r9 u9 H locs hw hP hD hS => ?_)
          try dsimp only at hw
          rcases hw with ⟨q_24, rfl, rfl⟩
          have hP : va_P g.1 CLS [(mg, .inl (g.2.1 0, 64, .inl fm)), (q_21, .inl (g.2.1 1, 5, .inl (upd (upd (upd (upd (upd (fun _ => 0) 0 n1) 1 n2) 2 n3) 3 n4) 4 n5))), (m0, .inr (11, [.ref mh, .ref mg, .ref ms, .ref md, .ref mc, .ref mr, .int (-1), .int 0, .int 0, .int 0, .long 0, .int 0, .int 0, .int 0])), (mh, .inr (1, [.int 1, .ref q_24, .int 1]))] H := hP
          have hD : va_D A [(mg, .inl (g.2.1 0, 64, .inl fm)), (q_21, .inl (g.2.1 1, 5, .inl (upd (upd (upd (upd (upd (fun _ => 0) 0 n1) 1 n2) 2 n3) 3 n4) 4 n5))), (m0, .inr (11, [.ref mh, .ref mg, .ref ms, .ref md, .ref mc, .ref mr, .int (-1), .int 0, .int 0, .int 0, .long 0, .int 0, .int 0, .int 0])), (mh, .inr (1, [.int 1, .ref q_24, .int 1]))] := hD
          refine W.widen (k := 8) (n := 54) (Nat.le_of_ble_eq_true rfl) (Nat.le_of_ble_eq_true rfl) ?_
          refine lv_pop hx hb dX11_addHero_195 rfl ?_
          refine lv_aload_n hx hb dX11_addHero_196 rfl (lv_at hl 1 rfl) ?_
          refine va_get (D := g.1) (ci := 11) (v := .ref mh) (C := RX11) (T := TX11) (N := 14) hx hb htg inG_X11 hown hK hP 2 rfl rfl 0 (by decide) (htg _ k1340) (fun _ h9 => h9) rfl dX11_addHero_197 ?_
          have hPc := hP.sub (ws' := [(mh, .inr (1, [.int 1, .ref q_24, .int 1]))]) [3] rfl
          have hDc := hD.sub (ws' := [(mh, .inr (1, [.int 1, .ref q_24, .int 1]))]) [3] (by decide) rfl
          have hFc := va_free (wc := [(mh, .inr (1, [.int 1, .ref q_24, .int 1]))]) hD hS hA [3] rfl
          refine q_cFi (wr := [(mg, .inl (g.2.1 0, 64, .inl fm)), (q_21, .inl (g.2.1 1, 5, .inl (upd (upd (upd (upd (upd (fun _ => 0) 0 n1) 1 n2) 2 n3) 3 n4) 4 n5))), (m0, .inr (11, [.ref mh, .ref mg, .ref ms, .ref md, .ref mc, .ref mr, .int (-1), .int 0, .int 0, .int 0, .long 0, .int 0, .int 0, .int 0]))]) (va_runF (As := []) (rest := []) (hK.1 1 _ rfl).2 ⟨hx, hb, hml, hown, htg⟩ (c_L_size l hfl g mh q_24 1 1  H.size) (qI5 htg k1409 k60 k1401 k1405 k1407 (hT.1.2.2.1.1) okx_size rfl rfl ⟨Nat.le_of_ble_eq_true rfl, Nat.le_of_ble_eq_true rfl⟩) ⟨(q_pre [.ref mh] hPc hDc hK hS hT hFc).1, va_recv hK hP (ci := 1) (q0 := 3) rfl rfl, (q_pre [.ref mh] hPc hDc hK hS hT hFc).2⟩ rfl rfl hl.1 rfl (lv_room (Nat.le_of_ble_eq_true rfl)) dX11_addHero_200 ⟨Nat.le_of_ble_eq_true rfl, Nat.le_of_ble_eq_true rfl⟩) hP hD hS hFc [3] [0, 1, 2] rfl rfl (by decide) (by decide) (fun r9 u9 H locs hw hP hD hS => ?_)
          try dsimp only at hw
          rcases hw with ⟨rfl, rfl⟩
          have hP : va_P g.1 CLS [(mg, .inl (g.2.1 0, 64, .inl fm)), (q_21, .inl (g.2.1 1, 5, .inl (upd (upd (upd (upd (upd (fun _ => 0) 0 n1) 1 n2) 2 n3) 3 n4) 4 n5))), (m0, .inr (11, [.ref mh, .ref mg, .ref ms, .ref md, .ref mc, .ref mr, .int (-1), .int 0, .int 0, .int 0, .long 0, .int 0, .int 0, .int 0])), (mh, .inr (1, [.int 1, .ref q_24, .int 1]))] H := hP
          have hD : va_D A [(mg, .inl (g.2.1 0, 64, .inl fm)), (q_21, .inl (g.2.1 1, 5, .inl (upd (upd (upd (upd (upd (fun _ => 0) 0 n1) 1 n2) 2 n3) 3 n4) 4 n5))), (m0, .inr (11, [.ref mh, .ref mg, .ref ms, .ref md, .ref mc, .ref mr, .int (-1), .int 0, .int 0, .int 0, .long 0, .int 0, .int 0, .int 0])), (mh, .inr (1, [.int 1, .ref q_24, .int 1]))] := hD
          refine W.widen (k := 8) (n := 54) (Nat.le_of_ble_eq_true rfl) (Nat.le_of_ble_eq_true rfl) ?_
          refine lv_iconst (v := 1) hx hb dX11_addHero_205 (by decide) ?_
          refine lv_isub hx hb dX11_addHero_206 ?_
          refine lv_topi (fun x_25 ex_25 => ?_)
          obtain rfl : x_25 = 0 := ex_25.trans (by decide)
          have hP9 := hP.sub (ws' := [(m0, .inr (11, [.ref mh, .ref mg, .ref ms, .ref md, .ref mc, .ref mr, .int (-1), .int 0, .int 0, .int 0, .long 0, .int 0, .int 0, .int 0]))]) [2] rfl
          have hD9 := hD.sub (ws' := [(m0, .inr (11, [.ref mh, .ref mg, .ref ms, .ref md, .ref mc, .ref mr, .int (-1), .int 0, .int 0, .int 0, .long 0, .int 0, .int 0, .int 0]))]) [2] (by decide) rfl
          refine W.widen (k := 20) (n := 100) (Nat.le_of_ble_eq_true rfl) (Nat.le_of_ble_eq_true rfl) ?_
          exact W.iret (v := 0) hx hb hr (fun t ht hW => ⟨⟨0, [(m0, .inr (11, [.ref mh, .ref mg, .ref ms, .ref md, .ref mc, .ref mr, .int (-1), .int 0, .int 0, .int 0, .long 0, .int 0, .int 0, .int 0]))], rfl, Or.inl ⟨⟨⟨by simp only [inR, Int32.toInt_toInt64, ll0, ll1, ll7, ll99, ll30, ll9, ll40, ll50, ll20, lln20, lln1, fa_lt, fa_le, fa_eq, li0, li1, li97, li99, li103, li109, li115, li120] at c_1 c_4 c_7 ⊢; omega, by simp only [inR, Int32.toInt_toInt64, ll0, ll1, ll7, ll99, ll30, ll9, ll40, ll50, ll20, lln20, lln1, fa_lt, fa_le, fa_eq, li0, li1, li97, li99, li103, li109, li115, li120] at c_1 c_4 c_7 ⊢; omega⟩, ⟨by simp only [inR, Int32.toInt_toInt64, ll0, ll1, ll7, ll99, ll30, ll9, ll40, ll50, ll20, lln20, lln1, fa_lt, fa_le, fa_eq, li0, li1, li97, li99, li103, li109, li115, li120] at c_1 c_4 c_7 ⊢; omega, by simp only [inR, Int32.toInt_toInt64, ll0, ll1, ll7, ll99, ll30, ll9, ll40, ll50, ll20, lln20, lln1, fa_lt, fa_le, fa_eq, li0, li1, li97, li99, li103, li109, li115, li120] at c_1 c_4 c_7 ⊢; omega⟩, ⟨by simp only [inR, Int32.toInt_toInt64, ll0, ll1, ll7, ll99, ll30, ll9, ll40, ll50, ll20, lln20, lln1, fa_lt, fa_le, fa_eq, li0, li1, li97, li99, li103, li109, li115, li120] at c_1 c_4 c_7 ⊢; omega, by simp only [inR, Int32.toInt_toInt64, ll0, ll1, ll7, ll99, ll30, ll9, ll40, ll50, ll20, lln20, lln1, fa_lt, fa_le, fa_eq, li0, li1, li97, li99, li103, li109, li115, li120] at c_1 c_4 c_7 ⊢; omega⟩, c_10⟩, rfl, rfl⟩, by rw [ht]; exact hP9, va_K.moved hW.alike hK, hD9⟩, hS.F ht⟩) hS.2.2 dX11_addHero_207
        · have hP : va_P g.1 CLS [(m0, .inr (11, [.ref mh, .ref mg, .ref ms, .ref md, .ref mc, .ref mr, .int (-1), .int 0, .int 0, .int 0, .long 0, .int 0, .int 0, .int 0])), (mh, .inr (1, [.int 0, .ref (g.2.2 1), .int 0])), (mc, .inr (1, [.int 0, .ref (g.2.2 1), .int 0])), (mg, .inl (g.2.1 0, 64, .inl fm))] H := hP
          have hD : va_D A [(m0, .inr (11, [.ref mh, .ref mg, .ref ms, .ref md, .ref mc, .ref mr, .int (-1), .int 0, .int 0, .int 0, .long 0, .int 0, .int 0, .int 0])), (mh, .inr (1, [.int 0, .ref (g.2.2 1), .int 0])), (mc, .inr (1, [.int 0, .ref (g.2.2 1), .int 0])), (mg, .inl (g.2.1 0, 64, .inl fm))] := hD
          refine W.widen (k := 0) (n := 0) (Nat.le_of_ble_eq_true rfl) (Nat.le_of_ble_eq_true rfl) ?_
          refine lv_if_eq (tgt := 48) hx hb dX11_addHero_41 (by decide) (fun c_26 => ?_) (fun c_26 => absurd (by decide) c_26)
          refine lv_iconst (v := 0) hx hb dX11_addHero_48 (by decide) ?_
          refine lv_istore (lv' := [(6, .int 0), (0, .ref m0), (1, .int n1), (2, .int n2), (3, .int n3), (4, .int n4), (5, .int n5)]) hx hb dX11_addHero_49 hl (by decide) rfl (fun ls hl => ?_)
          refine lv_aload_n hx hb dX11_addHero_51 rfl (lv_at hl 1 rfl) ?_
          refine lv_iload hx hb dX11_addHero_52 (lv_at hl 0 rfl) ?_
          refine lv_if_ne (tgt := 61) hx hb dX11_addHero_54 (by decide) (fun c_27 => absurd (by decide) c_27) (fun c_27 => ?_)
          refine lv_iconst (v := 1) hx hb dX11_addHero_57 (by decide) ?_
          refine lv_goto (tgt := 120) hx hb dX11_addHero_58 (by decide) ?_
          refine va_put (D := g.1) (ci := 11) (v := .int 1) (ty := .int) (C := RX11) (T := TX11) (N := 14) hx hb htg inG_X11 tyX11 tyX11_ok nmX11 hown hK hP hD hS 0 rfl rfl 13 (by decide) (htg _ k1353) (fun _ h9 => h9) rfl (by decide +kernel) rfl rfl (Nat.le_of_ble_eq_true rfl) dX11_addHero_120 (fun H locs hP hD hS => ?_)
          have hP : va_P g.1 CLS [(m0, .inr (11, [.ref mh, .ref mg, .ref ms, .ref md, .ref mc, .ref mr, .int (-1), .int 0, .int 0, .int 0, .long 0, .int 0, .int 0, .int 1])), (mh, .inr (1, [.int 0, .ref (g.2.2 1), .int 0])), (mc, .inr (1, [.int 0, .ref (g.2.2 1), .int 0])), (mg, .inl (g.2.1 0, 64, .inl fm))] H := hP
          have hD : va_D A [(m0, .inr (11, [.ref mh, .ref mg, .ref ms, .ref md, .ref mc, .ref mr, .int (-1), .int 0, .int 0, .int 0, .long 0, .int 0, .int 0, .int 1])), (mh, .inr (1, [.int 0, .ref (g.2.2 1), .int 0])), (mc, .inr (1, [.int 0, .ref (g.2.2 1), .int 0])), (mg, .inl (g.2.1 0, 64, .inl fm))] := hD
          refine lv_aload_n hx hb dX11_addHero_123 rfl (lv_at hl 1 rfl) ?_
          refine va_get (D := g.1) (ci := 11) (v := .int 1) (C := RX11) (T := TX11) (N := 14) hx hb htg inG_X11 hown hK hP 0 rfl rfl 13 (by decide) (htg _ k1353) (fun _ h9 => h9) rfl dX11_addHero_124 ?_
          refine lv_if_le (tgt := 132) hx hb dX11_addHero_127 (by decide) (fun c_28 => absurd c_28 (by decide)) (fun c_28 => ?_)
          refine lv_iconst (v := (-1)) hx hb dX11_addHero_130 (by decide) ?_
          have hP9 := hP.sub (ws' := [(m0, .inr (11, [.ref mh, .ref mg, .ref ms, .ref md, .ref mc, .ref mr, .int (-1), .int 0, .int 0, .int 0, .long 0, .int 0, .int 0, .int 1]))]) [0] rfl
          have hD9 := hD.sub (ws' := [(m0, .inr (11, [.ref mh, .ref mg, .ref ms, .ref md, .ref mc, .ref mr, .int (-1), .int 0, .int 0, .int 0, .long 0, .int 0, .int 0, .int 1]))]) [0] (by decide) rfl
          refine W.widen (k := 20) (n := 100) (Nat.le_of_ble_eq_true rfl) (Nat.le_of_ble_eq_true rfl) ?_
          exact W.iret (v := (-1)) hx hb hr (fun t ht hW => ⟨⟨(-1), [(m0, .inr (11, [.ref mh, .ref mg, .ref ms, .ref md, .ref mc, .ref mr, .int (-1), .int 0, .int 0, .int 0, .long 0, .int 0, .int 0, .int 1]))], rfl, Or.inr (⟨fun hh => absurd hh.2.2.2 c_11, rfl, rfl⟩), by rw [ht]; exact hP9, va_K.moved hW.alike hK, hD9⟩, hS.F ht⟩) hS.2.2 dX11_addHero_131
      · have hP : va_P g.1 CLS [(m0, .inr (11, [.ref mh, .ref mg, .ref ms, .ref md, .ref mc, .ref mr, .int (-1), .int 0, .int 0, .int 0, .long 0, .int 0, .int 0, .int 0])), (mh, .inr (1, [.int 0, .ref (g.2.2 1), .int 0])), (mc, .inr (1, [.int 0, .ref (g.2.2 1), .int 0])), (mg, .inl (g.2.1 0, 64, .inl fm))] H := hP
        have hD : va_D A [(m0, .inr (11, [.ref mh, .ref mg, .ref ms, .ref md, .ref mc, .ref mr, .int (-1), .int 0, .int 0, .int 0, .long 0, .int 0, .int 0, .int 0])), (mh, .inr (1, [.int 0, .ref (g.2.2 1), .int 0])), (mc, .inr (1, [.int 0, .ref (g.2.2 1), .int 0])), (mg, .inl (g.2.1 0, 64, .inl fm))] := hD
        refine W.widen (k := 0) (n := 0) (Nat.le_of_ble_eq_true rfl) (Nat.le_of_ble_eq_true rfl) ?_
        refine lv_if_eq (tgt := 48) hx hb dX11_addHero_31 (by decide) (fun c_29 => ?_) (fun c_29 => absurd (by decide) c_29)
        refine lv_iconst (v := 0) hx hb dX11_addHero_48 (by decide) ?_
        refine lv_istore (lv' := [(6, .int 0), (0, .ref m0), (1, .int n1), (2, .int n2), (3, .int n3), (4, .int n4), (5, .int n5)]) hx hb dX11_addHero_49 hl (by decide) rfl (fun ls hl => ?_)
        refine lv_aload_n hx hb dX11_addHero_51 rfl (lv_at hl 1 rfl) ?_
        refine lv_iload hx hb dX11_addHero_52 (lv_at hl 0 rfl) ?_
        refine lv_if_ne (tgt := 61) hx hb dX11_addHero_54 (by decide) (fun c_30 => absurd (by decide) c_30) (fun c_30 => ?_)
        refine lv_iconst (v := 1) hx hb dX11_addHero_57 (by decide) ?_
        refine lv_goto (tgt := 120) hx hb dX11_addHero_58 (by decide) ?_
        refine va_put (D := g.1) (ci := 11) (v := .int 1) (ty := .int) (C := RX11) (T := TX11) (N := 14) hx hb htg inG_X11 tyX11 tyX11_ok nmX11 hown hK hP hD hS 0 rfl rfl 13 (by decide) (htg _ k1353) (fun _ h9 => h9) rfl (by decide +kernel) rfl rfl (Nat.le_of_ble_eq_true rfl) dX11_addHero_120 (fun H locs hP hD hS => ?_)
        have hP : va_P g.1 CLS [(m0, .inr (11, [.ref mh, .ref mg, .ref ms, .ref md, .ref mc, .ref mr, .int (-1), .int 0, .int 0, .int 0, .long 0, .int 0, .int 0, .int 1])), (mh, .inr (1, [.int 0, .ref (g.2.2 1), .int 0])), (mc, .inr (1, [.int 0, .ref (g.2.2 1), .int 0])), (mg, .inl (g.2.1 0, 64, .inl fm))] H := hP
        have hD : va_D A [(m0, .inr (11, [.ref mh, .ref mg, .ref ms, .ref md, .ref mc, .ref mr, .int (-1), .int 0, .int 0, .int 0, .long 0, .int 0, .int 0, .int 1])), (mh, .inr (1, [.int 0, .ref (g.2.2 1), .int 0])), (mc, .inr (1, [.int 0, .ref (g.2.2 1), .int 0])), (mg, .inl (g.2.1 0, 64, .inl fm))] := hD
        refine lv_aload_n hx hb dX11_addHero_123 rfl (lv_at hl 1 rfl) ?_
        refine va_get (D := g.1) (ci := 11) (v := .int 1) (C := RX11) (T := TX11) (N := 14) hx hb htg inG_X11 hown hK hP 0 rfl rfl 13 (by decide) (htg _ k1353) (fun _ h9 => h9) rfl dX11_addHero_124 ?_
        refine lv_if_le (tgt := 132) hx hb dX11_addHero_127 (by decide) (fun c_31 => absurd c_31 (by decide)) (fun c_31 => ?_)
        refine lv_iconst (v := (-1)) hx hb dX11_addHero_130 (by decide) ?_
        have hP9 := hP.sub (ws' := [(m0, .inr (11, [.ref mh, .ref mg, .ref ms, .ref md, .ref mc, .ref mr, .int (-1), .int 0, .int 0, .int 0, .long 0, .int 0, .int 0, .int 1]))]) [0] rfl
        have hD9 := hD.sub (ws' := [(m0, .inr (11, [.ref mh, .ref mg, .ref ms, .ref md, .ref mc, .ref mr, .int (-1), .int 0, .int 0, .int 0, .long 0, .int 0, .int 0, .int 1]))]) [0] (by decide) rfl
        refine W.widen (k := 20) (n := 100) (Nat.le_of_ble_eq_true rfl) (Nat.le_of_ble_eq_true rfl) ?_
        exact W.iret (v := (-1)) hx hb hr (fun t ht hW => ⟨⟨(-1), [(m0, .inr (11, [.ref mh, .ref mg, .ref ms, .ref md, .ref mc, .ref mr, .int (-1), .int 0, .int 0, .int 0, .long 0, .int 0, .int 0, .int 1]))], rfl, Or.inr (⟨fun hh => absurd (by simp only [inR, Int32.toInt_toInt64, ll0, ll1, ll7, ll99, ll30, ll9, ll40, ll50, ll20, lln20, lln1, fa_lt, fa_le, fa_eq, li0, li1, li97, li99, li103, li109, li115, li120] at c_1 c_4 c_8 ⊢; omega : ¬ ((0 ≤ n1.toInt ∧ n1.toInt ≤ 1) ∧ (1 ≤ n2.toInt ∧ n2.toInt ≤ 99) ∧ (0 ≤ n3.toInt ∧ n3.toInt ≤ 30))) (fun k => k ⟨hh.1, hh.2.1, hh.2.2.1⟩), rfl, rfl⟩), by rw [ht]; exact hP9, va_K.moved hW.alike hK, hD9⟩, hS.F ht⟩) hS.2.2 dX11_addHero_131
    · have hP : va_P g.1 CLS [(m0, .inr (11, [.ref mh, .ref mg, .ref ms, .ref md, .ref mc, .ref mr, .int (-1), .int 0, .int 0, .int 0, .long 0, .int 0, .int 0, .int 0])), (mh, .inr (1, [.int 0, .ref (g.2.2 1), .int 0])), (mc, .inr (1, [.int 0, .ref (g.2.2 1), .int 0])), (mg, .inl (g.2.1 0, 64, .inl fm))] H := hP
      have hD : va_D A [(m0, .inr (11, [.ref mh, .ref mg, .ref ms, .ref md, .ref mc, .ref mr, .int (-1), .int 0, .int 0, .int 0, .long 0, .int 0, .int 0, .int 0])), (mh, .inr (1, [.int 0, .ref (g.2.2 1), .int 0])), (mc, .inr (1, [.int 0, .ref (g.2.2 1), .int 0])), (mg, .inl (g.2.1 0, 64, .inl fm))] := hD
      refine W.widen (k := 0) (n := 0) (Nat.le_of_ble_eq_true rfl) (Nat.le_of_ble_eq_true rfl) ?_
      refine lv_if_eq (tgt := 48) hx hb dX11_addHero_19 (by decide) (fun c_32 => ?_) (fun c_32 => absurd (by decide) c_32)
      refine lv_iconst (v := 0) hx hb dX11_addHero_48 (by decide) ?_
      refine lv_istore (lv' := [(6, .int 0), (0, .ref m0), (1, .int n1), (2, .int n2), (3, .int n3), (4, .int n4), (5, .int n5)]) hx hb dX11_addHero_49 hl (by decide) rfl (fun ls hl => ?_)
      refine lv_aload_n hx hb dX11_addHero_51 rfl (lv_at hl 1 rfl) ?_
      refine lv_iload hx hb dX11_addHero_52 (lv_at hl 0 rfl) ?_
      refine lv_if_ne (tgt := 61) hx hb dX11_addHero_54 (by decide) (fun c_33 => absurd (by decide) c_33) (fun c_33 => ?_)
      refine lv_iconst (v := 1) hx hb dX11_addHero_57 (by decide) ?_
      refine lv_goto (tgt := 120) hx hb dX11_addHero_58 (by decide) ?_
      refine va_put (D := g.1) (ci := 11) (v := .int 1) (ty := .int) (C := RX11) (T := TX11) (N := 14) hx hb htg inG_X11 tyX11 tyX11_ok nmX11 hown hK hP hD hS 0 rfl rfl 13 (by decide) (htg _ k1353) (fun _ h9 => h9) rfl (by decide +kernel) rfl rfl (Nat.le_of_ble_eq_true rfl) dX11_addHero_120 (fun H locs hP hD hS => ?_)
      have hP : va_P g.1 CLS [(m0, .inr (11, [.ref mh, .ref mg, .ref ms, .ref md, .ref mc, .ref mr, .int (-1), .int 0, .int 0, .int 0, .long 0, .int 0, .int 0, .int 1])), (mh, .inr (1, [.int 0, .ref (g.2.2 1), .int 0])), (mc, .inr (1, [.int 0, .ref (g.2.2 1), .int 0])), (mg, .inl (g.2.1 0, 64, .inl fm))] H := hP
      have hD : va_D A [(m0, .inr (11, [.ref mh, .ref mg, .ref ms, .ref md, .ref mc, .ref mr, .int (-1), .int 0, .int 0, .int 0, .long 0, .int 0, .int 0, .int 1])), (mh, .inr (1, [.int 0, .ref (g.2.2 1), .int 0])), (mc, .inr (1, [.int 0, .ref (g.2.2 1), .int 0])), (mg, .inl (g.2.1 0, 64, .inl fm))] := hD
      refine lv_aload_n hx hb dX11_addHero_123 rfl (lv_at hl 1 rfl) ?_
      refine va_get (D := g.1) (ci := 11) (v := .int 1) (C := RX11) (T := TX11) (N := 14) hx hb htg inG_X11 hown hK hP 0 rfl rfl 13 (by decide) (htg _ k1353) (fun _ h9 => h9) rfl dX11_addHero_124 ?_
      refine lv_if_le (tgt := 132) hx hb dX11_addHero_127 (by decide) (fun c_34 => absurd c_34 (by decide)) (fun c_34 => ?_)
      refine lv_iconst (v := (-1)) hx hb dX11_addHero_130 (by decide) ?_
      have hP9 := hP.sub (ws' := [(m0, .inr (11, [.ref mh, .ref mg, .ref ms, .ref md, .ref mc, .ref mr, .int (-1), .int 0, .int 0, .int 0, .long 0, .int 0, .int 0, .int 1]))]) [0] rfl
      have hD9 := hD.sub (ws' := [(m0, .inr (11, [.ref mh, .ref mg, .ref ms, .ref md, .ref mc, .ref mr, .int (-1), .int 0, .int 0, .int 0, .long 0, .int 0, .int 0, .int 1]))]) [0] (by decide) rfl
      refine W.widen (k := 20) (n := 100) (Nat.le_of_ble_eq_true rfl) (Nat.le_of_ble_eq_true rfl) ?_
      exact W.iret (v := (-1)) hx hb hr (fun t ht hW => ⟨⟨(-1), [(m0, .inr (11, [.ref mh, .ref mg, .ref ms, .ref md, .ref mc, .ref mr, .int (-1), .int 0, .int 0, .int 0, .long 0, .int 0, .int 0, .int 1]))], rfl, Or.inr (⟨fun hh => absurd (by simp only [inR, Int32.toInt_toInt64, ll0, ll1, ll7, ll99, ll30, ll9, ll40, ll50, ll20, lln20, lln1, fa_lt, fa_le, fa_eq, li0, li1, li97, li99, li103, li109, li115, li120] at c_1 c_5 ⊢; omega : ¬ ((0 ≤ n1.toInt ∧ n1.toInt ≤ 1) ∧ (1 ≤ n2.toInt ∧ n2.toInt ≤ 99) ∧ (0 ≤ n3.toInt ∧ n3.toInt ≤ 30))) (fun k => k ⟨hh.1, hh.2.1, hh.2.2.1⟩), rfl, rfl⟩), by rw [ht]; exact hP9, va_K.moved hW.alike hK, hD9⟩, hS.F ht⟩) hS.2.2 dX11_addHero_131
  · have hP : va_P g.1 CLS [(m0, .inr (11, [.ref mh, .ref mg, .ref ms, .ref md, .ref mc, .ref mr, .int (-1), .int 0, .int 0, .int 0, .long 0, .int 0, .int 0, .int 0])), (mh, .inr (1, [.int 0, .ref (g.2.2 1), .int 0])), (mc, .inr (1, [.int 0, .ref (g.2.2 1), .int 0])), (mg, .inl (g.2.1 0, 64, .inl fm))] H := hP
    have hD : va_D A [(m0, .inr (11, [.ref mh, .ref mg, .ref ms, .ref md, .ref mc, .ref mr, .int (-1), .int 0, .int 0, .int 0, .long 0, .int 0, .int 0, .int 0])), (mh, .inr (1, [.int 0, .ref (g.2.2 1), .int 0])), (mc, .inr (1, [.int 0, .ref (g.2.2 1), .int 0])), (mg, .inl (g.2.1 0, 64, .inl fm))] := hD
    refine W.widen (k := 0) (n := 0) (Nat.le_of_ble_eq_true rfl) (Nat.le_of_ble_eq_true rfl) ?_
    refine lv_if_eq (tgt := 48) hx hb dX11_addHero_7 (by decide) (fun c_35 => ?_) (fun c_35 => absurd (by decide) c_35)
    refine lv_iconst (v := 0) hx hb dX11_addHero_48 (by decide) ?_
    refine lv_istore (lv' := [(6, .int 0), (0, .ref m0), (1, .int n1), (2, .int n2), (3, .int n3), (4, .int n4), (5, .int n5)]) hx hb dX11_addHero_49 hl (by decide) rfl (fun ls hl => ?_)
    refine lv_aload_n hx hb dX11_addHero_51 rfl (lv_at hl 1 rfl) ?_
    refine lv_iload hx hb dX11_addHero_52 (lv_at hl 0 rfl) ?_
    refine lv_if_ne (tgt := 61) hx hb dX11_addHero_54 (by decide) (fun c_36 => absurd (by decide) c_36) (fun c_36 => ?_)
    refine lv_iconst (v := 1) hx hb dX11_addHero_57 (by decide) ?_
    refine lv_goto (tgt := 120) hx hb dX11_addHero_58 (by decide) ?_
    refine va_put (D := g.1) (ci := 11) (v := .int 1) (ty := .int) (C := RX11) (T := TX11) (N := 14) hx hb htg inG_X11 tyX11 tyX11_ok nmX11 hown hK hP hD hS 0 rfl rfl 13 (by decide) (htg _ k1353) (fun _ h9 => h9) rfl (by decide +kernel) rfl rfl (Nat.le_of_ble_eq_true rfl) dX11_addHero_120 (fun H locs hP hD hS => ?_)
    have hP : va_P g.1 CLS [(m0, .inr (11, [.ref mh, .ref mg, .ref ms, .ref md, .ref mc, .ref mr, .int (-1), .int 0, .int 0, .int 0, .long 0, .int 0, .int 0, .int 1])), (mh, .inr (1, [.int 0, .ref (g.2.2 1), .int 0])), (mc, .inr (1, [.int 0, .ref (g.2.2 1), .int 0])), (mg, .inl (g.2.1 0, 64, .inl fm))] H := hP
    have hD : va_D A [(m0, .inr (11, [.ref mh, .ref mg, .ref ms, .ref md, .ref mc, .ref mr, .int (-1), .int 0, .int 0, .int 0, .long 0, .int 0, .int 0, .int 1])), (mh, .inr (1, [.int 0, .ref (g.2.2 1), .int 0])), (mc, .inr (1, [.int 0, .ref (g.2.2 1), .int 0])), (mg, .inl (g.2.1 0, 64, .inl fm))] := hD
    refine lv_aload_n hx hb dX11_addHero_123 rfl (lv_at hl 1 rfl) ?_
    refine va_get (D := g.1) (ci := 11) (v := .int 1) (C := RX11) (T := TX11) (N := 14) hx hb htg inG_X11 hown hK hP 0 rfl rfl 13 (by decide) (htg _ k1353) (fun _ h9 => h9) rfl dX11_addHero_124 ?_
    refine lv_if_le (tgt := 132) hx hb dX11_addHero_127 (by decide) (fun c_37 => absurd c_37 (by decide)) (fun c_37 => ?_)
    refine lv_iconst (v := (-1)) hx hb dX11_addHero_130 (by decide) ?_
    have hP9 := hP.sub (ws' := [(m0, .inr (11, [.ref mh, .ref mg, .ref ms, .ref md, .ref mc, .ref mr, .int (-1), .int 0, .int 0, .int 0, .long 0, .int 0, .int 0, .int 1]))]) [0] rfl
    have hD9 := hD.sub (ws' := [(m0, .inr (11, [.ref mh, .ref mg, .ref ms, .ref md, .ref mc, .ref mr, .int (-1), .int 0, .int 0, .int 0, .long 0, .int 0, .int 0, .int 1]))]) [0] (by decide) rfl
    refine W.widen (k := 20) (n := 100) (Nat.le_of_ble_eq_true rfl) (Nat.le_of_ble_eq_true rfl) ?_
    exact W.iret (v := (-1)) hx hb hr (fun t ht hW => ⟨⟨(-1), [(m0, .inr (11, [.ref mh, .ref mg, .ref ms, .ref md, .ref mc, .ref mr, .int (-1), .int 0, .int 0, .int 0, .long 0, .int 0, .int 0, .int 1]))], rfl, Or.inr (⟨fun hh => absurd (by simp only [inR, Int32.toInt_toInt64, ll0, ll1, ll7, ll99, ll30, ll9, ll40, ll50, ll20, lln20, lln1, fa_lt, fa_le, fa_eq, li0, li1, li97, li99, li103, li109, li115, li120] at c_2 ⊢; omega : ¬ ((0 ≤ n1.toInt ∧ n1.toInt ≤ 1) ∧ (1 ≤ n2.toInt ∧ n2.toInt ≤ 99) ∧ (0 ≤ n3.toInt ∧ n3.toInt ≤ 30))) (fun k => k ⟨hh.1, hh.2.1, hh.2.2.1⟩), rfl, rfl⟩), by rw [ht]; exact hP9, va_K.moved hW.alike hK, hD9⟩, hS.F ht⟩) hS.2.2 dX11_addHero_131

set_option maxHeartbeats 4000000 in
set_option maxRecDepth 100000 in
theorem c_m_setGround (l : Launch) (hfl : l.stackTraces = false) (g : GP) (m0 : Nat) (mh : Nat) (mg : Nat) (ms : Nat) (md : Nat) (mc : Nat) (mr : Nat) (fm : Nat → Int32) (n1 : Int32) (n2 : Int32) (n3 : Int32) (hfm : ∀ j : Nat, j < 64 → fm j = 46) : CI l yX11_setGround (wG yX11_setGround cX11_setGround 5 (Option.some Jvm.ClassFile.FieldType.char)) (LV 8 20 100) g [.ref m0, .int n1, .int n2, .int n3] ([(m0, .inr (11, [.ref mh, .ref mg, .ref ms, .ref md, .ref mc, .ref mr, .int (-1), .int 0, .int 0, .int 0, .long 0, .int 0, .int 0, .int 0])), (mh, .inr (1, [.int 0, .ref (g.2.2 1), .int 0])), (mc, .inr (1, [.int 0, .ref (g.2.2 1), .int 0])), (mg, .inl (g.2.1 0, 64, .inl fm))]) (fun (r : Int32) (u : va_W) => ((okGr n1 n2 n3) ∧ r = 46 ∧ u = [(m0, .inr (11, [.ref mh, .ref mg, .ref ms, .ref md, .ref mc, .ref mr, .int (-1), .int 0, .int 0, .int 0, .long 0, .int 0, .int 0, .int 0]))]) ∨ ((¬ okGr n1 n2 n3) ∧ r = 32 ∧ u = [(m0, .inr (11, [.ref mh, .ref mg, .ref ms, .ref md, .ref mc, .ref mr, .int (-1), .int 0, .int 0, .int 0, .long 0, .int 0, .int 0, .int 1]))])) := by
  intro sz
  refine Met.ofW (cc := cX11_setGround) (maxL := 5) (ret := (Option.some Jvm.ClassFile.FieldType.char)) (by decide) rfl ?_
  intro p e s m args below meth c s₁ B hml hv
  obtain ⟨rfl, hsz, hP, hK, hD0, hT0⟩ := hv
  have hx := B.exec
  have hb := B.bytes
  have hr := B.returns
  have hts := atoms_spec (ws := (wG yX11_setGround cX11_setGround 5 (Option.some Jvm.ClassFile.FieldType.char))) B.pre
  have htg : ∀ w ∈ G9, w.before _ s = true := fun w h => hts w (List.mem_cons_of_mem _ h)
  have hown : s.vm.findClass "HeroTableModel" = some m.cls := findClass_of_methodNamed B.named
  have hlocks := B.notSynchronized
  subst hsz
  have hD := hD0.self (sz := s.heap.size)
  have hT := hT0
  clear hT0
  generalize hAe : va_A [(m0, .inr (11, [.ref mh, .ref mg, .ref ms, .ref md, .ref mc, .ref mr, .int (-1), .int 0, .int 0, .int 0, .long 0, .int 0, .int 0, .int 0])), (mh, .inr (1, [.int 0, .ref (g.2.2 1), .int 0])), (mc, .inr (1, [.int 0, .ref (g.2.2 1), .int 0])), (mg, .inl (g.2.1 0, 64, .inl fm))] s.heap.size = A at hD hT ⊢
  have hA : ∀ q : Nat, s.heap.size ≤ q → A q := fun q h => by rw [← hAe]; exact Or.inr h
  obtain ⟨H, hH0⟩ : ∃ H, H = s.heap := ⟨_, rfl⟩
  have hS : va_S A s.heap H [] := by rw [hH0]; exact va_S.rf
  have hP : va_P g.1 CLS [(m0, .inr (11, [.ref mh, .ref mg, .ref ms, .ref md, .ref mc, .ref mr, .int (-1), .int 0, .int 0, .int 0, .long 0, .int 0, .int 0, .int 0])), (mh, .inr (1, [.int 0, .ref (g.2.2 1), .int 0])), (mc, .inr (1, [.int 0, .ref (g.2.2 1), .int 0])), (mg, .inl (g.2.1 0, 64, .inl fm))] H := by rw [hH0]; exact hP
  rw [← hH0]
  have hl := lv_entry ([.ref m0, .int n1, .int n2, .int n3]) (n := 5) (Nat.le_of_ble_eq_true rfl)
  rw [lg_entry_eq]
  generalize (lg_sl ([.ref m0, .int n1, .int n2, .int n3]) ++ List.replicate (5 - (lg_sl ([.ref m0, .int n1, .int n2, .int n3])).length) Slot.unset).toArray = ls at hl ⊢
  have hl : lv_has ls 5 [(0, .ref m0), (1, .int n1), (2, .int n2), (3, .int n3)] := hl
  refine lv_aload_n hx hb dX11_setGround_0 rfl (lv_at hl 0 rfl) ?_
  refine lv_iload_n hx hb dX11_setGround_1 rfl (lv_at hl 1 rfl) ?_
  refine lv_iload_n hx hb dX11_setGround_2 rfl (lv_at hl 2 rfl) ?_
  have hPc := hP.sub (ws' := []) [] rfl
  have hDc := hD.sub (ws' := []) [] (by decide) rfl
  have hFc := va_free (wc := []) hD hS hA [] rfl
  refine q_ci (wr := [(m0, .inr (11, [.ref mh, .ref mg, .ref ms, .ref md, .ref mc, .ref mr, .int (-1), .int 0, .int 0, .int 0, .long 0, .int 0, .int 0, .int 0])), (mh, .inr (1, [.int 0, .ref (g.2.2 1), .int 0])), (mc, .inr (1, [.int 0, .ref (g.2.2 1), .int 0])), (mg, .inl (g.2.1 0, 64, .inl fm))]) (va_runS (As := [.int n1, .int n2]) (rest := [.ref m0]) ⟨hx, hb, hml, hown, htg⟩ (c_X11_isCell l hfl g n1 n2  H.size) ⟨(qB htg k1398 k57 k1396 ok_X11_isCell rfl rfl ⟨Nat.le_of_ble_eq_true rfl, Nat.le_of_ble_eq_true rfl⟩), htg _ k1397⟩ (q_pre [.int n1, .int n2] hPc hDc hK hS hT hFc) rfl rfl hl.1 rfl (lv_room (Nat.le_of_ble_eq_true rfl)) dX11_setGround_3 ⟨Nat.le_of_ble_eq_true rfl, Nat.le_of_ble_eq_true rfl⟩) hP hD hS hFc [] [0, 1, 2, 3] rfl rfl (by decide) (by decide) (fun r9 u9 H locs hw hP hD hS => ?_)
  try dsimp only at hw
  rcases hw with ⟨c_1, rfl, rfl⟩ | ⟨c_2, rfl, rfl⟩
  · have hP : va_P g.1 CLS [(m0, .inr (11, [.ref mh, .ref mg, .ref ms, .ref md, .ref mc, .ref mr, .int (-1), .int 0, .int 0, .int 0, .long 0, .int 0, .int 0, .int 0])), (mh, .inr (1, [.int 0, .ref (g.2.2 1), .int 0])), (mc, .inr (1, [.int 0, .ref (g.2.2 1), .int 0])), (mg, .inl (g.2.1 0, 64, .inl fm))] H := hP
    have hD : va_D A [(m0, .inr (11, [.ref mh, .ref mg, .ref ms, .ref md, .ref mc, .ref mr, .int (-1), .int 0, .int 0, .int 0, .long 0, .int 0, .int 0, .int 0])), (mh, .inr (1, [.int 0, .ref (g.2.2 1), .int 0])), (mc, .inr (1, [.int 0, .ref (g.2.2 1), .int 0])), (mg, .inl (g.2.1 0, 64, .inl fm))] := hD
    refine W.widen (k := 0) (n := 0) (Nat.le_of_ble_eq_true rfl) (Nat.le_of_ble_eq_true rfl) ?_
    refine lv_if_eq (tgt := 18) hx hb dX11_setGround_6 (by decide) (fun c_3 => absurd c_3 (by decide)) (fun c_3 => ?_)
    refine va_ldcS hx hb hown (hT.2.1 _ (List.mem_of_getElem? (i := 2) rfl)) dX11_setGround_9 ?_
    refine lv_iload_n hx hb dX11_setGround_11 rfl (lv_at hl 3 rfl) ?_
    have hPc := hP.sub (ws' := []) [] rfl
    have hDc := hD.sub (ws' := []) [] (by decide) rfl
    have hFc := va_free (wc := []) hD hS hA [] rfl
    refine q_ci (wr := [(m0, .inr (11, [.ref mh, .ref mg, .ref ms, .ref md, .ref mc, .ref mr, .int (-1), .int 0, .int 0, .int 0, .long 0, .int 0, .int 0, .int 0])), (mh, .inr (1, [.int 0, .ref (g.2.2 1), .int 0])), (mc, .inr (1, [.int 0, .ref (g.2.2 1), .int 0])), (mg, .inl (g.2.1 0, 64, .inl fm))]) (va_runV (As := [.int n3]) (rest := [.ref m0]) ⟨hx, hb, hml, hown, htg⟩ (c_J0_indexOf_2 l hfl g n3  H.size) ⟨(qB htg k428 k77 k1632 ok_J0_indexOf_0f7a4 rfl rfl ⟨Nat.le_of_ble_eq_true rfl, Nat.le_of_ble_eq_true rfl⟩), htg _ k426, htg _ k427⟩ ⟨(q_pre [.ref (g.2.2 12), .int n3] hPc hDc hK hS hT hFc).1, q_recvS hT hS (i := 2) (by decide), (q_pre [.ref (g.2.2 12), .int n3] hPc hDc hK hS hT hFc).2⟩ rfl rfl hl.1 rfl (lv_room (Nat.le_of_ble_eq_true rfl)) dX11_setGround_12 ⟨Nat.le_of_ble_eq_true rfl, Nat.le_of_ble_eq_true rfl⟩) hP hD hS hFc [] [0, 1, 2, 3] rfl rfl (by decide) (by decide) (fun r9 u9 H locs hw hP hD hS => ?_)
    try dsimp only at hw
    rcases hw with ⟨c_4, rfl, rfl⟩ | ⟨c_5, rfl, rfl⟩
    · have hP : va_P g.1 CLS [(m0, .inr (11, [.ref mh, .ref mg, .ref ms, .ref md, .ref mc, .ref mr, .int (-1), .int 0, .int 0, .int 0, .long 0, .int 0, .int 0, .int 0])), (mh, .inr (1, [.int 0, .ref (g.2.2 1), .int 0])), (mc, .inr (1, [.int 0, .ref (g.2.2 1), .int 0])), (mg, .inl (g.2.1 0, 64, .inl fm))] H := hP
      have hD : va_D A [(m0, .inr (11, [.ref mh, .ref mg, .ref ms, .ref md, .ref mc, .ref mr, .int (-1), .int 0, .int 0, .int 0, .long 0, .int 0, .int 0, .int 0])), (mh, .inr (1, [.int 0, .ref (g.2.2 1), .int 0])), (mc, .inr (1, [.int 0, .ref (g.2.2 1), .int 0])), (mg, .inl (g.2.1 0, 64, .inl fm))] := hD
      refine W.widen (k := 0) (n := 0) (Nat.le_of_ble_eq_true rfl) (Nat.le_of_ble_eq_true rfl) ?_
      refine lv_if_ge (tgt := 22) hx hb dX11_setGround_15 (by decide) (fun c_6 => ?_) (fun c_6 => ?_)
      · refine lv_iload_n hx hb dX11_setGround_22 rfl (lv_at hl 3 rfl) ?_
        refine lv_bipush (v := 35) hx hb dX11_setGround_23 (by decide) ?_
        refine lv_icmp_ne (tgt := 41) hx hb dX11_setGround_25 (by decide) (fun c_7 => ?_) (fun c_7 => ?_)
        · refine lv_iconst (v := 0) hx hb dX11_setGround_41 (by decide) ?_
          refine va_put (D := g.1) (ci := 11) (v := .int 0) (ty := .int) (C := RX11) (T := TX11) (N := 14) hx hb htg inG_X11 tyX11 tyX11_ok nmX11 hown hK hP hD hS 0 rfl rfl 13 (by decide) (htg _ k1353) (fun _ h9 => h9) rfl (by decide +kernel) rfl rfl (Nat.le_of_ble_eq_true rfl) dX11_setGround_42 (fun H locs hP hD hS => ?_)
          have hP : va_P g.1 CLS [(m0, .inr (11, [.ref mh, .ref mg, .ref ms, .ref md, .ref mc, .ref mr, .int (-1), .int 0, .int 0, .int 0, .long 0, .int 0, .int 0, .int 0])), (mh, .inr (1, [.int 0, .ref (g.2.2 1), .int 0])), (mc, .inr (1, [.int 0, .ref (g.2.2 1), .int 0])), (mg, .inl (g.2.1 0, 64, .inl fm))] H := hP
          have hD : va_D A [(m0, .inr (11, [.ref mh, .ref mg, .ref ms, .ref md, .ref mc, .ref mr, .int (-1), .int 0, .int 0, .int 0, .long 0, .int 0, .int 0, .int 0])), (mh, .inr (1, [.int 0, .ref (g.2.2 1), .int 0])), (mc, .inr (1, [.int 0, .ref (g.2.2 1), .int 0])), (mg, .inl (g.2.1 0, 64, .inl fm))] := hD
          refine lv_aload_n hx hb dX11_setGround_45 rfl (lv_at hl 0 rfl) ?_
          refine va_get (D := g.1) (ci := 11) (v := .int 0) (C := RX11) (T := TX11) (N := 14) hx hb htg inG_X11 hown hK hP 0 rfl rfl 13 (by decide) (htg _ k1353) (fun _ h9 => h9) rfl dX11_setGround_46 ?_
          refine lv_if_le (tgt := 55) hx hb dX11_setGround_49 (by decide) (fun c_8 => ?_) (fun c_8 => absurd (by decide) c_8)
          refine lv_aload_n hx hb dX11_setGround_55 rfl (lv_at hl 0 rfl) ?_
          refine lv_bipush (v := 71) hx hb dX11_setGround_56 (by decide) ?_
          refine lv_iconst (v := 3) hx hb dX11_setGround_58 (by decide) ?_
          refine va_newa (atype := .int) (ty := .int) (a0 := (3, .inl (fun _ => 0))) (N' := 3) hx hb (htg _ k156) rfl hK hP hD hS hA (fun _ => rfl) (by decide) (by decide) (by decide) (Nat.le_of_ble_eq_true rfl) (Nat.le_of_ble_eq_true rfl) dX11_setGround_59 (fun q_9 cA H hK9 hP hD hS => ?_)
          obtain rfl := q_arr hK9 (t0 := 1) rfl (by decide)
          clear hK9
          have hP : va_P g.1 CLS [(m0, .inr (11, [.ref mh, .ref mg, .ref ms, .ref md, .ref mc, .ref mr, .int (-1), .int 0, .int 0, .int 0, .long 0, .int 0, .int 0, .int 0])), (mh, .inr (1, [.int 0, .ref (g.2.2 1), .int 0])), (mc, .inr (1, [.int 0, .ref (g.2.2 1), .int 0])), (mg, .inl (g.2.1 0, 64, .inl fm)), (q_9, .inl (g.2.1 1, 3, .inl (fun _ => 0)))] H := hP
          have hD : va_D A [(m0, .inr (11, [.ref mh, .ref mg, .ref ms, .ref md, .ref mc, .ref mr, .int (-1), .int 0, .int 0, .int 0, .long 0, .int 0, .int 0, .int 0])), (mh, .inr (1, [.int 0, .ref (g.2.2 1), .int 0])), (mc, .inr (1, [.int 0, .ref (g.2.2 1), .int 0])), (mg, .inl (g.2.1 0, 64, .inl fm)), (q_9, .inl (g.2.1 1, 3, .inl (fun _ => 0)))] := hD
          refine W.widen (k := 1) (n := 3) (Nat.le_of_ble_eq_true rfl) (Nat.le_of_ble_eq_true rfl) ?_
          refine lv_dup hx hb dX11_setGround_61 rfl ?_
          refine lv_iconst (v := 0) hx hb dX11_setGround_62 (by decide) ?_
          refine lv_iload_n hx hb dX11_setGround_63 rfl (lv_at hl 1 rfl) ?_
          refine va_iast hx hb hK hP hD hS 4 1 rfl rfl (i := 0) (vp_in_iff.mpr (by decide)) dX11_setGround_64 (fun H locs hP hD hS => ?_)
          have hP : va_P g.1 CLS [(m0, .inr (11, [.ref mh, .ref mg, .ref ms, .ref md, .ref mc, .ref mr, .int (-1), .int 0, .int 0, .int 0, .long 0, .int 0, .int 0, .int 0])), (mh, .inr (1, [.int 0, .ref (g.2.2 1), .int 0])), (mc, .inr (1, [.int 0, .ref (g.2.2 1), .int 0])), (mg, .inl (g.2.1 0, 64, .inl fm)), (q_9, .inl (g.2.1 1, 3, .inl (upd (fun _ => 0) 0 n1)))] H := hP
          have hD : va_D A [(m0, .inr (11, [.ref mh, .ref mg, .ref ms, .ref md, .ref mc, .ref mr, .int (-1), .int 0, .int 0, .int 0, .long 0, .int 0, .int 0, .int 0])), (mh, .inr (1, [.int 0, .ref (g.2.2 1), .int 0])), (mc, .inr (1, [.int 0, .ref (g.2.2 1), .int 0])), (mg, .inl (g.2.1 0, 64, .inl fm)), (q_9, .inl (g.2.1 1, 3, .inl (upd (fun _ => 0) 0 n1)))] := hD
          refine lv_dup hx hb dX11_setGround_65 rfl ?_
          refine lv_iconst (v := 1) hx hb dX11_setGround_66 (by decide) ?_
          refine lv_iload_n hx hb dX11_setGround_67 rfl (lv_at hl 2 rfl) ?_
          refine va_iast hx hb hK hP hD hS 4 1 rfl rfl (i := 1) (vp_in_iff.mpr (by decide)) dX11_setGround_68 (fun H locs hP hD hS => ?_)
          have hP : va_P g.1 CLS [(m0, .inr (11, [.ref mh, .ref mg, .ref ms, .ref md, .ref mc, .ref mr, .int (-1), .int 0, .int 0, .int 0, .long 0, .int 0, .int 0, .int 0])), (mh, .inr (1, [.int 0, .ref (g.2.2 1), .int 0])), (mc, .inr (1, [.int 0, .ref (g.2.2 1), .int 0])), (mg, .inl (g.2.1 0, 64, .inl fm)), (q_9, .inl (g.2.1 1, 3, .inl (upd (upd (fun _ => 0) 0 n1) 1 n2)))] H := hP
          have hD : va_D A [(m0, .inr (11, [.ref mh, .ref mg, .ref ms, .ref md, .ref mc, .ref mr, .int (-1), .int 0, .int 0, .int 0, .long 0, .int 0, .int 0, .int 0])), (mh, .inr (1, [.int 0, .ref (g.2.2 1), .int 0])), (mc, .inr (1, [.int 0, .ref (g.2.2 1), .int 0])), (mg, .inl (g.2.1 0, 64, .inl fm)), (q_9, .inl (g.2.1 1, 3, .inl (upd (upd (fun _ => 0) 0 n1) 1 n2)))] := hD
          refine lv_dup hx hb dX11_setGround_69 rfl ?_
          refine lv_iconst (v := 2) hx hb dX11_setGround_70 (by decide) ?_
          refine lv_iload_n hx hb dX11_setGround_71 rfl (lv_at hl 3 rfl) ?_
          refine va_iast hx hb hK hP hD hS 4 1 rfl rfl (i := 2) (vp_in_iff.mpr (by decide)) dX11_setGround_72 (fun H locs hP hD hS => ?_)
          have hP : va_P g.1 CLS [(m0, .inr (11, [.ref mh, .ref mg, .ref ms, .ref md, .ref mc, .ref mr, .int (-1), .int 0, .int 0, .int 0, .long 0, .int 0, .int 0, .int 0])), (mh, .inr (1, [.int 0, .ref (g.2.2 1), .int 0])), (mc, .inr (1, [.int 0, .ref (g.2.2 1), .int 0])), (mg, .inl (g.2.1 0, 64, .inl fm)), (q_9, .inl (g.2.1 1, 3, .inl (upd (upd (upd (fun _ => 0) 0 n1) 1 n2) 2 n3)))] H := hP
          have hD : va_D A [(m0, .inr (11, [.ref mh, .ref mg, .ref ms, .ref md, .ref mc, .ref mr, .int (-1), .int 0, .int 0, .int 0, .long 0, .int 0, .int 0, .int 0])), (mh, .inr (1, [.int 0, .ref (g.2.2 1), .int 0])), (mc, .inr (1, [.int 0, .ref (g.2.2 1), .int 0])), (mg, .inl (g.2.1 0, 64, .inl fm)), (q_9, .inl (g.2.1 1, 3, .inl (upd (upd (upd (fun _ => 0) 0 n1) 1 n2) 2 n3)))] := hD
          have hPc := hP.sub (ws' := [(m0, .inr (11, [.ref mh, .ref mg, .ref ms, .ref md, .ref mc, .ref mr, .int (-1), .int 0, .int 0, .int 0, .long 0, .int 0, .int 0, .int 0])), (mc, .inr (1, [.int 0, .ref (g.2.2 1), .int 0]))]) [0, 2] rfl
          have hDc := hD.sub (ws' := [(m0, .inr (11, [.ref mh, .ref mg, .ref ms, .ref md, .ref mc, .ref mr, .int (-1), .int 0, .int 0, .int 0, .long 0, .int 0, .int 0, .int 0])), (mc, .inr (1, [.int 0, .ref (g.2.2 1), .int 0]))]) [0, 2] (by decide) rfl
          have hFc := va_free (wc := [(m0, .inr (11, [.ref mh, .ref mg, .ref ms, .ref md, .ref mc, .ref mr, .int (-1), .int 0, .int 0, .int 0, .long 0, .int 0, .int 0, .int 0])), (mc, .inr (1, [.int 0, .ref (g.2.2 1), .int 0]))]) hD hS hA [0, 2] rfl
          refine q_cv (wr := [(mh, .inr (1, [.int 0, .ref (g.2.2 1), .int 0])), (mg, .inl (g.2.1 0, 64, .inl fm)), (q_9, .inl (g.2.1 1, 3, .inl (upd (upd (upd (fun _ => 0) 0 n1) 1 n2) 2 n3)))]) (va_runV (As := [.int 71, .ref q_9]) (rest := []) ⟨hx, hb, hml, hown, htg⟩ (c_X11_keep l hfl g m0 mh mg ms md mc mr 71 q_9 (rfl) (rfl) H.size) ⟨(qB htg k1484 k57 k1481 ok_X11_keep rfl rfl ⟨Nat.le_of_ble_eq_true rfl, Nat.le_of_ble_eq_true rfl⟩), htg _ k1483, htg _ k19⟩ ⟨(q_pre [.ref m0, .int 71, .ref q_9] hPc hDc hK hS hT hFc).1, va_recv hK hP (ci := 11) (q0 := 0) rfl rfl, (q_pre [.ref m0, .int 71, .ref q_9] hPc hDc hK hS hT hFc).2⟩ rfl rfl hl.1 rfl (lv_room (Nat.le_of_ble_eq_true rfl)) dX11_setGround_73 ⟨Nat.le_of_ble_eq_true rfl, Nat.le_of_ble_eq_true rfl⟩) hP hD hS hFc [0, 2] [1, 3, 4] rfl rfl (by decide) (by decide) (fun u9 H locs hw hP hD hS => ?_)
          try dsimp only at hw
          rcases hw with rfl
          have hP : va_P g.1 CLS [(mh, .inr (1, [.int 0, .ref (g.2.2 1), .int 0])), (mg, .inl (g.2.1 0, 64, .inl fm)), (q_9, .inl (g.2.1 1, 3, .inl (upd (upd (upd (fun _ => 0) 0 n1) 1 n2) 2 n3))), (m0, .inr (11, [.ref mh, .ref mg, .ref ms, .ref md, .ref mc, .ref mr, .int (-1), .int 0, .int 0, .int 0, .long 0, .int 0, .int 0, .int 0]))] H := hP
          have hD : va_D A [(mh, .inr (1, [.int 0, .ref (g.2.2 1), .int 0])), (mg, .inl (g.2.1 0, 64, .inl fm)), (q_9, .inl (g.2.1 1, 3, .inl (upd (upd (upd (fun _ => 0) 0 n1) 1 n2) 2 n3))), (m0, .inr (11, [.ref mh, .ref mg, .ref ms, .ref md, .ref mc, .ref mr, .int (-1), .int 0, .int 0, .int 0, .long 0, .int 0, .int 0, .int 0]))] := hD
          refine W.widen (k := 4) (n := 19) (Nat.le_of_ble_eq_true rfl) (Nat.le_of_ble_eq_true rfl) ?_
          refine lv_aload_n hx hb dX11_setGround_76 rfl (lv_at hl 0 rfl) ?_
          refine va_get (D := g.1) (ci := 11) (v := .ref mg) (C := RX11) (T := TX11) (N := 14) hx hb htg inG_X11 hown hK hP 3 rfl rfl 1 (by decide) (htg _ k1341) (fun _ h9 => h9) rfl dX11_setGround_77 ?_
          refine lv_bipush (v := 8) hx hb dX11_setGround_80 (by decide) ?_
          refine lv_iload_n hx hb dX11_setGround_82 rfl (lv_at hl 2 rfl) ?_
          refine lv_imul hx hb dX11_setGround_83 ?_
          refine lv_topi (fun x_10 ex_10 => ?_)
          refine lv_iload_n hx hb dX11_setGround_84 rfl (lv_at hl 1 rfl) ?_
          refine lv_iadd hx hb dX11_setGround_85 ?_
          refine lv_topi (fun x_11 ex_11 => ?_)
          refine va_cald hx hb hK hP 1 0 rfl rfl (i := x_11) (cellIn c_1 ex_10 ex_11) dX11_setGround_86 ?_
          refine lv_topi (fun x_12 ex_12 => ?_)
          obtain rfl : x_12 = 46 := ex_12.trans (cellAt hfm c_1 ex_10 ex_11)
          refine lv_istore (lv' := [(4, .int 46), (0, .ref m0), (1, .int n1), (2, .int n2), (3, .int n3)]) hx hb dX11_setGround_87 hl (by decide) rfl (fun ls hl => ?_)
          refine lv_aload_n hx hb dX11_setGround_89 rfl (lv_at hl 1 rfl) ?_
          refine va_get (D := g.1) (ci := 11) (v := .ref mg) (C := RX11) (T := TX11) (N := 14) hx hb htg inG_X11 hown hK hP 3 rfl rfl 1 (by decide) (htg _ k1341) (fun _ h9 => h9) rfl dX11_setGround_90 ?_
          refine lv_bipush (v := 8) hx hb dX11_setGround_93 (by decide) ?_
          refine lv_iload_n hx hb dX11_setGround_95 rfl (lv_at hl 3 rfl) ?_
          refine lv_imul hx hb dX11_setGround_96 ?_
          refine lv_topi (fun x_13 ex_13 => ?_)
          refine lv_iload_n hx hb dX11_setGround_97 rfl (lv_at hl 2 rfl) ?_
          refine lv_iadd hx hb dX11_setGround_98 ?_
          refine lv_topi (fun x_14 ex_14 => ?_)
          refine lv_iload_n hx hb dX11_setGround_99 rfl (lv_at hl 4 rfl) ?_
          refine va_cast hx hb hK hP hD hS 1 0 rfl rfl (i := x_14) (cellIn c_1 ex_13 ex_14) dX11_setGround_100 (fun H locs hP hD hS => ?_)
          have hP : va_P g.1 CLS [(mh, .inr (1, [.int 0, .ref (g.2.2 1), .int 0])), (mg, .inl (g.2.1 0, 64, .inl (upd fm x_14.toNatClampNeg (vp_nar .char n3)))), (q_9, .inl (g.2.1 1, 3, .inl (upd (upd (upd (fun _ => 0) 0 n1) 1 n2) 2 n3))), (m0, .inr (11, [.ref mh, .ref mg, .ref ms, .ref md, .ref mc, .ref mr, .int (-1), .int 0, .int 0, .int 0, .long 0, .int 0, .int 0, .int 0]))] H := hP
          have hD : va_D A [(mh, .inr (1, [.int 0, .ref (g.2.2 1), .int 0])), (mg, .inl (g.2.1 0, 64, .inl (upd fm x_14.toNatClampNeg (vp_nar .char n3)))), (q_9, .inl (g.2.1 1, 3, .inl (upd (upd (upd (fun _ => 0) 0 n1) 1 n2) 2 n3))), (m0, .inr (11, [.ref mh, .ref mg, .ref ms, .ref md, .ref mc, .ref mr, .int (-1), .int 0, .int 0, .int 0, .long 0, .int 0, .int 0, .int 0]))] := hD
          refine lv_iload hx hb dX11_setGround_101 (lv_at hl 0 rfl) ?_
          have hP9 := hP.sub (ws' := [(m0, .inr (11, [.ref mh, .ref mg, .ref ms, .ref md, .ref mc, .ref mr, .int (-1), .int 0, .int 0, .int 0, .long 0, .int 0, .int 0, .int 0]))]) [3] rfl
          have hD9 := hD.sub (ws' := [(m0, .inr (11, [.ref mh, .ref mg, .ref ms, .ref md, .ref mc, .ref mr, .int (-1), .int 0, .int 0, .int 0, .long 0, .int 0, .int 0, .int 0]))]) [3] (by decide) rfl
          refine W.widen (k := 20) (n := 100) (Nat.le_of_ble_eq_true rfl) (Nat.le_of_ble_eq_true rfl) ?_
          exact W.zret (v := 46) hx hb hr rfl (fun t ht hW => ⟨⟨46, [(m0, .inr (11, [.ref mh, .ref mg, .ref ms, .ref md, .ref mc, .ref mr, .int (-1), .int 0, .int 0, .int 0, .long 0, .int 0, .int 0, .int 0]))], rfl, Or.inl ⟨⟨c_1, c_4, by simp only [fa_lt, fa_le, fa_eq, li0, li1, li5, li7, li8, li9, li20, li30, li40, li50, li97, li99, li103, li109, li115, li120, li255, lin1, lin20] at c_6 c_7 ⊢; omega⟩, rfl, rfl⟩, by rw [ht]; exact hP9, va_K.moved hW.alike hK, hD9⟩, hS.F ht⟩) hS.2.2 dX11_setGround_103
        · refine lv_aload_n hx hb dX11_setGround_28 rfl (lv_at hl 0 rfl) ?_
          refine lv_iload_n hx hb dX11_setGround_29 rfl (lv_at hl 1 rfl) ?_
          refine lv_iload_n hx hb dX11_setGround_30 rfl (lv_at hl 2 rfl) ?_
          have hPc := hP.sub (ws' := [(m0, .inr (11, [.ref mh, .ref mg, .ref ms, .ref md, .ref mc, .ref mr, .int (-1), .int 0, .int 0, .int 0, .long 0, .int 0, .int 0, .int 0])), (mh, .inr (1, [.int 0, .ref (g.2.2 1), .int 0]))]) [0, 1] rfl
          have hDc := hD.sub (ws' := [(m0, .inr (11, [.ref mh, .ref mg, .ref ms, .ref md, .ref mc, .ref mr, .int (-1), .int 0, .int 0, .int 0, .long 0, .int 0, .int 0, .int 0])), (mh, .inr (1, [.int 0, .ref (g.2.2 1), .int 0]))]) [0, 1] (by decide) rfl
          have hFc := va_free (wc := [(m0, .inr (11, [.ref mh, .ref mg, .ref ms, .ref md, .ref mc, .ref mr, .int (-1), .int 0, .int 0, .int 0, .long 0, .int 0, .int 0, .int 0])), (mh, .inr (1, [.int 0, .ref (g.2.2 1), .int 0]))]) hD hS hA [0, 1] rfl
          refine q_cq (wr := [(mc, .inr (1, [.int 0, .ref (g.2.2 1), .int 0])), (mg, .inl (g.2.1 0, 64, .inl fm))]) (va_runV (As := [.int n1, .int n2]) (rest := [.ref m0]) ⟨hx, hb, hml, hown, htg⟩ (c_X11_heroIn l hfl g m0 mh mg ms md mc mr n1 n2  H.size) ⟨(qB htg k1417 k57 k1414 ok_X11_heroIn rfl rfl ⟨Nat.le_of_ble_eq_true rfl, Nat.le_of_ble_eq_true rfl⟩), htg _ k1416, htg _ k18⟩ ⟨(q_pre [.ref m0, .int n1, .int n2] hPc hDc hK hS hT hFc).1, va_recv hK hP (ci := 11) (q0 := 0) rfl rfl, (q_pre [.ref m0, .int n1, .int n2] hPc hDc hK hS hT hFc).2⟩ rfl rfl hl.1 rfl (lv_room (Nat.le_of_ble_eq_true rfl)) dX11_setGround_31 ⟨Nat.le_of_ble_eq_true rfl, Nat.le_of_ble_eq_true rfl⟩) hP hD hS hFc [0, 1] [2, 3] rfl rfl (by decide) (by decide) (fun r9 u9 H locs hw hP hD hS => ?_)
          try dsimp only at hw
          rcases hw with ⟨rfl, rfl⟩
          have hP : va_P g.1 CLS [(mc, .inr (1, [.int 0, .ref (g.2.2 1), .int 0])), (mg, .inl (g.2.1 0, 64, .inl fm)), (m0, .inr (11, [.ref mh, .ref mg, .ref ms, .ref md, .ref mc, .ref mr, .int (-1), .int 0, .int 0, .int 0, .long 0, .int 0, .int 0, .int 0])), (mh, .inr (1, [.int 0, .ref (g.2.2 1), .int 0]))] H := hP
          have hD : va_D A [(mc, .inr (1, [.int 0, .ref (g.2.2 1), .int 0])), (mg, .inl (g.2.1 0, 64, .inl fm)), (m0, .inr (11, [.ref mh, .ref mg, .ref ms, .ref md, .ref mc, .ref mr, .int (-1), .int 0, .int 0, .int 0, .long 0, .int 0, .int 0, .int 0])), (mh, .inr (1, [.int 0, .ref (g.2.2 1), .int 0]))] := hD
          refine W.widen (k := 1) (n := 4) (Nat.le_of_ble_eq_true rfl) (Nat.le_of_ble_eq_true rfl) ?_
          refine lv_ifnullN (tgt := 41) hx hb dX11_setGround_34 (by decide) ?_
          refine lv_iconst (v := 0) hx hb dX11_setGround_41 (by decide) ?_
          refine va_put (D := g.1) (ci := 11) (v := .int 0) (ty := .int) (C := RX11) (T := TX11) (N := 14) hx hb htg inG_X11 tyX11 tyX11_ok nmX11 hown hK hP hD hS 2 rfl rfl 13 (by decide) (htg _ k1353) (fun _ h9 => h9) rfl (by decide +kernel) rfl rfl (Nat.le_of_ble_eq_true rfl) dX11_setGround_42 (fun H locs hP hD hS => ?_)
          have hP : va_P g.1 CLS [(mc, .inr (1, [.int 0, .ref (g.2.2 1), .int 0])), (mg, .inl (g.2.1 0, 64, .inl fm)), (m0, .inr (11, [.ref mh, .ref mg, .ref ms, .ref md, .ref mc, .ref mr, .int (-1), .int 0, .int 0, .int 0, .long 0, .int 0, .int 0, .int 0])), (mh, .inr (1, [.int 0, .ref (g.2.2 1), .int 0]))] H := hP
          have hD : va_D A [(mc, .inr (1, [.int 0, .ref (g.2.2 1), .int 0])), (mg, .inl (g.2.1 0, 64, .inl fm)), (m0, .inr (11, [.ref mh, .ref mg, .ref ms, .ref md, .ref mc, .ref mr, .int (-1), .int 0, .int 0, .int 0, .long 0, .int 0, .int 0, .int 0])), (mh, .inr (1, [.int 0, .ref (g.2.2 1), .int 0]))] := hD
          refine lv_aload_n hx hb dX11_setGround_45 rfl (lv_at hl 0 rfl) ?_
          refine va_get (D := g.1) (ci := 11) (v := .int 0) (C := RX11) (T := TX11) (N := 14) hx hb htg inG_X11 hown hK hP 2 rfl rfl 13 (by decide) (htg _ k1353) (fun _ h9 => h9) rfl dX11_setGround_46 ?_
          refine lv_if_le (tgt := 55) hx hb dX11_setGround_49 (by decide) (fun c_15 => ?_) (fun c_15 => absurd (by decide) c_15)
          refine lv_aload_n hx hb dX11_setGround_55 rfl (lv_at hl 0 rfl) ?_
          refine lv_bipush (v := 71) hx hb dX11_setGround_56 (by decide) ?_
          refine lv_iconst (v := 3) hx hb dX11_setGround_58 (by decide) ?_
          refine va_newa (atype := .int) (ty := .int) (a0 := (3, .inl (fun _ => 0))) (N' := 3) hx hb (htg _ k156) rfl hK hP hD hS hA (fun _ => rfl) (by decide) (by decide) (by decide) (Nat.le_of_ble_eq_true rfl) (Nat.le_of_ble_eq_true rfl) dX11_setGround_59 (fun q_16 cA H hK9 hP hD hS => ?_)
          obtain rfl := q_arr hK9 (t0 := 1) rfl (by decide)
          clear hK9
          have hP : va_P g.1 CLS [(mc, .inr (1, [.int 0, .ref (g.2.2 1), .int 0])), (mg, .inl (g.2.1 0, 64, .inl fm)), (m0, .inr (11, [.ref mh, .ref mg, .ref ms, .ref md, .ref mc, .ref mr, .int (-1), .int 0, .int 0, .int 0, .long 0, .int 0, .int 0, .int 0])), (mh, .inr (1, [.int 0, .ref (g.2.2 1), .int 0])), (q_16, .inl (g.2.1 1, 3, .inl (fun _ => 0)))] H := hP
          have hD : va_D A [(mc, .inr (1, [.int 0, .ref (g.2.2 1), .int 0])), (mg, .inl (g.2.1 0, 64, .inl fm)), (m0, .inr (11, [.ref mh, .ref mg, .ref ms, .ref md, .ref mc, .ref mr, .int (-1), .int 0, .int 0, .int 0, .long 0, .int 0, .int 0, .int 0])), (mh, .inr (1, [.int 0, .ref (g.2.2 1), .int 0])), (q_16, .inl (g.2.1 1, 3, .inl (fun _ => 0)))] := hD
          refine W.widen (k := 2) (n := 7) (Nat.le_of_ble_eq_true rfl) (Nat.le_of_ble_eq_true rfl) ?_
          refine lv_dup hx hb dX11_setGround_61 rfl ?_
          refine lv_iconst (v := 0) hx hb dX11_setGround_62 (by decide) ?_
          refine lv_iload_n hx hb dX11_setGround_63 rfl (lv_at hl 1 rfl) ?_
          refine va_iast hx hb hK hP hD hS 4 1 rfl rfl (i := 0) (vp_in_iff.mpr (by decide)) dX11_setGround_64 (fun H locs hP hD hS => ?_)
          have hP : va_P g.1 CLS [(mc, .inr (1, [.int 0, .ref (g.2.2 1), .int 0])), (mg, .inl (g.2.1 0, 64, .inl fm)), (m0, .inr (11, [.ref mh, .ref mg, .ref ms, .ref md, .ref mc, .ref mr, .int (-1), .int 0, .int 0, .int 0, .long 0, .int 0, .int 0, .int 0])), (mh, .inr (1, [.int 0, .ref (g.2.2 1), .int 0])), (q_16, .inl (g.2.1 1, 3, .inl (upd (fun _ => 0) 0 n1)))] H := hP
          have hD : va_D A [(mc, .inr (1, [.int 0, .ref (g.2.2 1), .int 0])), (mg, .inl (g.2.1 0, 64, .inl fm)), (m0, .inr (11, [.ref mh, .ref mg, .ref ms, .ref md, .ref mc, .ref mr, .int (-1), .int 0, .int 0, .int 0, .long 0, .int 0, .int 0, .int 0])), (mh, .inr (1, [.int 0, .ref (g.2.2 1), .int 0])), (q_16, .inl (g.2.1 1, 3, .inl (upd (fun _ => 0) 0 n1)))] := hD
          refine lv_dup hx hb dX11_setGround_65 rfl ?_
          refine lv_iconst (v := 1) hx hb dX11_setGround_66 (by decide) ?_
          refine lv_iload_n hx hb dX11_setGround_67 rfl (lv_at hl 2 rfl) ?_
          refine va_iast hx hb hK hP hD hS 4 1 rfl rfl (i := 1) (vp_in_iff.mpr (by decide)) dX11_setGround_68 (fun H locs hP hD hS => ?_)
          have hP : va_P g.1 CLS [(mc, .inr (1, [.int 0, .ref (g.2.2 1), .int 0])), (mg, .inl (g.2.1 0, 64, .inl fm)), (m0, .inr (11, [.ref mh, .ref mg, .ref ms, .ref md, .ref mc, .ref mr, .int (-1), .int 0, .int 0, .int 0, .long 0, .int 0, .int 0, .int 0])), (mh, .inr (1, [.int 0, .ref (g.2.2 1), .int 0])), (q_16, .inl (g.2.1 1, 3, .inl (upd (upd (fun _ => 0) 0 n1) 1 n2)))] H := hP
          have hD : va_D A [(mc, .inr (1, [.int 0, .ref (g.2.2 1), .int 0])), (mg, .inl (g.2.1 0, 64, .inl fm)), (m0, .inr (11, [.ref mh, .ref mg, .ref ms, .ref md, .ref mc, .ref mr, .int (-1), .int 0, .int 0, .int 0, .long 0, .int 0, .int 0, .int 0])), (mh, .inr (1, [.int 0, .ref (g.2.2 1), .int 0])), (q_16, .inl (g.2.1 1, 3, .inl (upd (upd (fun _ => 0) 0 n1) 1 n2)))] := hD
          refine lv_dup hx hb dX11_setGround_69 rfl ?_
          refine lv_iconst (v := 2) hx hb dX11_setGround_70 (by decide) ?_
          refine lv_iload_n hx hb dX11_setGround_71 rfl (lv_at hl 3 rfl) ?_
          refine va_iast hx hb hK hP hD hS 4 1 rfl rfl (i := 2) (vp_in_iff.mpr (by decide)) dX11_setGround_72 (fun H locs hP hD hS => ?_)
          have hP : va_P g.1 CLS [(mc, .inr (1, [.int 0, .ref (g.2.2 1), .int 0])), (mg, .inl (g.2.1 0, 64, .inl fm)), (m0, .inr (11, [.ref mh, .ref mg, .ref ms, .ref md, .ref mc, .ref mr, .int (-1), .int 0, .int 0, .int 0, .long 0, .int 0, .int 0, .int 0])), (mh, .inr (1, [.int 0, .ref (g.2.2 1), .int 0])), (q_16, .inl (g.2.1 1, 3, .inl (upd (upd (upd (fun _ => 0) 0 n1) 1 n2) 2 n3)))] H := hP
          have hD : va_D A [(mc, .inr (1, [.int 0, .ref (g.2.2 1), .int 0])), (mg, .inl (g.2.1 0, 64, .inl fm)), (m0, .inr (11, [.ref mh, .ref mg, .ref ms, .ref md, .ref mc, .ref mr, .int (-1), .int 0, .int 0, .int 0, .long 0, .int 0, .int 0, .int 0])), (mh, .inr (1, [.int 0, .ref (g.2.2 1), .int 0])), (q_16, .inl (g.2.1 1, 3, .inl (upd (upd (upd (fun _ => 0) 0 n1) 1 n2) 2 n3)))] := hD
          have hPc := hP.sub (ws' := [(m0, .inr (11, [.ref mh, .ref mg, .ref ms, .ref md, .ref mc, .ref mr, .int (-1), .int 0, .int 0, .int 0, .long 0, .int 0, .int 0, .int 0])), (mc, .inr (1, [.int 0, .ref (g.2.2 1), .int 0]))]) [2, 0] rfl
          have hDc := hD.sub (ws' := [(m0, .inr (11, [.ref mh, .ref mg, .ref ms, .ref md, .ref mc, .ref mr, .int (-1), .int 0, .int 0, .int 0, .long 0, .int 0, .int 0, .int 0])), (mc, .inr (1, [.int 0, .ref (g.2.2 1), .int 0]))]) [2, 0] (by decide) rfl
          have hFc := va_free (wc := [(m0, .inr (11, [.ref mh, .ref mg, .ref ms, .ref md, .ref mc, .ref mr, .int (-1), .int 0, .int 0, .int 0, .long 0, .int 0, .int 0, .int 0])), (mc, .inr (1, [.int 0, .ref (g.2.2 1), .int 0]))]) hD hS hA [2, 0] rfl
          refine q_cv (wr := [(mg, .inl (g.2.1 0, 64, .inl fm)), (mh, .inr (1, [.int 0, .ref (g.2.2 1), .int 0])), (q_16, .inl (g.2.1 1, 3, .inl (upd (upd (upd (fun _ => 0) 0 n1) 1 n2) 2 n3)))]) (va_runV (As := [.int 71, .ref q_16]) (rest := []) ⟨hx, hb, hml, hown, htg⟩ (c_X11_keep l hfl g m0 mh mg ms md mc mr 71 q_16 (rfl) (rfl) H.size) ⟨(qB htg k1484 k57 k1481 ok_X11_keep rfl rfl ⟨Nat.le_of_ble_eq_true rfl, Nat.le_of_ble_eq_true rfl⟩), htg _ k1483, htg _ k19⟩ ⟨(q_pre [.ref m0, .int 71, .ref q_16] hPc hDc hK hS hT hFc).1, va_recv hK hP (ci := 11) (q0 := 2) rfl rfl, (q_pre [.ref m0, .int 71, .ref q_16] hPc hDc hK hS hT hFc).2⟩ rfl rfl hl.1 rfl (lv_room (Nat.le_of_ble_eq_true rfl)) dX11_setGround_73 ⟨Nat.le_of_ble_eq_true rfl, Nat.le_of_ble_eq_true rfl⟩) hP hD hS hFc [2, 0] [1, 3, 4] rfl rfl (by decide) (by decide) (fun u9 H locs hw hP hD hS => ?_)
          try dsimp only at hw
          rcases hw with rfl
          have hP : va_P g.1 CLS [(mg, .inl (g.2.1 0, 64, .inl fm)), (mh, .inr (1, [.int 0, .ref (g.2.2 1), .int 0])), (q_16, .inl (g.2.1 1, 3, .inl (upd (upd (upd (fun _ => 0) 0 n1) 1 n2) 2 n3))), (m0, .inr (11, [.ref mh, .ref mg, .ref ms, .ref md, .ref mc, .ref mr, .int (-1), .int 0, .int 0, .int 0, .long 0, .int 0, .int 0, .int 0]))] H := hP
          have hD : va_D A [(mg, .inl (g.2.1 0, 64, .inl fm)), (mh, .inr (1, [.int 0, .ref (g.2.2 1), .int 0])), (q_16, .inl (g.2.1 1, 3, .inl (upd (upd (upd (fun _ => 0) 0 n1) 1 n2) 2 n3))), (m0, .inr (11, [.ref mh, .ref mg, .ref ms, .ref md, .ref mc, .ref mr, .int (-1), .int 0, .int 0, .int 0, .long 0, .int 0, .int 0, .int 0]))] := hD
          refine W.widen (k := 5) (n := 23) (Nat.le_of_ble_eq_true rfl) (Nat.le_of_ble_eq_true rfl) ?_
          refine lv_aload_n hx hb dX11_setGround_76 rfl (lv_at hl 0 rfl) ?_
          refine va_get (D := g.1) (ci := 11) (v := .ref mg) (C := RX11) (T := TX11) (N := 14) hx hb htg inG_X11 hown hK hP 3 rfl rfl 1 (by decide) (htg _ k1341) (fun _ h9 => h9) rfl dX11_setGround_77 ?_
          refine lv_bipush (v := 8) hx hb dX11_setGround_80 (by decide) ?_
          refine lv_iload_n hx hb dX11_setGround_82 rfl (lv_at hl 2 rfl) ?_
          refine lv_imul hx hb dX11_setGround_83 ?_
          refine lv_topi (fun x_17 ex_17 => ?_)
          refine lv_iload_n hx hb dX11_setGround_84 rfl (lv_at hl 1 rfl) ?_
          refine lv_iadd hx hb dX11_setGround_85 ?_
          refine lv_topi (fun x_18 ex_18 => ?_)
          refine va_cald hx hb hK hP 0 0 rfl rfl (i := x_18) (cellIn c_1 ex_17 ex_18) dX11_setGround_86 ?_
          refine lv_topi (fun x_19 ex_19 => ?_)
          obtain rfl : x_19 = 46 := ex_19.trans (cellAt hfm c_1 ex_17 ex_18)
          refine lv_istore (lv' := [(4, .int 46), (0, .ref m0), (1, .int n1), (2, .int n2), (3, .int n3)]) hx hb dX11_setGround_87 hl (by decide) rfl (fun ls hl => ?_)
          refine lv_aload_n hx hb dX11_setGround_89 rfl (lv_at hl 1 rfl) ?_
          refine va_get (D := g.1) (ci := 11) (v := .ref mg) (C := RX11) (T := TX11) (N := 14) hx hb htg inG_X11 hown hK hP 3 rfl rfl 1 (by decide) (htg _ k1341) (fun _ h9 => h9) rfl dX11_setGround_90 ?_
          refine lv_bipush (v := 8) hx hb dX11_setGround_93 (by decide) ?_
          refine lv_iload_n hx hb dX11_setGround_95 rfl (lv_at hl 3 rfl) ?_
          refine lv_imul hx hb dX11_setGround_96 ?_
          refine lv_topi (fun x_20 ex_20 => ?_)
          refine lv_iload_n hx hb dX11_setGround_97 rfl (lv_at hl 2 rfl) ?_
          refine lv_iadd hx hb dX11_setGround_98 ?_
          refine lv_topi (fun x_21 ex_21 => ?_)
          refine lv_iload_n hx hb dX11_setGround_99 rfl (lv_at hl 4 rfl) ?_
          refine va_cast hx hb hK hP hD hS 0 0 rfl rfl (i := x_21) (cellIn c_1 ex_20 ex_21) dX11_setGround_100 (fun H locs hP hD hS => ?_)
          have hP : va_P g.1 CLS [(mg, .inl (g.2.1 0, 64, .inl (upd fm x_21.toNatClampNeg (vp_nar .char n3)))), (mh, .inr (1, [.int 0, .ref (g.2.2 1), .int 0])), (q_16, .inl (g.2.1 1, 3, .inl (upd (upd (upd (fun _ => 0) 0 n1) 1 n2) 2 n3))), (m0, .inr (11, [.ref mh, .ref mg, .ref ms, .ref md, .ref mc, .ref mr, .int (-1), .int 0, .int 0, .int 0, .long 0, .int 0, .int 0, .int 0]))] H := hP
          have hD : va_D A [(mg, .inl (g.2.1 0, 64, .inl (upd fm x_21.toNatClampNeg (vp_nar .char n3)))), (mh, .inr (1, [.int 0, .ref (g.2.2 1), .int 0])), (q_16, .inl (g.2.1 1, 3, .inl (upd (upd (upd (fun _ => 0) 0 n1) 1 n2) 2 n3))), (m0, .inr (11, [.ref mh, .ref mg, .ref ms, .ref md, .ref mc, .ref mr, .int (-1), .int 0, .int 0, .int 0, .long 0, .int 0, .int 0, .int 0]))] := hD
          refine lv_iload hx hb dX11_setGround_101 (lv_at hl 0 rfl) ?_
          have hP9 := hP.sub (ws' := [(m0, .inr (11, [.ref mh, .ref mg, .ref ms, .ref md, .ref mc, .ref mr, .int (-1), .int 0, .int 0, .int 0, .long 0, .int 0, .int 0, .int 0]))]) [3] rfl
          have hD9 := hD.sub (ws' := [(m0, .inr (11, [.ref mh, .ref mg, .ref ms, .ref md, .ref mc, .ref mr, .int (-1), .int 0, .int 0, .int 0, .long 0, .int 0, .int 0, .int 0]))]) [3] (by decide) rfl
          refine W.widen (k := 20) (n := 100) (Nat.le_of_ble_eq_true rfl) (Nat.le_of_ble_eq_true rfl) ?_
          exact W.zret (v := 46) hx hb hr rfl (fun t ht hW => ⟨⟨46, [(m0, .inr (11, [.ref mh, .ref mg, .ref ms, .ref md, .ref mc, .ref mr, .int (-1), .int 0, .int 0, .int 0, .long 0, .int 0, .int 0, .int 0]))], rfl, Or.inl ⟨⟨c_1, c_4, by simp only [fa_lt, fa_le, fa_eq, li0, li1, li5, li7, li8, li9, li20, li30, li40, li50, li97, li99, li103, li109, li115, li120, li255, lin1, lin20] at c_6 c_7 ⊢; omega⟩, rfl, rfl⟩, by rw [ht]; exact hP9, va_K.moved hW.alike hK, hD9⟩, hS.F ht⟩) hS.2.2 dX11_setGround_103
      · refine lv_iconst (v := 1) hx hb dX11_setGround_18 (by decide) ?_
        refine lv_goto (tgt := 42) hx hb dX11_setGround_19 (by decide) ?_
        refine va_put (D := g.1) (ci := 11) (v := .int 1) (ty := .int) (C := RX11) (T := TX11) (N := 14) hx hb htg inG_X11 tyX11 tyX11_ok nmX11 hown hK hP hD hS 0 rfl rfl 13 (by decide) (htg _ k1353) (fun _ h9 => h9) rfl (by decide +kernel) rfl rfl (Nat.le_of_ble_eq_true rfl) dX11_setGround_42 (fun H locs hP hD hS => ?_)
        have hP : va_P g.1 CLS [(m0, .inr (11, [.ref mh, .ref mg, .ref ms, .ref md, .ref mc, .ref mr, .int (-1), .int 0, .int 0, .int 0, .long 0, .int 0, .int 0, .int 1])), (mh, .inr (1, [.int 0, .ref (g.2.2 1), .int 0])), (mc, .inr (1, [.int 0, .ref (g.2.2 1), .int 0])), (mg, .inl (g.2.1 0, 64, .inl fm))] H := hP
        have hD : va_D A [(m0, .inr (11, [.ref mh, .ref mg, .ref ms, .ref md, .ref mc, .ref mr, .int (-1), .int 0, .int 0, .int 0, .long 0, .int 0, .int 0, .int 1])), (mh, .inr (1, [.int 0, .ref (g.2.2 1), .int 0])), (mc, .inr (1, [.int 0, .ref (g.2.2 1), .int 0])), (mg, .inl (g.2.1 0, 64, .inl fm))] := hD
        refine lv_aload_n hx hb dX11_setGround_45 rfl (lv_at hl 0 rfl) ?_
        refine va_get (D := g.1) (ci := 11) (v := .int 1) (C := RX11) (T := TX11) (N := 14) hx hb htg inG_X11 hown hK hP 0 rfl rfl 13 (by decide) (htg _ k1353) (fun _ h9 => h9) rfl dX11_setGround_46 ?_
        refine lv_if_le (tgt := 55) hx hb dX11_setGround_49 (by decide) (fun c_22 => absurd c_22 (by decide)) (fun c_22 => ?_)
        refine lv_bipush (v := 32) hx hb dX11_setGround_52 (by decide) ?_
        have hP9 := hP.sub (ws' := [(m0, .inr (11, [.ref mh, .ref mg, .ref ms, .ref md, .ref mc, .ref mr, .int (-1), .int 0, .int 0, .int 0, .long 0, .int 0, .int 0, .int 1]))]) [0] rfl
        have hD9 := hD.sub (ws' := [(m0, .inr (11, [.ref mh, .ref mg, .ref ms, .ref md, .ref mc, .ref mr, .int (-1), .int 0, .int 0, .int 0, .long 0, .int 0, .int 0, .int 1]))]) [0] (by decide) rfl
        refine W.widen (k := 20) (n := 100) (Nat.le_of_ble_eq_true rfl) (Nat.le_of_ble_eq_true rfl) ?_
        exact W.zret (v := 32) hx hb hr rfl (fun t ht hW => ⟨⟨32, [(m0, .inr (11, [.ref mh, .ref mg, .ref ms, .ref md, .ref mc, .ref mr, .int (-1), .int 0, .int 0, .int 0, .long 0, .int 0, .int 0, .int 1]))], rfl, Or.inr (⟨fun hh => absurd (by simp only [fa_lt, fa_le, fa_eq, li0, li1, li5, li7, li8, li9, li20, li30, li40, li50, li97, li99, li103, li109, li115, li120, li255, lin1, lin20] at c_6 ⊢; omega : ixf n3.toInt8.toInt32 [46, 35, 126] 0 < 0) hh.2.2, rfl, rfl⟩), by rw [ht]; exact hP9, va_K.moved hW.alike hK, hD9⟩, hS.F ht⟩) hS.2.2 dX11_setGround_54
    · have hP : va_P g.1 CLS [(m0, .inr (11, [.ref mh, .ref mg, .ref ms, .ref md, .ref mc, .ref mr, .int (-1), .int 0, .int 0, .int 0, .long 0, .int 0, .int 0, .int 0])), (mh, .inr (1, [.int 0, .ref (g.2.2 1), .int 0])), (mc, .inr (1, [.int 0, .ref (g.2.2 1), .int 0])), (mg, .inl (g.2.1 0, 64, .inl fm))] H := hP
      have hD : va_D A [(m0, .inr (11, [.ref mh, .ref mg, .ref ms, .ref md, .ref mc, .ref mr, .int (-1), .int 0, .int 0, .int 0, .long 0, .int 0, .int 0, .int 0])), (mh, .inr (1, [.int 0, .ref (g.2.2 1), .int 0])), (mc, .inr (1, [.int 0, .ref (g.2.2 1), .int 0])), (mg, .inl (g.2.1 0, 64, .inl fm))] := hD
      refine W.widen (k := 0) (n := 0) (Nat.le_of_ble_eq_true rfl) (Nat.le_of_ble_eq_true rfl) ?_
      refine lv_if_ge (tgt := 22) hx hb dX11_setGround_15 (by decide) (fun c_23 => absurd c_23 (by decide)) (fun c_23 => ?_)
      refine lv_iconst (v := 1) hx hb dX11_setGround_18 (by decide) ?_
      refine lv_goto (tgt := 42) hx hb dX11_setGround_19 (by decide) ?_
      refine va_put (D := g.1) (ci := 11) (v := .int 1) (ty := .int) (C := RX11) (T := TX11) (N := 14) hx hb htg inG_X11 tyX11 tyX11_ok nmX11 hown hK hP hD hS 0 rfl rfl 13 (by decide) (htg _ k1353) (fun _ h9 => h9) rfl (by decide +kernel) rfl rfl (Nat.le_of_ble_eq_true rfl) dX11_setGround_42 (fun H locs hP hD hS => ?_)
      have hP : va_P g.1 CLS [(m0, .inr (11, [.ref mh, .ref mg, .ref ms, .ref md, .ref mc, .ref mr, .int (-1), .int 0, .int 0, .int 0, .long 0, .int 0, .int 0, .int 1])), (mh, .inr (1, [.int 0, .ref (g.2.2 1), .int 0])), (mc, .inr (1, [.int 0, .ref (g.2.2 1), .int 0])), (mg, .inl (g.2.1 0, 64, .inl fm))] H := hP
      have hD : va_D A [(m0, .inr (11, [.ref mh, .ref mg, .ref ms, .ref md, .ref mc, .ref mr, .int (-1), .int 0, .int 0, .int 0, .long 0, .int 0, .int 0, .int 1])), (mh, .inr (1, [.int 0, .ref (g.2.2 1), .int 0])), (mc, .inr (1, [.int 0, .ref (g.2.2 1), .int 0])), (mg, .inl (g.2.1 0, 64, .inl fm))] := hD
      refine lv_aload_n hx hb dX11_setGround_45 rfl (lv_at hl 0 rfl) ?_
      refine va_get (D := g.1) (ci := 11) (v := .int 1) (C := RX11) (T := TX11) (N := 14) hx hb htg inG_X11 hown hK hP 0 rfl rfl 13 (by decide) (htg _ k1353) (fun _ h9 => h9) rfl dX11_setGround_46 ?_
      refine lv_if_le (tgt := 55) hx hb dX11_setGround_49 (by decide) (fun c_24 => absurd c_24 (by decide)) (fun c_24 => ?_)
      refine lv_bipush (v := 32) hx hb dX11_setGround_52 (by decide) ?_
      have hP9 := hP.sub (ws' := [(m0, .inr (11, [.ref mh, .ref mg, .ref ms, .ref md, .ref mc, .ref mr, .int (-1), .int 0, .int 0, .int 0, .long 0, .int 0, .int 0, .int 1]))]) [0] rfl
      have hD9 := hD.sub (ws' := [(m0, .inr (11, [.ref mh, .ref mg, .ref ms, .ref md, .ref mc, .ref mr, .int (-1), .int 0, .int 0, .int 0, .long 0, .int 0, .int 0, .int 1]))]) [0] (by decide) rfl
      refine W.widen (k := 20) (n := 100) (Nat.le_of_ble_eq_true rfl) (Nat.le_of_ble_eq_true rfl) ?_
      exact W.zret (v := 32) hx hb hr rfl (fun t ht hW => ⟨⟨32, [(m0, .inr (11, [.ref mh, .ref mg, .ref ms, .ref md, .ref mc, .ref mr, .int (-1), .int 0, .int 0, .int 0, .long 0, .int 0, .int 0, .int 1]))], rfl, Or.inr (⟨fun hh => absurd hh.2.1 c_5, rfl, rfl⟩), by rw [ht]; exact hP9, va_K.moved hW.alike hK, hD9⟩, hS.F ht⟩) hS.2.2 dX11_setGround_54
  · have hP : va_P g.1 CLS [(m0, .inr (11, [.ref mh, .ref mg, .ref ms, .ref md, .ref mc, .ref mr, .int (-1), .int 0, .int 0, .int 0, .long 0, .int 0, .int 0, .int 0])), (mh, .inr (1, [.int 0, .ref (g.2.2 1), .int 0])), (mc, .inr (1, [.int 0, .ref (g.2.2 1), .int 0])), (mg, .inl (g.2.1 0, 64, .inl fm))] H := hP
    have hD : va_D A [(m0, .inr (11, [.ref mh, .ref mg, .ref ms, .ref md, .ref mc, .ref mr, .int (-1), .int 0, .int 0, .int 0, .long 0, .int 0, .int 0, .int 0])), (mh, .inr (1, [.int 0, .ref (g.2.2 1), .int 0])), (mc, .inr (1, [.int 0, .ref (g.2.2 1), .int 0])), (mg, .inl (g.2.1 0, 64, .inl fm))] := hD
    refine W.widen (k := 0) (n := 0) (Nat.le_of_ble_eq_true rfl) (Nat.le_of_ble_eq_true rfl) ?_
    refine lv_if_eq (tgt := 18) hx hb dX11_setGround_6 (by decide) (fun c_25 => ?_) (fun c_25 => absurd (by decide) c_25)
    refine lv_iconst (v := 1) hx hb dX11_setGround_18 (by decide) ?_
    refine lv_goto (tgt := 42) hx hb dX11_setGround_19 (by decide) ?_
    refine va_put (D := g.1) (ci := 11) (v := .int 1) (ty := .int) (C := RX11) (T := TX11) (N := 14) hx hb htg inG_X11 tyX11 tyX11_ok nmX11 hown hK hP hD hS 0 rfl rfl 13 (by decide) (htg _ k1353) (fun _ h9 => h9) rfl (by decide +kernel) rfl rfl (Nat.le_of_ble_eq_true rfl) dX11_setGround_42 (fun H locs hP hD hS => ?_)
    have hP : va_P g.1 CLS [(m0, .inr (11, [.ref mh, .ref mg, .ref ms, .ref md, .ref mc, .ref mr, .int (-1), .int 0, .int 0, .int 0, .long 0, .int 0, .int 0, .int 1])), (mh, .inr (1, [.int 0, .ref (g.2.2 1), .int 0])), (mc, .inr (1, [.int 0, .ref (g.2.2 1), .int 0])), (mg, .inl (g.2.1 0, 64, .inl fm))] H := hP
    have hD : va_D A [(m0, .inr (11, [.ref mh, .ref mg, .ref ms, .ref md, .ref mc, .ref mr, .int (-1), .int 0, .int 0, .int 0, .long 0, .int 0, .int 0, .int 1])), (mh, .inr (1, [.int 0, .ref (g.2.2 1), .int 0])), (mc, .inr (1, [.int 0, .ref (g.2.2 1), .int 0])), (mg, .inl (g.2.1 0, 64, .inl fm))] := hD
    refine lv_aload_n hx hb dX11_setGround_45 rfl (lv_at hl 0 rfl) ?_
    refine va_get (D := g.1) (ci := 11) (v := .int 1) (C := RX11) (T := TX11) (N := 14) hx hb htg inG_X11 hown hK hP 0 rfl rfl 13 (by decide) (htg _ k1353) (fun _ h9 => h9) rfl dX11_setGround_46 ?_
    refine lv_if_le (tgt := 55) hx hb dX11_setGround_49 (by decide) (fun c_26 => absurd c_26 (by decide)) (fun c_26 => ?_)
    refine lv_bipush (v := 32) hx hb dX11_setGround_52 (by decide) ?_
    have hP9 := hP.sub (ws' := [(m0, .inr (11, [.ref mh, .ref mg, .ref ms, .ref md, .ref mc, .ref mr, .int (-1), .int 0, .int 0, .int 0, .long 0, .int 0, .int 0, .int 1]))]) [0] rfl
    have hD9 := hD.sub (ws' := [(m0, .inr (11, [.ref mh, .ref mg, .ref ms, .ref md, .ref mc, .ref mr, .int (-1), .int 0, .int 0, .int 0, .long 0, .int 0, .int 0, .int 1]))]) [0] (by decide) rfl
    refine W.widen (k := 20) (n := 100) (Nat.le_of_ble_eq_true rfl) (Nat.le_of_ble_eq_true rfl) ?_
    exact W.zret (v := 32) hx hb hr rfl (fun t ht hW => ⟨⟨32, [(m0, .inr (11, [.ref mh, .ref mg, .ref ms, .ref md, .ref mc, .ref mr, .int (-1), .int 0, .int 0, .int 0, .long 0, .int 0, .int 0, .int 1]))], rfl, Or.inr (⟨fun hh => absurd hh.1 c_2, rfl, rfl⟩), by rw [ht]; exact hP9, va_K.moved hW.alike hK, hD9⟩, hS.F ht⟩) hS.2.2 dX11_setGround_54

set_option maxHeartbeats 4000000 in
set_option maxRecDepth 100000 in
theorem c_m_setBase (l : Launch) (hfl : l.stackTraces = false) (g : GP) (m0 : Nat) (mh : Nat) (mg : Nat) (ms : Nat) (md : Nat) (mc : Nat) (mr : Nat) (n1 : Int32) (n2 : Int32) (n3 : Int32)  : CI l yX11_setBase (wG yX11_setBase cX11_setBase 5 (Option.some Jvm.ClassFile.FieldType.int)) (LV 4 20 100) g [.ref m0, .int n1, .int n2, .int n3] ([(m0, .inr (11, [.ref mh, .ref mg, .ref ms, .ref md, .ref mc, .ref mr, .int (-1), .int 0, .int 0, .int 0, .long 0, .int 0, .int 0, .int 0])), (mh, .inr (1, [.int 0, .ref (g.2.2 1), .int 0]))]) (fun (r : Int32) (u : va_W) => r = (-1) ∧ u = [(m0, .inr (11, [.ref mh, .ref mg, .ref ms, .ref md, .ref mc, .ref mr, .int (-1), .int 0, .int 0, .int 0, .long 0, .int 0, .int 0, .int 1]))]) := by
  intro sz
  refine Met.ofW (cc := cX11_setBase) (maxL := 5) (ret := (Option.some Jvm.ClassFile.FieldType.int)) (by decide) rfl ?_
  intro p e s m args below meth c s₁ B hml hv
  obtain ⟨rfl, hsz, hP, hK, hD0, hT0⟩ := hv
  have hx := B.exec
  have hb := B.bytes
  have hr := B.returns
  have hts := atoms_spec (ws := (wG yX11_setBase cX11_setBase 5 (Option.some Jvm.ClassFile.FieldType.int))) B.pre
  have htg : ∀ w ∈ G9, w.before _ s = true := fun w h => hts w (List.mem_cons_of_mem _ h)
  have hown : s.vm.findClass "HeroTableModel" = some m.cls := findClass_of_methodNamed B.named
  have hlocks := B.notSynchronized
  subst hsz
  have hD := hD0.self (sz := s.heap.size)
  have hT := hT0
  clear hT0
  generalize hAe : va_A [(m0, .inr (11, [.ref mh, .ref mg, .ref ms, .ref md, .ref mc, .ref mr, .int (-1), .int 0, .int 0, .int 0, .long 0, .int 0, .int 0, .int 0])), (mh, .inr (1, [.int 0, .ref (g.2.2 1), .int 0]))] s.heap.size = A at hD hT ⊢
  have hA : ∀ q : Nat, s.heap.size ≤ q → A q := fun q h => by rw [← hAe]; exact Or.inr h
  obtain ⟨H, hH0⟩ : ∃ H, H = s.heap := ⟨_, rfl⟩
  have hS : va_S A s.heap H [] := by rw [hH0]; exact va_S.rf
  have hP : va_P g.1 CLS [(m0, .inr (11, [.ref mh, .ref mg, .ref ms, .ref md, .ref mc, .ref mr, .int (-1), .int 0, .int 0, .int 0, .long 0, .int 0, .int 0, .int 0])), (mh, .inr (1, [.int 0, .ref (g.2.2 1), .int 0]))] H := by rw [hH0]; exact hP
  rw [← hH0]
  have hl := lv_entry ([.ref m0, .int n1, .int n2, .int n3]) (n := 5) (Nat.le_of_ble_eq_true rfl)
  rw [lg_entry_eq]
  generalize (lg_sl ([.ref m0, .int n1, .int n2, .int n3]) ++ List.replicate (5 - (lg_sl ([.ref m0, .int n1, .int n2, .int n3])).length) Slot.unset).toArray = ls at hl ⊢
  have hl : lv_has ls 5 [(0, .ref m0), (1, .int n1), (2, .int n2), (3, .int n3)] := hl
  refine lv_aload_n hx hb dX11_setBase_0 rfl (lv_at hl 0 rfl) ?_
  refine lv_aload_n hx hb dX11_setBase_1 rfl (lv_at hl 0 rfl) ?_
  refine lv_iload_n hx hb dX11_setBase_2 rfl (lv_at hl 1 rfl) ?_
  have hPc := hP.sub (ws' := [(m0, .inr (11, [.ref mh, .ref mg, .ref ms, .ref md, .ref mc, .ref mr, .int (-1), .int 0, .int 0, .int 0, .long 0, .int 0, .int 0, .int 0])), (mh, .inr (1, [.int 0, .ref (g.2.2 1), .int 0]))]) [0, 1] rfl
  have hDc := hD.sub (ws' := [(m0, .inr (11, [.ref mh, .ref mg, .ref ms, .ref md, .ref mc, .ref mr, .int (-1), .int 0, .int 0, .int 0, .long 0, .int 0, .int 0, .int 0])), (mh, .inr (1, [.int 0, .ref (g.2.2 1), .int 0]))]) [0, 1] (by decide) rfl
  have hFc := va_free (wc := [(m0, .inr (11, [.ref mh, .ref mg, .ref ms, .ref md, .ref mc, .ref mr, .int (-1), .int 0, .int 0, .int 0, .long 0, .int 0, .int 0, .int 0])), (mh, .inr (1, [.int 0, .ref (g.2.2 1), .int 0]))]) hD hS hA [0, 1] rfl
  refine q_ci (wr := []) (va_runV (As := [.int n1]) (rest := [.ref m0]) ⟨hx, hb, hml, hown, htg⟩ (c_X11_isHero l hfl g m0 mh mg ms md mc mr n1  H.size) ⟨(qB htg k1640 k57 k1637 ok_X11_isHero rfl rfl ⟨Nat.le_of_ble_eq_true rfl, Nat.le_of_ble_eq_true rfl⟩), htg _ k1639, htg _ k23⟩ ⟨(q_pre [.ref m0, .int n1] hPc hDc hK hS hT hFc).1, va_recv hK hP (ci := 11) (q0 := 0) rfl rfl, (q_pre [.ref m0, .int n1] hPc hDc hK hS hT hFc).2⟩ rfl rfl hl.1 rfl (lv_room (Nat.le_of_ble_eq_true rfl)) dX11_setBase_3 ⟨Nat.le_of_ble_eq_true rfl, Nat.le_of_ble_eq_true rfl⟩) hP hD hS hFc [0, 1] [] rfl rfl (by decide) (by decide) (fun r9 u9 H locs hw hP hD hS => ?_)
  try dsimp only at hw
  rcases hw with ⟨rfl, rfl⟩
  have hP : va_P g.1 CLS [(m0, .inr (11, [.ref mh, .ref mg, .ref ms, .ref md, .ref mc, .ref mr, .int (-1), .int 0, .int 0, .int 0, .long 0, .int 0, .int 0, .int 0])), (mh, .inr (1, [.int 0, .ref (g.2.2 1), .int 0]))] H := hP
  have hD : va_D A [(m0, .inr (11, [.ref mh, .ref mg, .ref ms, .ref md, .ref mc, .ref mr, .int (-1), .int 0, .int 0, .int 0, .long 0, .int 0, .int 0, .int 0])), (mh, .inr (1, [.int 0, .ref (g.2.2 1), .int 0]))] := hD
  refine W.widen (k := 0) (n := 0) (Nat.le_of_ble_eq_true rfl) (Nat.le_of_ble_eq_true rfl) ?_
  refine lv_if_ne (tgt := 13) hx hb dX11_setBase_6 (by decide) (fun c_1 => absurd (by decide) c_1) (fun c_1 => ?_)
  refine lv_iconst (v := 1) hx hb dX11_setBase_9 (by decide) ?_
  refine lv_goto (tgt := 41) hx hb dX11_setBase_10 (by decide) ?_
  refine va_put (D := g.1) (ci := 11) (v := .int 1) (ty := .int) (C := RX11) (T := TX11) (N := 14) hx hb htg inG_X11 tyX11 tyX11_ok nmX11 hown hK hP hD hS 0 rfl rfl 13 (by decide) (htg _ k1353) (fun _ h9 => h9) rfl (by decide +kernel) rfl rfl (Nat.le_of_ble_eq_true rfl) dX11_setBase_41 (fun H locs hP hD hS => ?_)
  have hP : va_P g.1 CLS [(m0, .inr (11, [.ref mh, .ref mg, .ref ms, .ref md, .ref mc, .ref mr, .int (-1), .int 0, .int 0, .int 0, .long 0, .int 0, .int 0, .int 1])), (mh, .inr (1, [.int 0, .ref (g.2.2 1), .int 0]))] H := hP
  have hD : va_D A [(m0, .inr (11, [.ref mh, .ref mg, .ref ms, .ref md, .ref mc, .ref mr, .int (-1), .int 0, .int 0, .int 0, .long 0, .int 0, .int 0, .int 1])), (mh, .inr (1, [.int 0, .ref (g.2.2 1), .int 0]))] := hD
  refine lv_aload_n hx hb dX11_setBase_44 rfl (lv_at hl 0 rfl) ?_
  refine va_get (D := g.1) (ci := 11) (v := .int 1) (C := RX11) (T := TX11) (N := 14) hx hb htg inG_X11 hown hK hP 0 rfl rfl 13 (by decide) (htg _ k1353) (fun _ h9 => h9) rfl dX11_setBase_45 ?_
  refine lv_if_le (tgt := 53) hx hb dX11_setBase_48 (by decide) (fun c_2 => absurd c_2 (by decide)) (fun c_2 => ?_)
  refine lv_iconst (v := (-1)) hx hb dX11_setBase_51 (by decide) ?_
  have hP9 := hP.sub (ws' := [(m0, .inr (11, [.ref mh, .ref mg, .ref ms, .ref md, .ref mc, .ref mr, .int (-1), .int 0, .int 0, .int 0, .long 0, .int 0, .int 0, .int 1]))]) [0] rfl
  have hD9 := hD.sub (ws' := [(m0, .inr (11, [.ref mh, .ref mg, .ref ms, .ref md, .ref mc, .ref mr, .int (-1), .int 0, .int 0, .int 0, .long 0, .int 0, .int 0, .int 1]))]) [0] (by decide) rfl
  refine W.widen (k := 20) (n := 100) (Nat.le_of_ble_eq_true rfl) (Nat.le_of_ble_eq_true rfl) ?_
  exact W.iret (v := (-1)) hx hb hr (fun t ht hW => ⟨⟨(-1), [(m0, .inr (11, [.ref mh, .ref mg, .ref ms, .ref md, .ref mc, .ref mr, .int (-1), .int 0, .int 0, .int 0, .long 0, .int 0, .int 0, .int 1]))], rfl, ⟨rfl, rfl⟩, by rw [ht]; exact hP9, va_K.moved hW.alike hK, hD9⟩, hS.F ht⟩) hS.2.2 dX11_setBase_52

set_option maxHeartbeats 4000000 in
set_option maxRecDepth 100000 in
theorem c_m_setSpare (l : Launch) (hfl : l.stackTraces = false) (g : GP) (m0 : Nat) (mh : Nat) (mg : Nat) (ms : Nat) (md : Nat) (mc : Nat) (mr : Nat) (n1 : Int32) (n2 : Int32)  : CI l yX11_setSpare (wG yX11_setSpare cX11_setSpare 4 (Option.some Jvm.ClassFile.FieldType.int)) (LV 4 20 100) g [.ref m0, .int n1, .int n2] ([(m0, .inr (11, [.ref mh, .ref mg, .ref ms, .ref md, .ref mc, .ref mr, .int (-1), .int 0, .int 0, .int 0, .long 0, .int 0, .int 0, .int 0])), (mh, .inr (1, [.int 0, .ref (g.2.2 1), .int 0]))]) (fun (r : Int32) (u : va_W) => r = (-1) ∧ u = [(m0, .inr (11, [.ref mh, .ref mg, .ref ms, .ref md, .ref mc, .ref mr, .int (-1), .int 0, .int 0, .int 0, .long 0, .int 0, .int 0, .int 1]))]) := by
  intro sz
  refine Met.ofW (cc := cX11_setSpare) (maxL := 4) (ret := (Option.some Jvm.ClassFile.FieldType.int)) (by decide) rfl ?_
  intro p e s m args below meth c s₁ B hml hv
  obtain ⟨rfl, hsz, hP, hK, hD0, hT0⟩ := hv
  have hx := B.exec
  have hb := B.bytes
  have hr := B.returns
  have hts := atoms_spec (ws := (wG yX11_setSpare cX11_setSpare 4 (Option.some Jvm.ClassFile.FieldType.int))) B.pre
  have htg : ∀ w ∈ G9, w.before _ s = true := fun w h => hts w (List.mem_cons_of_mem _ h)
  have hown : s.vm.findClass "HeroTableModel" = some m.cls := findClass_of_methodNamed B.named
  have hlocks := B.notSynchronized
  subst hsz
  have hD := hD0.self (sz := s.heap.size)
  have hT := hT0
  clear hT0
  generalize hAe : va_A [(m0, .inr (11, [.ref mh, .ref mg, .ref ms, .ref md, .ref mc, .ref mr, .int (-1), .int 0, .int 0, .int 0, .long 0, .int 0, .int 0, .int 0])), (mh, .inr (1, [.int 0, .ref (g.2.2 1), .int 0]))] s.heap.size = A at hD hT ⊢
  have hA : ∀ q : Nat, s.heap.size ≤ q → A q := fun q h => by rw [← hAe]; exact Or.inr h
  obtain ⟨H, hH0⟩ : ∃ H, H = s.heap := ⟨_, rfl⟩
  have hS : va_S A s.heap H [] := by rw [hH0]; exact va_S.rf
  have hP : va_P g.1 CLS [(m0, .inr (11, [.ref mh, .ref mg, .ref ms, .ref md, .ref mc, .ref mr, .int (-1), .int 0, .int 0, .int 0, .long 0, .int 0, .int 0, .int 0])), (mh, .inr (1, [.int 0, .ref (g.2.2 1), .int 0]))] H := by rw [hH0]; exact hP
  rw [← hH0]
  have hl := lv_entry ([.ref m0, .int n1, .int n2]) (n := 4) (Nat.le_of_ble_eq_true rfl)
  rw [lg_entry_eq]
  generalize (lg_sl ([.ref m0, .int n1, .int n2]) ++ List.replicate (4 - (lg_sl ([.ref m0, .int n1, .int n2])).length) Slot.unset).toArray = ls at hl ⊢
  have hl : lv_has ls 4 [(0, .ref m0), (1, .int n1), (2, .int n2)] := hl
  refine lv_aload_n hx hb dX11_setSpare_0 rfl (lv_at hl 0 rfl) ?_
  refine lv_aload_n hx hb dX11_setSpare_1 rfl (lv_at hl 0 rfl) ?_
  refine lv_iload_n hx hb dX11_setSpare_2 rfl (lv_at hl 1 rfl) ?_
  have hPc := hP.sub (ws' := [(m0, .inr (11, [.ref mh, .ref mg, .ref ms, .ref md, .ref mc, .ref mr, .int (-1), .int 0, .int 0, .int 0, .long 0, .int 0, .int 0, .int 0])), (mh, .inr (1, [.int 0, .ref (g.2.2 1), .int 0]))]) [0, 1] rfl
  have hDc := hD.sub (ws' := [(m0, .inr (11, [.ref mh, .ref mg, .ref ms, .ref md, .ref mc, .ref mr, .int (-1), .int 0, .int 0, .int 0, .long 0, .int 0, .int 0, .int 0])), (mh, .inr (1, [.int 0, .ref (g.2.2 1), .int 0]))]) [0, 1] (by decide) rfl
  have hFc := va_free (wc := [(m0, .inr (11, [.ref mh, .ref mg, .ref ms, .ref md, .ref mc, .ref mr, .int (-1), .int 0, .int 0, .int 0, .long 0, .int 0, .int 0, .int 0])), (mh, .inr (1, [.int 0, .ref (g.2.2 1), .int 0]))]) hD hS hA [0, 1] rfl
  refine q_ci (wr := []) (va_runV (As := [.int n1]) (rest := [.ref m0]) ⟨hx, hb, hml, hown, htg⟩ (c_X11_isHero l hfl g m0 mh mg ms md mc mr n1  H.size) ⟨(qB htg k1640 k57 k1637 ok_X11_isHero rfl rfl ⟨Nat.le_of_ble_eq_true rfl, Nat.le_of_ble_eq_true rfl⟩), htg _ k1639, htg _ k23⟩ ⟨(q_pre [.ref m0, .int n1] hPc hDc hK hS hT hFc).1, va_recv hK hP (ci := 11) (q0 := 0) rfl rfl, (q_pre [.ref m0, .int n1] hPc hDc hK hS hT hFc).2⟩ rfl rfl hl.1 rfl (lv_room (Nat.le_of_ble_eq_true rfl)) dX11_setSpare_3 ⟨Nat.le_of_ble_eq_true rfl, Nat.le_of_ble_eq_true rfl⟩) hP hD hS hFc [0, 1] [] rfl rfl (by decide) (by decide) (fun r9 u9 H locs hw hP hD hS => ?_)
  try dsimp only at hw
  rcases hw with ⟨rfl, rfl⟩
  have hP : va_P g.1 CLS [(m0, .inr (11, [.ref mh, .ref mg, .ref ms, .ref md, .ref mc, .ref mr, .int (-1), .int 0, .int 0, .int 0, .long 0, .int 0, .int 0, .int 0])), (mh, .inr (1, [.int 0, .ref (g.2.2 1), .int 0]))] H := hP
  have hD : va_D A [(m0, .inr (11, [.ref mh, .ref mg, .ref ms, .ref md, .ref mc, .ref mr, .int (-1), .int 0, .int 0, .int 0, .long 0, .int 0, .int 0, .int 0])), (mh, .inr (1, [.int 0, .ref (g.2.2 1), .int 0]))] := hD
  refine W.widen (k := 0) (n := 0) (Nat.le_of_ble_eq_true rfl) (Nat.le_of_ble_eq_true rfl) ?_
  refine lv_if_ne (tgt := 13) hx hb dX11_setSpare_6 (by decide) (fun c_1 => absurd (by decide) c_1) (fun c_1 => ?_)
  refine lv_iconst (v := 1) hx hb dX11_setSpare_9 (by decide) ?_
  refine lv_goto (tgt := 30) hx hb dX11_setSpare_10 (by decide) ?_
  refine va_put (D := g.1) (ci := 11) (v := .int 1) (ty := .int) (C := RX11) (T := TX11) (N := 14) hx hb htg inG_X11 tyX11 tyX11_ok nmX11 hown hK hP hD hS 0 rfl rfl 13 (by decide) (htg _ k1353) (fun _ h9 => h9) rfl (by decide +kernel) rfl rfl (Nat.le_of_ble_eq_true rfl) dX11_setSpare_30 (fun H locs hP hD hS => ?_)
  have hP : va_P g.1 CLS [(m0, .inr (11, [.ref mh, .ref mg, .ref ms, .ref md, .ref mc, .ref mr, .int (-1), .int 0, .int 0, .int 0, .long 0, .int 0, .int 0, .int 1])), (mh, .inr (1, [.int 0, .ref (g.2.2 1), .int 0]))] H := hP
  have hD : va_D A [(m0, .inr (11, [.ref mh, .ref mg, .ref ms, .ref md, .ref mc, .ref mr, .int (-1), .int 0, .int 0, .int 0, .long 0, .int 0, .int 0, .int 1])), (mh, .inr (1, [.int 0, .ref (g.2.2 1), .int 0]))] := hD
  refine lv_aload_n hx hb dX11_setSpare_33 rfl (lv_at hl 0 rfl) ?_
  refine va_get (D := g.1) (ci := 11) (v := .int 1) (C := RX11) (T := TX11) (N := 14) hx hb htg inG_X11 hown hK hP 0 rfl rfl 13 (by decide) (htg _ k1353) (fun _ h9 => h9) rfl dX11_setSpare_34 ?_
  refine lv_if_le (tgt := 42) hx hb dX11_setSpare_37 (by decide) (fun c_2 => absurd c_2 (by decide)) (fun c_2 => ?_)
  refine lv_iconst (v := (-1)) hx hb dX11_setSpare_40 (by decide) ?_
  have hP9 := hP.sub (ws' := [(m0, .inr (11, [.ref mh, .ref mg, .ref ms, .ref md, .ref mc, .ref mr, .int (-1), .int 0, .int 0, .int 0, .long 0, .int 0, .int 0, .int 1]))]) [0] rfl
  have hD9 := hD.sub (ws' := [(m0, .inr (11, [.ref mh, .ref mg, .ref ms, .ref md, .ref mc, .ref mr, .int (-1), .int 0, .int 0, .int 0, .long 0, .int 0, .int 0, .int 1]))]) [0] (by decide) rfl
  refine W.widen (k := 20) (n := 100) (Nat.le_of_ble_eq_true rfl) (Nat.le_of_ble_eq_true rfl) ?_
  exact W.iret (v := (-1)) hx hb hr (fun t ht hW => ⟨⟨(-1), [(m0, .inr (11, [.ref mh, .ref mg, .ref ms, .ref md, .ref mc, .ref mr, .int (-1), .int 0, .int 0, .int 0, .long 0, .int 0, .int 0, .int 1]))], rfl, ⟨rfl, rfl⟩, by rw [ht]; exact hP9, va_K.moved hW.alike hK, hD9⟩, hS.F ht⟩) hS.2.2 dX11_setSpare_41

set_option maxHeartbeats 4000000 in
set_option maxRecDepth 100000 in
theorem c_m_heal (l : Launch) (hfl : l.stackTraces = false) (g : GP) (m0 : Nat) (mh : Nat) (mg : Nat) (ms : Nat) (md : Nat) (mc : Nat) (mr : Nat) (n1 : Int32) (n2 : Int32)  : CI l yX11_heal (wG yX11_heal cX11_heal 6 (Option.some Jvm.ClassFile.FieldType.int)) (LV 4 20 100) g [.ref m0, .int n1, .int n2] ([(m0, .inr (11, [.ref mh, .ref mg, .ref ms, .ref md, .ref mc, .ref mr, .int (-1), .int 0, .int 0, .int 0, .long 0, .int 0, .int 0, .int 0])), (mh, .inr (1, [.int 0, .ref (g.2.2 1), .int 0]))]) (fun (r : Int32) (u : va_W) => r = (-1) ∧ u = [(m0, .inr (11, [.ref mh, .ref mg, .ref ms, .ref md, .ref mc, .ref mr, .int (-1), .int 0, .int 0, .int 0, .long 0, .int 0, .int 0, .int 1]))]) := by
  intro sz
  refine Met.ofW (cc := cX11_heal) (maxL := 6) (ret := (Option.some Jvm.ClassFile.FieldType.int)) (by decide) rfl ?_
  intro p e s m args below meth c s₁ B hml hv
  obtain ⟨rfl, hsz, hP, hK, hD0, hT0⟩ := hv
  have hx := B.exec
  have hb := B.bytes
  have hr := B.returns
  have hts := atoms_spec (ws := (wG yX11_heal cX11_heal 6 (Option.some Jvm.ClassFile.FieldType.int))) B.pre
  have htg : ∀ w ∈ G9, w.before _ s = true := fun w h => hts w (List.mem_cons_of_mem _ h)
  have hown : s.vm.findClass "HeroTableModel" = some m.cls := findClass_of_methodNamed B.named
  have hlocks := B.notSynchronized
  subst hsz
  have hD := hD0.self (sz := s.heap.size)
  have hT := hT0
  clear hT0
  generalize hAe : va_A [(m0, .inr (11, [.ref mh, .ref mg, .ref ms, .ref md, .ref mc, .ref mr, .int (-1), .int 0, .int 0, .int 0, .long 0, .int 0, .int 0, .int 0])), (mh, .inr (1, [.int 0, .ref (g.2.2 1), .int 0]))] s.heap.size = A at hD hT ⊢
  have hA : ∀ q : Nat, s.heap.size ≤ q → A q := fun q h => by rw [← hAe]; exact Or.inr h
  obtain ⟨H, hH0⟩ : ∃ H, H = s.heap := ⟨_, rfl⟩
  have hS : va_S A s.heap H [] := by rw [hH0]; exact va_S.rf
  have hP : va_P g.1 CLS [(m0, .inr (11, [.ref mh, .ref mg, .ref ms, .ref md, .ref mc, .ref mr, .int (-1), .int 0, .int 0, .int 0, .long 0, .int 0, .int 0, .int 0])), (mh, .inr (1, [.int 0, .ref (g.2.2 1), .int 0]))] H := by rw [hH0]; exact hP
  rw [← hH0]
  have hl := lv_entry ([.ref m0, .int n1, .int n2]) (n := 6) (Nat.le_of_ble_eq_true rfl)
  rw [lg_entry_eq]
  generalize (lg_sl ([.ref m0, .int n1, .int n2]) ++ List.replicate (6 - (lg_sl ([.ref m0, .int n1, .int n2])).length) Slot.unset).toArray = ls at hl ⊢
  have hl : lv_has ls 6 [(0, .ref m0), (1, .int n1), (2, .int n2)] := hl
  refine lv_aload_n hx hb dX11_heal_0 rfl (lv_at hl 0 rfl) ?_
  refine lv_aload_n hx hb dX11_heal_1 rfl (lv_at hl 0 rfl) ?_
  refine lv_iload_n hx hb dX11_heal_2 rfl (lv_at hl 1 rfl) ?_
  have hPc := hP.sub (ws' := [(m0, .inr (11, [.ref mh, .ref mg, .ref ms, .ref md, .ref mc, .ref mr, .int (-1), .int 0, .int 0, .int 0, .long 0, .int 0, .int 0, .int 0])), (mh, .inr (1, [.int 0, .ref (g.2.2 1), .int 0]))]) [0, 1] rfl
  have hDc := hD.sub (ws' := [(m0, .inr (11, [.ref mh, .ref mg, .ref ms, .ref md, .ref mc, .ref mr, .int (-1), .int 0, .int 0, .int 0, .long 0, .int 0, .int 0, .int 0])), (mh, .inr (1, [.int 0, .ref (g.2.2 1), .int 0]))]) [0, 1] (by decide) rfl
  have hFc := va_free (wc := [(m0, .inr (11, [.ref mh, .ref mg, .ref ms, .ref md, .ref mc, .ref mr, .int (-1), .int 0, .int 0, .int 0, .long 0, .int 0, .int 0, .int 0])), (mh, .inr (1, [.int 0, .ref (g.2.2 1), .int 0]))]) hD hS hA [0, 1] rfl
  refine q_ci (wr := []) (va_runV (As := [.int n1]) (rest := [.ref m0]) ⟨hx, hb, hml, hown, htg⟩ (c_X11_isHero l hfl g m0 mh mg ms md mc mr n1  H.size) ⟨(qB htg k1640 k57 k1637 ok_X11_isHero rfl rfl ⟨Nat.le_of_ble_eq_true rfl, Nat.le_of_ble_eq_true rfl⟩), htg _ k1639, htg _ k23⟩ ⟨(q_pre [.ref m0, .int n1] hPc hDc hK hS hT hFc).1, va_recv hK hP (ci := 11) (q0 := 0) rfl rfl, (q_pre [.ref m0, .int n1] hPc hDc hK hS hT hFc).2⟩ rfl rfl hl.1 rfl (lv_room (Nat.le_of_ble_eq_true rfl)) dX11_heal_3 ⟨Nat.le_of_ble_eq_true rfl, Nat.le_of_ble_eq_true rfl⟩) hP hD hS hFc [0, 1] [] rfl rfl (by decide) (by decide) (fun r9 u9 H locs hw hP hD hS => ?_)
  try dsimp only at hw
  rcases hw with ⟨rfl, rfl⟩
  have hP : va_P g.1 CLS [(m0, .inr (11, [.ref mh, .ref mg, .ref ms, .ref md, .ref mc, .ref mr, .int (-1), .int 0, .int 0, .int 0, .long 0, .int 0, .int 0, .int 0])), (mh, .inr (1, [.int 0, .ref (g.2.2 1), .int 0]))] H := hP
  have hD : va_D A [(m0, .inr (11, [.ref mh, .ref mg, .ref ms, .ref md, .ref mc, .ref mr, .int (-1), .int 0, .int 0, .int 0, .long 0, .int 0, .int 0, .int 0])), (mh, .inr (1, [.int 0, .ref (g.2.2 1), .int 0]))] := hD
  refine W.widen (k := 0) (n := 0) (Nat.le_of_ble_eq_true rfl) (Nat.le_of_ble_eq_true rfl) ?_
  refine lv_if_ne (tgt := 13) hx hb dX11_heal_6 (by decide) (fun c_1 => absurd (by decide) c_1) (fun c_1 => ?_)
  refine lv_iconst (v := 1) hx hb dX11_heal_9 (by decide) ?_
  refine lv_goto (tgt := 30) hx hb dX11_heal_10 (by decide) ?_
  refine va_put (D := g.1) (ci := 11) (v := .int 1) (ty := .int) (C := RX11) (T := TX11) (N := 14) hx hb htg inG_X11 tyX11 tyX11_ok nmX11 hown hK hP hD hS 0 rfl rfl 13 (by decide) (htg _ k1353) (fun _ h9 => h9) rfl (by decide +kernel) rfl rfl (Nat.le_of_ble_eq_true rfl) dX11_heal_30 (fun H locs hP hD hS => ?_)
  have hP : va_P g.1 CLS [(m0, .inr (11, [.ref mh, .ref mg, .ref ms, .ref md, .ref mc, .ref mr, .int (-1), .int 0, .int 0, .int 0, .long 0, .int 0, .int 0, .int 1])), (mh, .inr (1, [.int 0, .ref (g.2.2 1), .int 0]))] H := hP
  have hD : va_D A [(m0, .inr (11, [.ref mh, .ref mg, .ref ms, .ref md, .ref mc, .ref mr, .int (-1), .int 0, .int 0, .int 0, .long 0, .int 0, .int 0, .int 1])), (mh, .inr (1, [.int 0, .ref (g.2.2 1), .int 0]))] := hD
  refine lv_aload_n hx hb dX11_heal_33 rfl (lv_at hl 0 rfl) ?_
  refine va_get (D := g.1) (ci := 11) (v := .int 1) (C := RX11) (T := TX11) (N := 14) hx hb htg inG_X11 hown hK hP 0 rfl rfl 13 (by decide) (htg _ k1353) (fun _ h9 => h9) rfl dX11_heal_34 ?_
  refine lv_if_le (tgt := 42) hx hb dX11_heal_37 (by decide) (fun c_2 => absurd c_2 (by decide)) (fun c_2 => ?_)
  refine lv_iconst (v := (-1)) hx hb dX11_heal_40 (by decide) ?_
  have hP9 := hP.sub (ws' := [(m0, .inr (11, [.ref mh, .ref mg, .ref ms, .ref md, .ref mc, .ref mr, .int (-1), .int 0, .int 0, .int 0, .long 0, .int 0, .int 0, .int 1]))]) [0] rfl
  have hD9 := hD.sub (ws' := [(m0, .inr (11, [.ref mh, .ref mg, .ref ms, .ref md, .ref mc, .ref mr, .int (-1), .int 0, .int 0, .int 0, .long 0, .int 0, .int 0, .int 1]))]) [0] (by decide) rfl
  refine W.widen (k := 20) (n := 100) (Nat.le_of_ble_eq_true rfl) (Nat.le_of_ble_eq_true rfl) ?_
  exact W.iret (v := (-1)) hx hb hr (fun t ht hW => ⟨⟨(-1), [(m0, .inr (11, [.ref mh, .ref mg, .ref ms, .ref md, .ref mc, .ref mr, .int (-1), .int 0, .int 0, .int 0, .long 0, .int 0, .int 0, .int 1]))], rfl, ⟨rfl, rfl⟩, by rw [ht]; exact hP9, va_K.moved hW.alike hK, hD9⟩, hS.F ht⟩) hS.2.2 dX11_heal_41

set_option maxHeartbeats 4000000 in
set_option maxRecDepth 100000 in
theorem c_m_lifeOf (l : Launch) (hfl : l.stackTraces = false) (g : GP) (m0 : Nat) (mh : Nat) (mg : Nat) (ms : Nat) (md : Nat) (mc : Nat) (mr : Nat) (n1 : Int32)  : CI l yX11_lifeOf (wG yX11_lifeOf cX11_lifeOf 2 (Option.some Jvm.ClassFile.FieldType.int)) (LV 4 20 100) g [.ref m0, .int n1] ([(m0, .inr (11, [.ref mh, .ref mg, .ref ms, .ref md, .ref mc, .ref mr, .int (-1), .int 0, .int 0, .int 0, .long 0, .int 0, .int 0, .int 0])), (mh, .inr (1, [.int 0, .ref (g.2.2 1), .int 0]))]) (fun (r : Int32) (u : va_W) => r = (-1) ∧ u = [(m0, .inr (11, [.ref mh, .ref mg, .ref ms, .ref md, .ref mc, .ref mr, .int (-1), .int 0, .int 0, .int 0, .long 0, .int 0, .int 0, .int 1]))]) := by
  intro sz
  refine Met.ofW (cc := cX11_lifeOf) (maxL := 2) (ret := (Option.some Jvm.ClassFile.FieldType.int)) (by decide) rfl ?_
  intro p e s m args below meth c s₁ B hml hv
  obtain ⟨rfl, hsz, hP, hK, hD0, hT0⟩ := hv
  have hx := B.exec
  have hb := B.bytes
  have hr := B.returns
  have hts := atoms_spec (ws := (wG yX11_lifeOf cX11_lifeOf 2 (Option.some Jvm.ClassFile.FieldType.int))) B.pre
  have htg : ∀ w ∈ G9, w.before _ s = true := fun w h => hts w (List.mem_cons_of_mem _ h)
  have hown : s.vm.findClass "HeroTableModel" = some m.cls := findClass_of_methodNamed B.named
  have hlocks := B.notSynchronized
  subst hsz
  have hD := hD0.self (sz := s.heap.size)
  have hT := hT0
  clear hT0
  generalize hAe : va_A [(m0, .inr (11, [.ref mh, .ref mg, .ref ms, .ref md, .ref mc, .ref mr, .int (-1), .int 0, .int 0, .int 0, .long 0, .int 0, .int 0, .int 0])), (mh, .inr (1, [.int 0, .ref (g.2.2 1), .int 0]))] s.heap.size = A at hD hT ⊢
  have hA : ∀ q : Nat, s.heap.size ≤ q → A q := fun q h => by rw [← hAe]; exact Or.inr h
  obtain ⟨H, hH0⟩ : ∃ H, H = s.heap := ⟨_, rfl⟩
  have hS : va_S A s.heap H [] := by rw [hH0]; exact va_S.rf
  have hP : va_P g.1 CLS [(m0, .inr (11, [.ref mh, .ref mg, .ref ms, .ref md, .ref mc, .ref mr, .int (-1), .int 0, .int 0, .int 0, .long 0, .int 0, .int 0, .int 0])), (mh, .inr (1, [.int 0, .ref (g.2.2 1), .int 0]))] H := by rw [hH0]; exact hP
  rw [← hH0]
  have hl := lv_entry ([.ref m0, .int n1]) (n := 2) (Nat.le_of_ble_eq_true rfl)
  rw [lg_entry_eq]
  generalize (lg_sl ([.ref m0, .int n1]) ++ List.replicate (2 - (lg_sl ([.ref m0, .int n1])).length) Slot.unset).toArray = ls at hl ⊢
  have hl : lv_has ls 2 [(0, .ref m0), (1, .int n1)] := hl
  refine lv_aload_n hx hb dX11_lifeOf_0 rfl (lv_at hl 0 rfl) ?_
  refine lv_aload_n hx hb dX11_lifeOf_1 rfl (lv_at hl 0 rfl) ?_
  refine lv_iload_n hx hb dX11_lifeOf_2 rfl (lv_at hl 1 rfl) ?_
  have hPc := hP.sub (ws' := [(m0, .inr (11, [.ref mh, .ref mg, .ref ms, .ref md, .ref mc, .ref mr, .int (-1), .int 0, .int 0, .int 0, .long 0, .int 0, .int 0, .int 0])), (mh, .inr (1, [.int 0, .ref (g.2.2 1), .int 0]))]) [0, 1] rfl
  have hDc := hD.sub (ws' := [(m0, .inr (11, [.ref mh, .ref mg, .ref ms, .ref md, .ref mc, .ref mr, .int (-1), .int 0, .int 0, .int 0, .long 0, .int 0, .int 0, .int 0])), (mh, .inr (1, [.int 0, .ref (g.2.2 1), .int 0]))]) [0, 1] (by decide) rfl
  have hFc := va_free (wc := [(m0, .inr (11, [.ref mh, .ref mg, .ref ms, .ref md, .ref mc, .ref mr, .int (-1), .int 0, .int 0, .int 0, .long 0, .int 0, .int 0, .int 0])), (mh, .inr (1, [.int 0, .ref (g.2.2 1), .int 0]))]) hD hS hA [0, 1] rfl
  refine q_ci (wr := []) (va_runV (As := [.int n1]) (rest := [.ref m0]) ⟨hx, hb, hml, hown, htg⟩ (c_X11_isHero l hfl g m0 mh mg ms md mc mr n1  H.size) ⟨(qB htg k1640 k57 k1637 ok_X11_isHero rfl rfl ⟨Nat.le_of_ble_eq_true rfl, Nat.le_of_ble_eq_true rfl⟩), htg _ k1639, htg _ k23⟩ ⟨(q_pre [.ref m0, .int n1] hPc hDc hK hS hT hFc).1, va_recv hK hP (ci := 11) (q0 := 0) rfl rfl, (q_pre [.ref m0, .int n1] hPc hDc hK hS hT hFc).2⟩ rfl rfl hl.1 rfl (lv_room (Nat.le_of_ble_eq_true rfl)) dX11_lifeOf_3 ⟨Nat.le_of_ble_eq_true rfl, Nat.le_of_ble_eq_true rfl⟩) hP hD hS hFc [0, 1] [] rfl rfl (by decide) (by decide) (fun r9 u9 H locs hw hP hD hS => ?_)
  try dsimp only at hw
  rcases hw with ⟨rfl, rfl⟩
  have hP : va_P g.1 CLS [(m0, .inr (11, [.ref mh, .ref mg, .ref ms, .ref md, .ref mc, .ref mr, .int (-1), .int 0, .int 0, .int 0, .long 0, .int 0, .int 0, .int 0])), (mh, .inr (1, [.int 0, .ref (g.2.2 1), .int 0]))] H := hP
  have hD : va_D A [(m0, .inr (11, [.ref mh, .ref mg, .ref ms, .ref md, .ref mc, .ref mr, .int (-1), .int 0, .int 0, .int 0, .long 0, .int 0, .int 0, .int 0])), (mh, .inr (1, [.int 0, .ref (g.2.2 1), .int 0]))] := hD
  refine W.widen (k := 0) (n := 0) (Nat.le_of_ble_eq_true rfl) (Nat.le_of_ble_eq_true rfl) ?_
  refine lv_if_eq (tgt := 13) hx hb dX11_lifeOf_6 (by decide) (fun c_1 => ?_) (fun c_1 => absurd (by decide) c_1)
  refine lv_iconst (v := 1) hx hb dX11_lifeOf_13 (by decide) ?_
  refine va_put (D := g.1) (ci := 11) (v := .int 1) (ty := .int) (C := RX11) (T := TX11) (N := 14) hx hb htg inG_X11 tyX11 tyX11_ok nmX11 hown hK hP hD hS 0 rfl rfl 13 (by decide) (htg _ k1353) (fun _ h9 => h9) rfl (by decide +kernel) rfl rfl (Nat.le_of_ble_eq_true rfl) dX11_lifeOf_14 (fun H locs hP hD hS => ?_)
  have hP : va_P g.1 CLS [(m0, .inr (11, [.ref mh, .ref mg, .ref ms, .ref md, .ref mc, .ref mr, .int (-1), .int 0, .int 0, .int 0, .long 0, .int 0, .int 0, .int 1])), (mh, .inr (1, [.int 0, .ref (g.2.2 1), .int 0]))] H := hP
  have hD : va_D A [(m0, .inr (11, [.ref mh, .ref mg, .ref ms, .ref md, .ref mc, .ref mr, .int (-1), .int 0, .int 0, .int 0, .long 0, .int 0, .int 0, .int 1])), (mh, .inr (1, [.int 0, .ref (g.2.2 1), .int 0]))] := hD
  refine lv_aload_n hx hb dX11_lifeOf_17 rfl (lv_at hl 0 rfl) ?_
  refine va_get (D := g.1) (ci := 11) (v := .int 1) (C := RX11) (T := TX11) (N := 14) hx hb htg inG_X11 hown hK hP 0 rfl rfl 13 (by decide) (htg _ k1353) (fun _ h9 => h9) rfl dX11_lifeOf_18 ?_
  refine lv_if_ne (tgt := 43) hx hb dX11_lifeOf_21 (by decide) (fun c_2 => ?_) (fun c_2 => absurd c_2 (by decide))
  refine lv_iconst (v := (-1)) hx hb dX11_lifeOf_43 (by decide) ?_
  have hP9 := hP.sub (ws' := [(m0, .inr (11, [.ref mh, .ref mg, .ref ms, .ref md, .ref mc, .ref mr, .int (-1), .int 0, .int 0, .int 0, .long 0, .int 0, .int 0, .int 1]))]) [0] rfl
  have hD9 := hD.sub (ws' := [(m0, .inr (11, [.ref mh, .ref mg, .ref ms, .ref md, .ref mc, .ref mr, .int (-1), .int 0, .int 0, .int 0, .long 0, .int 0, .int 0, .int 1]))]) [0] (by decide) rfl
  refine W.widen (k := 20) (n := 100) (Nat.le_of_ble_eq_true rfl) (Nat.le_of_ble_eq_true rfl) ?_
  exact W.iret (v := (-1)) hx hb hr (fun t ht hW => ⟨⟨(-1), [(m0, .inr (11, [.ref mh, .ref mg, .ref ms, .ref md, .ref mc, .ref mr, .int (-1), .int 0, .int 0, .int 0, .long 0, .int 0, .int 0, .int 1]))], rfl, ⟨rfl, rfl⟩, by rw [ht]; exact hP9, va_K.moved hW.alike hK, hD9⟩, hS.F ht⟩) hS.2.2 dX11_lifeOf_44

set_option maxHeartbeats 4000000 in
set_option maxRecDepth 100000 in
theorem c_m_spareOf (l : Launch) (hfl : l.stackTraces = false) (g : GP) (m0 : Nat) (mh : Nat) (mg : Nat) (ms : Nat) (md : Nat) (mc : Nat) (mr : Nat) (n1 : Int32)  : CI l yX11_spareOf (wG yX11_spareOf cX11_spareOf 2 (Option.some Jvm.ClassFile.FieldType.int)) (LV 4 20 100) g [.ref m0, .int n1] ([(m0, .inr (11, [.ref mh, .ref mg, .ref ms, .ref md, .ref mc, .ref mr, .int (-1), .int 0, .int 0, .int 0, .long 0, .int 0, .int 0, .int 0])), (mh, .inr (1, [.int 0, .ref (g.2.2 1), .int 0]))]) (fun (r : Int32) (u : va_W) => r = (-1) ∧ u = [(m0, .inr (11, [.ref mh, .ref mg, .ref ms, .ref md, .ref mc, .ref mr, .int (-1), .int 0, .int 0, .int 0, .long 0, .int 0, .int 0, .int 1]))]) := by
  intro sz
  refine Met.ofW (cc := cX11_spareOf) (maxL := 2) (ret := (Option.some Jvm.ClassFile.FieldType.int)) (by decide) rfl ?_
  intro p e s m args below meth c s₁ B hml hv
  obtain ⟨rfl, hsz, hP, hK, hD0, hT0⟩ := hv
  have hx := B.exec
  have hb := B.bytes
  have hr := B.returns
  have hts := atoms_spec (ws := (wG yX11_spareOf cX11_spareOf 2 (Option.some Jvm.ClassFile.FieldType.int))) B.pre
  have htg : ∀ w ∈ G9, w.before _ s = true := fun w h => hts w (List.mem_cons_of_mem _ h)
  have hown : s.vm.findClass "HeroTableModel" = some m.cls := findClass_of_methodNamed B.named
  have hlocks := B.notSynchronized
  subst hsz
  have hD := hD0.self (sz := s.heap.size)
  have hT := hT0
  clear hT0
  generalize hAe : va_A [(m0, .inr (11, [.ref mh, .ref mg, .ref ms, .ref md, .ref mc, .ref mr, .int (-1), .int 0, .int 0, .int 0, .long 0, .int 0, .int 0, .int 0])), (mh, .inr (1, [.int 0, .ref (g.2.2 1), .int 0]))] s.heap.size = A at hD hT ⊢
  have hA : ∀ q : Nat, s.heap.size ≤ q → A q := fun q h => by rw [← hAe]; exact Or.inr h
  obtain ⟨H, hH0⟩ : ∃ H, H = s.heap := ⟨_, rfl⟩
  have hS : va_S A s.heap H [] := by rw [hH0]; exact va_S.rf
  have hP : va_P g.1 CLS [(m0, .inr (11, [.ref mh, .ref mg, .ref ms, .ref md, .ref mc, .ref mr, .int (-1), .int 0, .int 0, .int 0, .long 0, .int 0, .int 0, .int 0])), (mh, .inr (1, [.int 0, .ref (g.2.2 1), .int 0]))] H := by rw [hH0]; exact hP
  rw [← hH0]
  have hl := lv_entry ([.ref m0, .int n1]) (n := 2) (Nat.le_of_ble_eq_true rfl)
  rw [lg_entry_eq]
  generalize (lg_sl ([.ref m0, .int n1]) ++ List.replicate (2 - (lg_sl ([.ref m0, .int n1])).length) Slot.unset).toArray = ls at hl ⊢
  have hl : lv_has ls 2 [(0, .ref m0), (1, .int n1)] := hl
  refine lv_aload_n hx hb dX11_spareOf_0 rfl (lv_at hl 0 rfl) ?_
  refine lv_aload_n hx hb dX11_spareOf_1 rfl (lv_at hl 0 rfl) ?_
  refine lv_iload_n hx hb dX11_spareOf_2 rfl (lv_at hl 1 rfl) ?_
  have hPc := hP.sub (ws' := [(m0, .inr (11, [.ref mh, .ref mg, .ref ms, .ref md, .ref mc, .ref mr, .int (-1), .int 0, .int 0, .int 0, .long 0, .int 0, .int 0, .int 0])), (mh, .inr (1, [.int 0, .ref (g.2.2 1), .int 0]))]) [0, 1] rfl
  have hDc := hD.sub (ws' := [(m0, .inr (11, [.ref mh, .ref mg, .ref ms, .ref md, .ref mc, .ref mr, .int (-1), .int 0, .int 0, .int 0, .long 0, .int 0, .int 0, .int 0])), (mh, .inr (1, [.int 0, .ref (g.2.2 1), .int 0]))]) [0, 1] (by decide) rfl
  have hFc := va_free (wc := [(m0, .inr (11, [.ref mh, .ref mg, .ref ms, .ref md, .ref mc, .ref mr, .int (-1), .int 0, .int 0, .int 0, .long 0, .int 0, .int 0, .int 0])), (mh, .inr (1, [.int 0, .ref (g.2.2 1), .int 0]))]) hD hS hA [0, 1] rfl
  refine q_ci (wr := []) (va_runV (As := [.int n1]) (rest := [.ref m0]) ⟨hx, hb, hml, hown, htg⟩ (c_X11_isHero l hfl g m0 mh mg ms md mc mr n1  H.size) ⟨(qB htg k1640 k57 k1637 ok_X11_isHero rfl rfl ⟨Nat.le_of_ble_eq_true rfl, Nat.le_of_ble_eq_true rfl⟩), htg _ k1639, htg _ k23⟩ ⟨(q_pre [.ref m0, .int n1] hPc hDc hK hS hT hFc).1, va_recv hK hP (ci := 11) (q0 := 0) rfl rfl, (q_pre [.ref m0, .int n1] hPc hDc hK hS hT hFc).2⟩ rfl rfl hl.1 rfl (lv_room (Nat.le_of_ble_eq_true rfl)) dX11_spareOf_3 ⟨Nat.le_of_ble_eq_true rfl, Nat.le_of_ble_eq_true rfl⟩) hP hD hS hFc [0, 1] [] rfl rfl (by decide) (by decide) (fun r9 u9 H locs hw hP hD hS => ?_)
  try dsimp only at hw
  rcases hw with ⟨rfl, rfl⟩
  have hP : va_P g.1 CLS [(m0, .inr (11, [.ref mh, .ref mg, .ref ms, .ref md, .ref mc, .ref mr, .int (-1), .int 0, .int 0, .int 0, .long 0, .int 0, .int 0, .int 0])), (mh, .inr (1, [.int 0, .ref (g.2.2 1), .int 0]))] H := hP
  have hD : va_D A [(m0, .inr (11, [.ref mh, .ref mg, .ref ms, .ref md, .ref mc, .ref mr, .int (-1), .int 0, .int 0, .int 0, .long 0, .int 0, .int 0, .int 0])), (mh, .inr (1, [.int 0, .ref (g.2.2 1), .int 0]))] := hD
  refine W.widen (k := 0) (n := 0) (Nat.le_of_ble_eq_true rfl) (Nat.le_of_ble_eq_true rfl) ?_
  refine lv_if_eq (tgt := 13) hx hb dX11_spareOf_6 (by decide) (fun c_1 => ?_) (fun c_1 => absurd (by decide) c_1)
  refine lv_iconst (v := 1) hx hb dX11_spareOf_13 (by decide) ?_
  refine va_put (D := g.1) (ci := 11) (v := .int 1) (ty := .int) (C := RX11) (T := TX11) (N := 14) hx hb htg inG_X11 tyX11 tyX11_ok nmX11 hown hK hP hD hS 0 rfl rfl 13 (by decide) (htg _ k1353) (fun _ h9 => h9) rfl (by decide +kernel) rfl rfl (Nat.le_of_ble_eq_true rfl) dX11_spareOf_14 (fun H locs hP hD hS => ?_)
  have hP : va_P g.1 CLS [(m0, .inr (11, [.ref mh, .ref mg, .ref ms, .ref md, .ref mc, .ref mr, .int (-1), .int 0, .int 0, .int 0, .long 0, .int 0, .int 0, .int 1])), (mh, .inr (1, [.int 0, .ref (g.2.2 1), .int 0]))] H := hP
  have hD : va_D A [(m0, .inr (11, [.ref mh, .ref mg, .ref ms, .ref md, .ref mc, .ref mr, .int (-1), .int 0, .int 0, .int 0, .long 0, .int 0, .int 0, .int 1])), (mh, .inr (1, [.int 0, .ref (g.2.2 1), .int 0]))] := hD
  refine lv_aload_n hx hb dX11_spareOf_17 rfl (lv_at hl 0 rfl) ?_
  refine va_get (D := g.1) (ci := 11) (v := .int 1) (C := RX11) (T := TX11) (N := 14) hx hb htg inG_X11 hown hK hP 0 rfl rfl 13 (by decide) (htg _ k1353) (fun _ h9 => h9) rfl dX11_spareOf_18 ?_
  refine lv_if_ne (tgt := 43) hx hb dX11_spareOf_21 (by decide) (fun c_2 => ?_) (fun c_2 => absurd c_2 (by decide))
  refine lv_iconst (v := (-1)) hx hb dX11_spareOf_43 (by decide) ?_
  have hP9 := hP.sub (ws' := [(m0, .inr (11, [.ref mh, .ref mg, .ref ms, .ref md, .ref mc, .ref mr, .int (-1), .int 0, .int 0, .int 0, .long 0, .int 0, .int 0, .int 1]))]) [0] rfl
  have hD9 := hD.sub (ws' := [(m0, .inr (11, [.ref mh, .ref mg, .ref ms, .ref md, .ref mc, .ref mr, .int (-1), .int 0, .int 0, .int 0, .long 0, .int 0, .int 0, .int 1]))]) [0] (by decide) rfl
  refine W.widen (k := 20) (n := 100) (Nat.le_of_ble_eq_true rfl) (Nat.le_of_ble_eq_true rfl) ?_
  exact W.iret (v := (-1)) hx hb hr (fun t ht hW => ⟨⟨(-1), [(m0, .inr (11, [.ref mh, .ref mg, .ref ms, .ref md, .ref mc, .ref mr, .int (-1), .int 0, .int 0, .int 0, .long 0, .int 0, .int 0, .int 1]))], rfl, ⟨rfl, rfl⟩, by rw [ht]; exact hP9, va_K.moved hW.alike hK, hD9⟩, hS.F ht⟩) hS.2.2 dX11_spareOf_44

set_option maxHeartbeats 4000000 in
set_option maxRecDepth 100000 in
theorem c_m_cellOf (l : Launch) (hfl : l.stackTraces = false) (g : GP) (m0 : Nat) (mh : Nat) (mg : Nat) (ms : Nat) (md : Nat) (mc : Nat) (mr : Nat) (n1 : Int32)  : CI l yX11_cellOf (wG yX11_cellOf cX11_cellOf 2 (Option.some Jvm.ClassFile.FieldType.int)) (LV 4 20 100) g [.ref m0, .int n1] ([(m0, .inr (11, [.ref mh, .ref mg, .ref ms, .ref md, .ref mc, .ref mr, .int (-1), .int 0, .int 0, .int 0, .long 0, .int 0, .int 0, .int 0])), (mh, .inr (1, [.int 0, .ref (g.2.2 1), .int 0]))]) (fun (r : Int32) (u : va_W) => r = (-1) ∧ u = [(m0, .inr (11, [.ref mh, .ref mg, .ref ms, .ref md, .ref mc, .ref mr, .int (-1), .int 0, .int 0, .int 0, .long 0, .int 0, .int 0, .int 1]))]) := by
  intro sz
  refine Met.ofW (cc := cX11_cellOf) (maxL := 2) (ret := (Option.some Jvm.ClassFile.FieldType.int)) (by decide) rfl ?_
  intro p e s m args below meth c s₁ B hml hv
  obtain ⟨rfl, hsz, hP, hK, hD0, hT0⟩ := hv
  have hx := B.exec
  have hb := B.bytes
  have hr := B.returns
  have hts := atoms_spec (ws := (wG yX11_cellOf cX11_cellOf 2 (Option.some Jvm.ClassFile.FieldType.int))) B.pre
  have htg : ∀ w ∈ G9, w.before _ s = true := fun w h => hts w (List.mem_cons_of_mem _ h)
  have hown : s.vm.findClass "HeroTableModel" = some m.cls := findClass_of_methodNamed B.named
  have hlocks := B.notSynchronized
  subst hsz
  have hD := hD0.self (sz := s.heap.size)
  have hT := hT0
  clear hT0
  generalize hAe : va_A [(m0, .inr (11, [.ref mh, .ref mg, .ref ms, .ref md, .ref mc, .ref mr, .int (-1), .int 0, .int 0, .int 0, .long 0, .int 0, .int 0, .int 0])), (mh, .inr (1, [.int 0, .ref (g.2.2 1), .int 0]))] s.heap.size = A at hD hT ⊢
  have hA : ∀ q : Nat, s.heap.size ≤ q → A q := fun q h => by rw [← hAe]; exact Or.inr h
  obtain ⟨H, hH0⟩ : ∃ H, H = s.heap := ⟨_, rfl⟩
  have hS : va_S A s.heap H [] := by rw [hH0]; exact va_S.rf
  have hP : va_P g.1 CLS [(m0, .inr (11, [.ref mh, .ref mg, .ref ms, .ref md, .ref mc, .ref mr, .int (-1), .int 0, .int 0, .int 0, .long 0, .int 0, .int 0, .int 0])), (mh, .inr (1, [.int 0, .ref (g.2.2 1), .int 0]))] H := by rw [hH0]; exact hP
  rw [← hH0]
  have hl := lv_entry ([.ref m0, .int n1]) (n := 2) (Nat.le_of_ble_eq_true rfl)
  rw [lg_entry_eq]
  generalize (lg_sl ([.ref m0, .int n1]) ++ List.replicate (2 - (lg_sl ([.ref m0, .int n1])).length) Slot.unset).toArray = ls at hl ⊢
  have hl : lv_has ls 2 [(0, .ref m0), (1, .int n1)] := hl
  refine lv_aload_n hx hb dX11_cellOf_0 rfl (lv_at hl 0 rfl) ?_
  refine lv_aload_n hx hb dX11_cellOf_1 rfl (lv_at hl 0 rfl) ?_
  refine lv_iload_n hx hb dX11_cellOf_2 rfl (lv_at hl 1 rfl) ?_
  have hPc := hP.sub (ws' := [(m0, .inr (11, [.ref mh, .ref mg, .ref ms, .ref md, .ref mc, .ref mr, .int (-1), .int 0, .int 0, .int 0, .long 0, .int 0, .int 0, .int 0])), (mh, .inr (1, [.int 0, .ref (g.2.2 1), .int 0]))]) [0, 1] rfl
  have hDc := hD.sub (ws' := [(m0, .inr (11, [.ref mh, .ref mg, .ref ms, .ref md, .ref mc, .ref mr, .int (-1), .int 0, .int 0, .int 0, .long 0, .int 0, .int 0, .int 0])), (mh, .inr (1, [.int 0, .ref (g.2.2 1), .int 0]))]) [0, 1] (by decide) rfl
  have hFc := va_free (wc := [(m0, .inr (11, [.ref mh, .ref mg, .ref ms, .ref md, .ref mc, .ref mr, .int (-1), .int 0, .int 0, .int 0, .long 0, .int 0, .int 0, .int 0])), (mh, .inr (1, [.int 0, .ref (g.2.2 1), .int 0]))]) hD hS hA [0, 1] rfl
  refine q_ci (wr := []) (va_runV (As := [.int n1]) (rest := [.ref m0]) ⟨hx, hb, hml, hown, htg⟩ (c_X11_isHero l hfl g m0 mh mg ms md mc mr n1  H.size) ⟨(qB htg k1640 k57 k1637 ok_X11_isHero rfl rfl ⟨Nat.le_of_ble_eq_true rfl, Nat.le_of_ble_eq_true rfl⟩), htg _ k1639, htg _ k23⟩ ⟨(q_pre [.ref m0, .int n1] hPc hDc hK hS hT hFc).1, va_recv hK hP (ci := 11) (q0 := 0) rfl rfl, (q_pre [.ref m0, .int n1] hPc hDc hK hS hT hFc).2⟩ rfl rfl hl.1 rfl (lv_room (Nat.le_of_ble_eq_true rfl)) dX11_cellOf_3 ⟨Nat.le_of_ble_eq_true rfl, Nat.le_of_ble_eq_true rfl⟩) hP hD hS hFc [0, 1] [] rfl rfl (by decide) (by decide) (fun r9 u9 H locs hw hP hD hS => ?_)
  try dsimp only at hw
  rcases hw with ⟨rfl, rfl⟩
  have hP : va_P g.1 CLS [(m0, .inr (11, [.ref mh, .ref mg, .ref ms, .ref md, .ref mc, .ref mr, .int (-1), .int 0, .int 0, .int 0, .long 0, .int 0, .int 0, .int 0])), (mh, .inr (1, [.int 0, .ref (g.2.2 1), .int 0]))] H := hP
  have hD : va_D A [(m0, .inr (11, [.ref mh, .ref mg, .ref ms, .ref md, .ref mc, .ref mr, .int (-1), .int 0, .int 0, .int 0, .long 0, .int 0, .int 0, .int 0])), (mh, .inr (1, [.int 0, .ref (g.2.2 1), .int 0]))] := hD
  refine W.widen (k := 0) (n := 0) (Nat.le_of_ble_eq_true rfl) (Nat.le_of_ble_eq_true rfl) ?_
  refine lv_if_eq (tgt := 13) hx hb dX11_cellOf_6 (by decide) (fun c_1 => ?_) (fun c_1 => absurd (by decide) c_1)
  refine lv_iconst (v := 1) hx hb dX11_cellOf_13 (by decide) ?_
  refine va_put (D := g.1) (ci := 11) (v := .int 1) (ty := .int) (C := RX11) (T := TX11) (N := 14) hx hb htg inG_X11 tyX11 tyX11_ok nmX11 hown hK hP hD hS 0 rfl rfl 13 (by decide) (htg _ k1353) (fun _ h9 => h9) rfl (by decide +kernel) rfl rfl (Nat.le_of_ble_eq_true rfl) dX11_cellOf_14 (fun H locs hP hD hS => ?_)
  have hP : va_P g.1 CLS [(m0, .inr (11, [.ref mh, .ref mg, .ref ms, .ref md, .ref mc, .ref mr, .int (-1), .int 0, .int 0, .int 0, .long 0, .int 0, .int 0, .int 1])), (mh, .inr (1, [.int 0, .ref (g.2.2 1), .int 0]))] H := hP
  have hD : va_D A [(m0, .inr (11, [.ref mh, .ref mg, .ref ms, .ref md, .ref mc, .ref mr, .int (-1), .int 0, .int 0, .int 0, .long 0, .int 0, .int 0, .int 1])), (mh, .inr (1, [.int 0, .ref (g.2.2 1), .int 0]))] := hD
  refine lv_aload_n hx hb dX11_cellOf_17 rfl (lv_at hl 0 rfl) ?_
  refine va_get (D := g.1) (ci := 11) (v := .int 1) (C := RX11) (T := TX11) (N := 14) hx hb htg inG_X11 hown hK hP 0 rfl rfl 13 (by decide) (htg _ k1353) (fun _ h9 => h9) rfl dX11_cellOf_18 ?_
  refine lv_if_ne (tgt := 63) hx hb dX11_cellOf_21 (by decide) (fun c_2 => ?_) (fun c_2 => absurd c_2 (by decide))
  refine lv_iconst (v := (-1)) hx hb dX11_cellOf_63 (by decide) ?_
  have hP9 := hP.sub (ws' := [(m0, .inr (11, [.ref mh, .ref mg, .ref ms, .ref md, .ref mc, .ref mr, .int (-1), .int 0, .int 0, .int 0, .long 0, .int 0, .int 0, .int 1]))]) [0] rfl
  have hD9 := hD.sub (ws' := [(m0, .inr (11, [.ref mh, .ref mg, .ref ms, .ref md, .ref mc, .ref mr, .int (-1), .int 0, .int 0, .int 0, .long 0, .int 0, .int 0, .int 1]))]) [0] (by decide) rfl
  refine W.widen (k := 20) (n := 100) (Nat.le_of_ble_eq_true rfl) (Nat.le_of_ble_eq_true rfl) ?_
  exact W.iret (v := (-1)) hx hb hr (fun t ht hW => ⟨⟨(-1), [(m0, .inr (11, [.ref mh, .ref mg, .ref ms, .ref md, .ref mc, .ref mr, .int (-1), .int 0, .int 0, .int 0, .long 0, .int 0, .int 0, .int 1]))], rfl, ⟨rfl, rfl⟩, by rw [ht]; exact hP9, va_K.moved hW.alike hK, hD9⟩, hS.F ht⟩) hS.2.2 dX11_cellOf_64

set_option maxHeartbeats 4000000 in
set_option maxRecDepth 100000 in
theorem c_m_numberOf (l : Launch) (hfl : l.stackTraces = false) (g : GP) (m0 : Nat) (mh : Nat) (mg : Nat) (ms : Nat) (md : Nat) (mc : Nat) (mr : Nat) (n1 : Int32) (n2 : Int32)  : CI l yX11_numberOf (wG yX11_numberOf cX11_numberOf 3 (Option.some Jvm.ClassFile.FieldType.int)) (LV 4 20 100) g [.ref m0, .int n1, .int n2] ([(m0, .inr (11, [.ref mh, .ref mg, .ref ms, .ref md, .ref mc, .ref mr, .int (-1), .int 0, .int 0, .int 0, .long 0, .int 0, .int 0, .int 0])), (mh, .inr (1, [.int 0, .ref (g.2.2 1), .int 0]))]) (fun (r : Int32) (u : va_W) => r = (-1) ∧ u = [(m0, .inr (11, [.ref mh, .ref mg, .ref ms, .ref md, .ref mc, .ref mr, .int (-1), .int 0, .int 0, .int 0, .long 0, .int 0, .int 0, .int 1]))]) := by
  intro sz
  refine Met.ofW (cc := cX11_numberOf) (maxL := 3) (ret := (Option.some Jvm.ClassFile.FieldType.int)) (by decide) rfl ?_
  intro p e s m args below meth c s₁ B hml hv
  obtain ⟨rfl, hsz, hP, hK, hD0, hT0⟩ := hv
  have hx := B.exec
  have hb := B.bytes
  have hr := B.returns
  have hts := atoms_spec (ws := (wG yX11_numberOf cX11_numberOf 3 (Option.some Jvm.ClassFile.FieldType.int))) B.pre
  have htg : ∀ w ∈ G9, w.before _ s = true := fun w h => hts w (List.mem_cons_of_mem _ h)
  have hown : s.vm.findClass "HeroTableModel" = some m.cls := findClass_of_methodNamed B.named
  have hlocks := B.notSynchronized
  subst hsz
  have hD := hD0.self (sz := s.heap.size)
  have hT := hT0
  clear hT0
  generalize hAe : va_A [(m0, .inr (11, [.ref mh, .ref mg, .ref ms, .ref md, .ref mc, .ref mr, .int (-1), .int 0, .int 0, .int 0, .long 0, .int 0, .int 0, .int 0])), (mh, .inr (1, [.int 0, .ref (g.2.2 1), .int 0]))] s.heap.size = A at hD hT ⊢
  have hA : ∀ q : Nat, s.heap.size ≤ q → A q := fun q h => by rw [← hAe]; exact Or.inr h
  obtain ⟨H, hH0⟩ : ∃ H, H = s.heap := ⟨_, rfl⟩
  have hS : va_S A s.heap H [] := by rw [hH0]; exact va_S.rf
  have hP : va_P g.1 CLS [(m0, .inr (11, [.ref mh, .ref mg, .ref ms, .ref md, .ref mc, .ref mr, .int (-1), .int 0, .int 0, .int 0, .long 0, .int 0, .int 0, .int 0])), (mh, .inr (1, [.int 0, .ref (g.2.2 1), .int 0]))] H := by rw [hH0]; exact hP
  rw [← hH0]
  have hl := lv_entry ([.ref m0, .int n1, .int n2]) (n := 3) (Nat.le_of_ble_eq_true rfl)
  rw [lg_entry_eq]
  generalize (lg_sl ([.ref m0, .int n1, .int n2]) ++ List.replicate (3 - (lg_sl ([.ref m0, .int n1, .int n2])).length) Slot.unset).toArray = ls at hl ⊢
  have hl : lv_has ls 3 [(0, .ref m0), (1, .int n1), (2, .int n2)] := hl
  refine lv_aload_n hx hb dX11_numberOf_0 rfl (lv_at hl 0 rfl) ?_
  refine lv_aload_n hx hb dX11_numberOf_1 rfl (lv_at hl 0 rfl) ?_
  refine lv_iload_n hx hb dX11_numberOf_2 rfl (lv_at hl 1 rfl) ?_
  have hPc := hP.sub (ws' := [(m0, .inr (11, [.ref mh, .ref mg, .ref ms, .ref md, .ref mc, .ref mr, .int (-1), .int 0, .int 0, .int 0, .long 0, .int 0, .int 0, .int 0])), (mh, .inr (1, [.int 0, .ref (g.2.2 1), .int 0]))]) [0, 1] rfl
  have hDc := hD.sub (ws' := [(m0, .inr (11, [.ref mh, .ref mg, .ref ms, .ref md, .ref mc, .ref mr, .int (-1), .int 0, .int 0, .int 0, .long 0, .int 0, .int 0, .int 0])), (mh, .inr (1, [.int 0, .ref (g.2.2 1), .int 0]))]) [0, 1] (by decide) rfl
  have hFc := va_free (wc := [(m0, .inr (11, [.ref mh, .ref mg, .ref ms, .ref md, .ref mc, .ref mr, .int (-1), .int 0, .int 0, .int 0, .long 0, .int 0, .int 0, .int 0])), (mh, .inr (1, [.int 0, .ref (g.2.2 1), .int 0]))]) hD hS hA [0, 1] rfl
  refine q_ci (wr := []) (va_runV (As := [.int n1]) (rest := [.ref m0]) ⟨hx, hb, hml, hown, htg⟩ (c_X11_isHero l hfl g m0 mh mg ms md mc mr n1  H.size) ⟨(qB htg k1640 k57 k1637 ok_X11_isHero rfl rfl ⟨Nat.le_of_ble_eq_true rfl, Nat.le_of_ble_eq_true rfl⟩), htg _ k1639, htg _ k23⟩ ⟨(q_pre [.ref m0, .int n1] hPc hDc hK hS hT hFc).1, va_recv hK hP (ci := 11) (q0 := 0) rfl rfl, (q_pre [.ref m0, .int n1] hPc hDc hK hS hT hFc).2⟩ rfl rfl hl.1 rfl (lv_room (Nat.le_of_ble_eq_true rfl)) dX11_numberOf_3 ⟨Nat.le_of_ble_eq_true rfl, Nat.le_of_ble_eq_true rfl⟩) hP hD hS hFc [0, 1] [] rfl rfl (by decide) (by decide) (fun r9 u9 H locs hw hP hD hS => ?_)
  try dsimp only at hw
  rcases hw with ⟨rfl, rfl⟩
  have hP : va_P g.1 CLS [(m0, .inr (11, [.ref mh, .ref mg, .ref ms, .ref md, .ref mc, .ref mr, .int (-1), .int 0, .int 0, .int 0, .long 0, .int 0, .int 0, .int 0])), (mh, .inr (1, [.int 0, .ref (g.2.2 1), .int 0]))] H := hP
  have hD : va_D A [(m0, .inr (11, [.ref mh, .ref mg, .ref ms, .ref md, .ref mc, .ref mr, .int (-1), .int 0, .int 0, .int 0, .long 0, .int 0, .int 0, .int 0])), (mh, .inr (1, [.int 0, .ref (g.2.2 1), .int 0]))] := hD
  refine W.widen (k := 0) (n := 0) (Nat.le_of_ble_eq_true rfl) (Nat.le_of_ble_eq_true rfl) ?_
  refine lv_if_ne (tgt := 13) hx hb dX11_numberOf_6 (by decide) (fun c_1 => absurd (by decide) c_1) (fun c_1 => ?_)
  refine lv_iconst (v := 1) hx hb dX11_numberOf_9 (by decide) ?_
  refine lv_goto (tgt := 27) hx hb dX11_numberOf_10 (by decide) ?_
  refine va_put (D := g.1) (ci := 11) (v := .int 1) (ty := .int) (C := RX11) (T := TX11) (N := 14) hx hb htg inG_X11 tyX11 tyX11_ok nmX11 hown hK hP hD hS 0 rfl rfl 13 (by decide) (htg _ k1353) (fun _ h9 => h9) rfl (by decide +kernel) rfl rfl (Nat.le_of_ble_eq_true rfl) dX11_numberOf_27 (fun H locs hP hD hS => ?_)
  have hP : va_P g.1 CLS [(m0, .inr (11, [.ref mh, .ref mg, .ref ms, .ref md, .ref mc, .ref mr, .int (-1), .int 0, .int 0, .int 0, .long 0, .int 0, .int 0, .int 1])), (mh, .inr (1, [.int 0, .ref (g.2.2 1), .int 0]))] H := hP
  have hD : va_D A [(m0, .inr (11, [.ref mh, .ref mg, .ref ms, .ref md, .ref mc, .ref mr, .int (-1), .int 0, .int 0, .int 0, .long 0, .int 0, .int 0, .int 1])), (mh, .inr (1, [.int 0, .ref (g.2.2 1), .int 0]))] := hD
  refine lv_aload_n hx hb dX11_numberOf_30 rfl (lv_at hl 0 rfl) ?_
  refine va_get (D := g.1) (ci := 11) (v := .int 1) (C := RX11) (T := TX11) (N := 14) hx hb htg inG_X11 hown hK hP 0 rfl rfl 13 (by decide) (htg _ k1353) (fun _ h9 => h9) rfl dX11_numberOf_31 ?_
  refine lv_if_ne (tgt := 58) hx hb dX11_numberOf_34 (by decide) (fun c_2 => ?_) (fun c_2 => absurd c_2 (by decide))
  refine lv_iconst (v := (-1)) hx hb dX11_numberOf_58 (by decide) ?_
  have hP9 := hP.sub (ws' := [(m0, .inr (11, [.ref mh, .ref mg, .ref ms, .ref md, .ref mc, .ref mr, .int (-1), .int 0, .int 0, .int 0, .long 0, .int 0, .int 0, .int 1]))]) [0] rfl
  have hD9 := hD.sub (ws' := [(m0, .inr (11, [.ref mh, .ref mg, .ref ms, .ref md, .ref mc, .ref mr, .int (-1), .int 0, .int 0, .int 0, .long 0, .int 0, .int 0, .int 1]))]) [0] (by decide) rfl
  refine W.widen (k := 20) (n := 100) (Nat.le_of_ble_eq_true rfl) (Nat.le_of_ble_eq_true rfl) ?_
  exact W.iret (v := (-1)) hx hb hr (fun t ht hW => ⟨⟨(-1), [(m0, .inr (11, [.ref mh, .ref mg, .ref ms, .ref md, .ref mc, .ref mr, .int (-1), .int 0, .int 0, .int 0, .long 0, .int 0, .int 0, .int 1]))], rfl, ⟨rfl, rfl⟩, by rw [ht]; exact hP9, va_K.moved hW.alike hK, hD9⟩, hS.F ht⟩) hS.2.2 dX11_numberOf_59

set_option maxHeartbeats 4000000 in
set_option maxRecDepth 100000 in
theorem c_m_attack (l : Launch) (hfl : l.stackTraces = false) (g : GP) (m0 : Nat) (mh : Nat) (mg : Nat) (ms : Nat) (md : Nat) (mc : Nat) (mr : Nat) (n1 : Int32)  : CI l yX11_attack (wG yX11_attack cX11_attack 2 (Option.some Jvm.ClassFile.FieldType.int)) (LV 4 20 100) g [.ref m0, .int n1] ([(m0, .inr (11, [.ref mh, .ref mg, .ref ms, .ref md, .ref mc, .ref mr, .int (-1), .int 0, .int 0, .int 0, .long 0, .int 0, .int 0, .int 0])), (mh, .inr (1, [.int 0, .ref (g.2.2 1), .int 0]))]) (fun (r : Int32) (u : va_W) => r = (-1) ∧ u = [(m0, .inr (11, [.ref mh, .ref mg, .ref ms, .ref md, .ref mc, .ref mr, .int (-1), .int 0, .int 0, .int 0, .long 0, .int 0, .int 0, .int 1]))]) := by
  intro sz
  refine Met.ofW (cc := cX11_attack) (maxL := 2) (ret := (Option.some Jvm.ClassFile.FieldType.int)) (by decide) rfl ?_
  intro p e s m args below meth c s₁ B hml hv
  obtain ⟨rfl, hsz, hP, hK, hD0, hT0⟩ := hv
  have hx := B.exec
  have hb := B.bytes
  have hr := B.returns
  have hts := atoms_spec (ws := (wG yX11_attack cX11_attack 2 (Option.some Jvm.ClassFile.FieldType.int))) B.pre
  have htg : ∀ w ∈ G9, w.before _ s = true := fun w h => hts w (List.mem_cons_of_mem _ h)
  have hown : s.vm.findClass "HeroTableModel" = some m.cls := findClass_of_methodNamed B.named
  have hlocks := B.notSynchronized
  subst hsz
  have hD := hD0.self (sz := s.heap.size)
  have hT := hT0
  clear hT0
  generalize hAe : va_A [(m0, .inr (11, [.ref mh, .ref mg, .ref ms, .ref md, .ref mc, .ref mr, .int (-1), .int 0, .int 0, .int 0, .long 0, .int 0, .int 0, .int 0])), (mh, .inr (1, [.int 0, .ref (g.2.2 1), .int 0]))] s.heap.size = A at hD hT ⊢
  have hA : ∀ q : Nat, s.heap.size ≤ q → A q := fun q h => by rw [← hAe]; exact Or.inr h
  obtain ⟨H, hH0⟩ : ∃ H, H = s.heap := ⟨_, rfl⟩
  have hS : va_S A s.heap H [] := by rw [hH0]; exact va_S.rf
  have hP : va_P g.1 CLS [(m0, .inr (11, [.ref mh, .ref mg, .ref ms, .ref md, .ref mc, .ref mr, .int (-1), .int 0, .int 0, .int 0, .long 0, .int 0, .int 0, .int 0])), (mh, .inr (1, [.int 0, .ref (g.2.2 1), .int 0]))] H := by rw [hH0]; exact hP
  rw [← hH0]
  have hl := lv_entry ([.ref m0, .int n1]) (n := 2) (Nat.le_of_ble_eq_true rfl)
  rw [lg_entry_eq]
  generalize (lg_sl ([.ref m0, .int n1]) ++ List.replicate (2 - (lg_sl ([.ref m0, .int n1])).length) Slot.unset).toArray = ls at hl ⊢
  have hl : lv_has ls 2 [(0, .ref m0), (1, .int n1)] := hl
  refine lv_aload_n hx hb dX11_attack_0 rfl (lv_at hl 0 rfl) ?_
  refine lv_aload_n hx hb dX11_attack_1 rfl (lv_at hl 0 rfl) ?_
  refine lv_iload_n hx hb dX11_attack_2 rfl (lv_at hl 1 rfl) ?_
  have hPc := hP.sub (ws' := [(m0, .inr (11, [.ref mh, .ref mg, .ref ms, .ref md, .ref mc, .ref mr, .int (-1), .int 0, .int 0, .int 0, .long 0, .int 0, .int 0, .int 0])), (mh, .inr (1, [.int 0, .ref (g.2.2 1), .int 0]))]) [0, 1] rfl
  have hDc := hD.sub (ws' := [(m0, .inr (11, [.ref mh, .ref mg, .ref ms, .ref md, .ref mc, .ref mr, .int (-1), .int 0, .int 0, .int 0, .long 0, .int 0, .int 0, .int 0])), (mh, .inr (1, [.int 0, .ref (g.2.2 1), .int 0]))]) [0, 1] (by decide) rfl
  have hFc := va_free (wc := [(m0, .inr (11, [.ref mh, .ref mg, .ref ms, .ref md, .ref mc, .ref mr, .int (-1), .int 0, .int 0, .int 0, .long 0, .int 0, .int 0, .int 0])), (mh, .inr (1, [.int 0, .ref (g.2.2 1), .int 0]))]) hD hS hA [0, 1] rfl
  refine q_ci (wr := []) (va_runV (As := [.int n1]) (rest := [.ref m0]) ⟨hx, hb, hml, hown, htg⟩ (c_X11_isHero l hfl g m0 mh mg ms md mc mr n1  H.size) ⟨(qB htg k1640 k57 k1637 ok_X11_isHero rfl rfl ⟨Nat.le_of_ble_eq_true rfl, Nat.le_of_ble_eq_true rfl⟩), htg _ k1639, htg _ k23⟩ ⟨(q_pre [.ref m0, .int n1] hPc hDc hK hS hT hFc).1, va_recv hK hP (ci := 11) (q0 := 0) rfl rfl, (q_pre [.ref m0, .int n1] hPc hDc hK hS hT hFc).2⟩ rfl rfl hl.1 rfl (lv_room (Nat.le_of_ble_eq_true rfl)) dX11_attack_3 ⟨Nat.le_of_ble_eq_true rfl, Nat.le_of_ble_eq_true rfl⟩) hP hD hS hFc [0, 1] [] rfl rfl (by decide) (by decide) (fun r9 u9 H locs hw hP hD hS => ?_)
  try dsimp only at hw
  rcases hw with ⟨rfl, rfl⟩
  have hP : va_P g.1 CLS [(m0, .inr (11, [.ref mh, .ref mg, .ref ms, .ref md, .ref mc, .ref mr, .int (-1), .int 0, .int 0, .int 0, .long 0, .int 0, .int 0, .int 0])), (mh, .inr (1, [.int 0, .ref (g.2.2 1), .int 0]))] H := hP
  have hD : va_D A [(m0, .inr (11, [.ref mh, .ref mg, .ref ms, .ref md, .ref mc, .ref mr, .int (-1), .int 0, .int 0, .int 0, .long 0, .int 0, .int 0, .int 0])), (mh, .inr (1, [.int 0, .ref (g.2.2 1), .int 0]))] := hD
  refine W.widen (k := 0) (n := 0) (Nat.le_of_ble_eq_true rfl) (Nat.le_of_ble_eq_true rfl) ?_
  refine lv_if_ne (tgt := 13) hx hb dX11_attack_6 (by decide) (fun c_1 => absurd (by decide) c_1) (fun c_1 => ?_)
  refine lv_iconst (v := 1) hx hb dX11_attack_9 (by decide) ?_
  refine lv_goto (tgt := 73) hx hb dX11_attack_10 (by decide) ?_
  refine va_put (D := g.1) (ci := 11) (v := .int 1) (ty := .int) (C := RX11) (T := TX11) (N := 14) hx hb htg inG_X11 tyX11 tyX11_ok nmX11 hown hK hP hD hS 0 rfl rfl 13 (by decide) (htg _ k1353) (fun _ h9 => h9) rfl (by decide +kernel) rfl rfl (Nat.le_of_ble_eq_true rfl) dX11_attack_73 (fun H locs hP hD hS => ?_)
  have hP : va_P g.1 CLS [(m0, .inr (11, [.ref mh, .ref mg, .ref ms, .ref md, .ref mc, .ref mr, .int (-1), .int 0, .int 0, .int 0, .long 0, .int 0, .int 0, .int 1])), (mh, .inr (1, [.int 0, .ref (g.2.2 1), .int 0]))] H := hP
  have hD : va_D A [(m0, .inr (11, [.ref mh, .ref mg, .ref ms, .ref md, .ref mc, .ref mr, .int (-1), .int 0, .int 0, .int 0, .long 0, .int 0, .int 0, .int 1])), (mh, .inr (1, [.int 0, .ref (g.2.2 1), .int 0]))] := hD
  refine lv_aload_n hx hb dX11_attack_76 rfl (lv_at hl 0 rfl) ?_
  refine va_get (D := g.1) (ci := 11) (v := .int 1) (C := RX11) (T := TX11) (N := 14) hx hb htg inG_X11 hown hK hP 0 rfl rfl 13 (by decide) (htg _ k1353) (fun _ h9 => h9) rfl dX11_attack_77 ?_
  refine lv_if_le (tgt := 85) hx hb dX11_attack_80 (by decide) (fun c_2 => absurd c_2 (by decide)) (fun c_2 => ?_)
  refine lv_iconst (v := (-1)) hx hb dX11_attack_83 (by decide) ?_
  have hP9 := hP.sub (ws' := [(m0, .inr (11, [.ref mh, .ref mg, .ref ms, .ref md, .ref mc, .ref mr, .int (-1), .int 0, .int 0, .int 0, .long 0, .int 0, .int 0, .int 1]))]) [0] rfl
  have hD9 := hD.sub (ws' := [(m0, .inr (11, [.ref mh, .ref mg, .ref ms, .ref md, .ref mc, .ref mr, .int (-1), .int 0, .int 0, .int 0, .long 0, .int 0, .int 0, .int 1]))]) [0] (by decide) rfl
  refine W.widen (k := 20) (n := 100) (Nat.le_of_ble_eq_true rfl) (Nat.le_of_ble_eq_true rfl) ?_
  exact W.iret (v := (-1)) hx hb hr (fun t ht hW => ⟨⟨(-1), [(m0, .inr (11, [.ref mh, .ref mg, .ref ms, .ref md, .ref mc, .ref mr, .int (-1), .int 0, .int 0, .int 0, .long 0, .int 0, .int 0, .int 1]))], rfl, ⟨rfl, rfl⟩, by rw [ht]; exact hP9, va_K.moved hW.alike hK, hD9⟩, hS.F ht⟩) hS.2.2 dX11_attack_84

set_option maxHeartbeats 4000000 in
set_option maxRecDepth 100000 in
theorem c_m_slots (l : Launch) (hfl : l.stackTraces = false) (g : GP) (m0 : Nat) (mh : Nat) (mg : Nat) (ms : Nat) (md : Nat) (mc : Nat) (mr : Nat) (n1 : Int32)  : CI l yX11_slots (wG yX11_slots cX11_slots 2 (Option.some Jvm.ClassFile.FieldType.int)) (LV 4 20 100) g [.ref m0, .int n1] ([(m0, .inr (11, [.ref mh, .ref mg, .ref ms, .ref md, .ref mc, .ref mr, .int (-1), .int 0, .int 0, .int 0, .long 0, .int 0, .int 0, .int 0])), (mh, .inr (1, [.int 0, .ref (g.2.2 1), .int 0]))]) (fun (r : Int32) (u : va_W) => r = (-1) ∧ u = [(m0, .inr (11, [.ref mh, .ref mg, .ref ms, .ref md, .ref mc, .ref mr, .int (-1), .int 0, .int 0, .int 0, .long 0, .int 0, .int 0, .int 1]))]) := by
  intro sz
  refine Met.ofW (cc := cX11_slots) (maxL := 2) (ret := (Option.some Jvm.ClassFile.FieldType.int)) (by decide) rfl ?_
  intro p e s m args below meth c s₁ B hml hv
  obtain ⟨rfl, hsz, hP, hK, hD0, hT0⟩ := hv
  have hx := B.exec
  have hb := B.bytes
  have hr := B.returns
  have hts := atoms_spec (ws := (wG yX11_slots cX11_slots 2 (Option.some Jvm.ClassFile.FieldType.int))) B.pre
  have htg : ∀ w ∈ G9, w.before _ s = true := fun w h => hts w (List.mem_cons_of_mem _ h)
  have hown : s.vm.findClass "HeroTableModel" = some m.cls := findClass_of_methodNamed B.named
  have hlocks := B.notSynchronized
  subst hsz
  have hD := hD0.self (sz := s.heap.size)
  have hT := hT0
  clear hT0
  generalize hAe : va_A [(m0, .inr (11, [.ref mh, .ref mg, .ref ms, .ref md, .ref mc, .ref mr, .int (-1), .int 0, .int 0, .int 0, .long 0, .int 0, .int 0, .int 0])), (mh, .inr (1, [.int 0, .ref (g.2.2 1), .int 0]))] s.heap.size = A at hD hT ⊢
  have hA : ∀ q : Nat, s.heap.size ≤ q → A q := fun q h => by rw [← hAe]; exact Or.inr h
  obtain ⟨H, hH0⟩ : ∃ H, H = s.heap := ⟨_, rfl⟩
  have hS : va_S A s.heap H [] := by rw [hH0]; exact va_S.rf
  have hP : va_P g.1 CLS [(m0, .inr (11, [.ref mh, .ref mg, .ref ms, .ref md, .ref mc, .ref mr, .int (-1), .int 0, .int 0, .int 0, .long 0, .int 0, .int 0, .int 0])), (mh, .inr (1, [.int 0, .ref (g.2.2 1), .int 0]))] H := by rw [hH0]; exact hP
  rw [← hH0]
  have hl := lv_entry ([.ref m0, .int n1]) (n := 2) (Nat.le_of_ble_eq_true rfl)
  rw [lg_entry_eq]
  generalize (lg_sl ([.ref m0, .int n1]) ++ List.replicate (2 - (lg_sl ([.ref m0, .int n1])).length) Slot.unset).toArray = ls at hl ⊢
  have hl : lv_has ls 2 [(0, .ref m0), (1, .int n1)] := hl
  refine lv_aload_n hx hb dX11_slots_0 rfl (lv_at hl 0 rfl) ?_
  refine lv_aload_n hx hb dX11_slots_1 rfl (lv_at hl 0 rfl) ?_
  refine lv_iload_n hx hb dX11_slots_2 rfl (lv_at hl 1 rfl) ?_
  have hPc := hP.sub (ws' := [(m0, .inr (11, [.ref mh, .ref mg, .ref ms, .ref md, .ref mc, .ref mr, .int (-1), .int 0, .int 0, .int 0, .long 0, .int 0, .int 0, .int 0])), (mh, .inr (1, [.int 0, .ref (g.2.2 1), .int 0]))]) [0, 1] rfl
  have hDc := hD.sub (ws' := [(m0, .inr (11, [.ref mh, .ref mg, .ref ms, .ref md, .ref mc, .ref mr, .int (-1), .int 0, .int 0, .int 0, .long 0, .int 0, .int 0, .int 0])), (mh, .inr (1, [.int 0, .ref (g.2.2 1), .int 0]))]) [0, 1] (by decide) rfl
  have hFc := va_free (wc := [(m0, .inr (11, [.ref mh, .ref mg, .ref ms, .ref md, .ref mc, .ref mr, .int (-1), .int 0, .int 0, .int 0, .long 0, .int 0, .int 0, .int 0])), (mh, .inr (1, [.int 0, .ref (g.2.2 1), .int 0]))]) hD hS hA [0, 1] rfl
  refine q_ci (wr := []) (va_runV (As := [.int n1]) (rest := [.ref m0]) ⟨hx, hb, hml, hown, htg⟩ (c_X11_isHero l hfl g m0 mh mg ms md mc mr n1  H.size) ⟨(qB htg k1640 k57 k1637 ok_X11_isHero rfl rfl ⟨Nat.le_of_ble_eq_true rfl, Nat.le_of_ble_eq_true rfl⟩), htg _ k1639, htg _ k23⟩ ⟨(q_pre [.ref m0, .int n1] hPc hDc hK hS hT hFc).1, va_recv hK hP (ci := 11) (q0 := 0) rfl rfl, (q_pre [.ref m0, .int n1] hPc hDc hK hS hT hFc).2⟩ rfl rfl hl.1 rfl (lv_room (Nat.le_of_ble_eq_true rfl)) dX11_slots_3 ⟨Nat.le_of_ble_eq_true rfl, Nat.le_of_ble_eq_true rfl⟩) hP hD hS hFc [0, 1] [] rfl rfl (by decide) (by decide) (fun r9 u9 H locs hw hP hD hS => ?_)
  try dsimp only at hw
  rcases hw with ⟨rfl, rfl⟩
  have hP : va_P g.1 CLS [(m0, .inr (11, [.ref mh, .ref mg, .ref ms, .ref md, .ref mc, .ref mr, .int (-1), .int 0, .int 0, .int 0, .long 0, .int 0, .int 0, .int 0])), (mh, .inr (1, [.int 0, .ref (g.2.2 1), .int 0]))] H := hP
  have hD : va_D A [(m0, .inr (11, [.ref mh, .ref mg, .ref ms, .ref md, .ref mc, .ref mr, .int (-1), .int 0, .int 0, .int 0, .long 0, .int 0, .int 0, .int 0])), (mh, .inr (1, [.int 0, .ref (g.2.2 1), .int 0]))] := hD
  refine W.widen (k := 0) (n := 0) (Nat.le_of_ble_eq_true rfl) (Nat.le_of_ble_eq_true rfl) ?_
  refine lv_if_eq (tgt := 13) hx hb dX11_slots_6 (by decide) (fun c_1 => ?_) (fun c_1 => absurd (by decide) c_1)
  refine lv_iconst (v := 1) hx hb dX11_slots_13 (by decide) ?_
  refine va_put (D := g.1) (ci := 11) (v := .int 1) (ty := .int) (C := RX11) (T := TX11) (N := 14) hx hb htg inG_X11 tyX11 tyX11_ok nmX11 hown hK hP hD hS 0 rfl rfl 13 (by decide) (htg _ k1353) (fun _ h9 => h9) rfl (by decide +kernel) rfl rfl (Nat.le_of_ble_eq_true rfl) dX11_slots_14 (fun H locs hP hD hS => ?_)
  have hP : va_P g.1 CLS [(m0, .inr (11, [.ref mh, .ref mg, .ref ms, .ref md, .ref mc, .ref mr, .int (-1), .int 0, .int 0, .int 0, .long 0, .int 0, .int 0, .int 1])), (mh, .inr (1, [.int 0, .ref (g.2.2 1), .int 0]))] H := hP
  have hD : va_D A [(m0, .inr (11, [.ref mh, .ref mg, .ref ms, .ref md, .ref mc, .ref mr, .int (-1), .int 0, .int 0, .int 0, .long 0, .int 0, .int 0, .int 1])), (mh, .inr (1, [.int 0, .ref (g.2.2 1), .int 0]))] := hD
  refine lv_aload_n hx hb dX11_slots_17 rfl (lv_at hl 0 rfl) ?_
  refine va_get (D := g.1) (ci := 11) (v := .int 1) (C := RX11) (T := TX11) (N := 14) hx hb htg inG_X11 hown hK hP 0 rfl rfl 13 (by decide) (htg _ k1353) (fun _ h9 => h9) rfl dX11_slots_18 ?_
  refine lv_if_ne (tgt := 43) hx hb dX11_slots_21 (by decide) (fun c_2 => ?_) (fun c_2 => absurd c_2 (by decide))
  refine lv_iconst (v := (-1)) hx hb dX11_slots_43 (by decide) ?_
  have hP9 := hP.sub (ws' := [(m0, .inr (11, [.ref mh, .ref mg, .ref ms, .ref md, .ref mc, .ref mr, .int (-1), .int 0, .int 0, .int 0, .long 0, .int 0, .int 0, .int 1]))]) [0] rfl
  have hD9 := hD.sub (ws' := [(m0, .inr (11, [.ref mh, .ref mg, .ref ms, .ref md, .ref mc, .ref mr, .int (-1), .int 0, .int 0, .int 0, .long 0, .int 0, .int 0, .int 1]))]) [0] (by decide) rfl
  refine W.widen (k := 20) (n := 100) (Nat.le_of_ble_eq_true rfl) (Nat.le_of_ble_eq_true rfl) ?_
  exact W.iret (v := (-1)) hx hb hr (fun t ht hW => ⟨⟨(-1), [(m0, .inr (11, [.ref mh, .ref mg, .ref ms, .ref md, .ref mc, .ref mr, .int (-1), .int 0, .int 0, .int 0, .long 0, .int 0, .int 0, .int 1]))], rfl, ⟨rfl, rfl⟩, by rw [ht]; exact hP9, va_K.moved hW.alike hK, hD9⟩, hS.F ht⟩) hS.2.2 dX11_slots_44

set_option maxHeartbeats 4000000 in
set_option maxRecDepth 100000 in
theorem c_m_sees (l : Launch) (hfl : l.stackTraces = false) (g : GP) (m0 : Nat) (mh : Nat) (mg : Nat) (ms : Nat) (md : Nat) (mc : Nat) (mr : Nat) (n1 : Int32) (n2 : Int32) (n3 : Int32)  : CI l yX11_sees (wG yX11_sees cX11_sees 4 (Option.some Jvm.ClassFile.FieldType.boolean)) (LV 4 20 100) g [.ref m0, .int n1, .int n2, .int n3] ([(m0, .inr (11, [.ref mh, .ref mg, .ref ms, .ref md, .ref mc, .ref mr, .int (-1), .int 0, .int 0, .int 0, .long 0, .int 0, .int 0, .int 0])), (mh, .inr (1, [.int 0, .ref (g.2.2 1), .int 0]))]) (fun (r : Int32) (u : va_W) => r = 0 ∧ u = [(m0, .inr (11, [.ref mh, .ref mg, .ref ms, .ref md, .ref mc, .ref mr, .int (-1), .int 0, .int 0, .int 0, .long 0, .int 0, .int 0, .int 1]))]) := by
  intro sz
  refine Met.ofW (cc := cX11_sees) (maxL := 4) (ret := (Option.some Jvm.ClassFile.FieldType.boolean)) (by decide) rfl ?_
  intro p e s m args below meth c s₁ B hml hv
  obtain ⟨rfl, hsz, hP, hK, hD0, hT0⟩ := hv
  have hx := B.exec
  have hb := B.bytes
  have hr := B.returns
  have hts := atoms_spec (ws := (wG yX11_sees cX11_sees 4 (Option.some Jvm.ClassFile.FieldType.boolean))) B.pre
  have htg : ∀ w ∈ G9, w.before _ s = true := fun w h => hts w (List.mem_cons_of_mem _ h)
  have hown : s.vm.findClass "HeroTableModel" = some m.cls := findClass_of_methodNamed B.named
  have hlocks := B.notSynchronized
  subst hsz
  have hD := hD0.self (sz := s.heap.size)
  have hT := hT0
  clear hT0
  generalize hAe : va_A [(m0, .inr (11, [.ref mh, .ref mg, .ref ms, .ref md, .ref mc, .ref mr, .int (-1), .int 0, .int 0, .int 0, .long 0, .int 0, .int 0, .int 0])), (mh, .inr (1, [.int 0, .ref (g.2.2 1), .int 0]))] s.heap.size = A at hD hT ⊢
  have hA : ∀ q : Nat, s.heap.size ≤ q → A q := fun q h => by rw [← hAe]; exact Or.inr h
  obtain ⟨H, hH0⟩ : ∃ H, H = s.heap := ⟨_, rfl⟩
  have hS : va_S A s.heap H [] := by rw [hH0]; exact va_S.rf
  have hP : va_P g.1 CLS [(m0, .inr (11, [.ref mh, .ref mg, .ref ms, .ref md, .ref mc, .ref mr, .int (-1), .int 0, .int 0, .int 0, .long 0, .int 0, .int 0, .int 0])), (mh, .inr (1, [.int 0, .ref (g.2.2 1), .int 0]))] H := by rw [hH0]; exact hP
  rw [← hH0]
  have hl := lv_entry ([.ref m0, .int n1, .int n2, .int n3]) (n := 4) (Nat.le_of_ble_eq_true rfl)
  rw [lg_entry_eq]
  generalize (lg_sl ([.ref m0, .int n1, .int n2, .int n3]) ++ List.replicate (4 - (lg_sl ([.ref m0, .int n1, .int n2, .int n3])).length) Slot.unset).toArray = ls at hl ⊢
  have hl : lv_has ls 4 [(0, .ref m0), (1, .int n1), (2, .int n2), (3, .int n3)] := hl
  refine lv_aload_n hx hb dX11_sees_0 rfl (lv_at hl 0 rfl) ?_
  refine lv_aload_n hx hb dX11_sees_1 rfl (lv_at hl 0 rfl) ?_
  refine lv_iload_n hx hb dX11_sees_2 rfl (lv_at hl 1 rfl) ?_
  have hPc := hP.sub (ws' := [(m0, .inr (11, [.ref mh, .ref mg, .ref ms, .ref md, .ref mc, .ref mr, .int (-1), .int 0, .int 0, .int 0, .long 0, .int 0, .int 0, .int 0])), (mh, .inr (1, [.int 0, .ref (g.2.2 1), .int 0]))]) [0, 1] rfl
  have hDc := hD.sub (ws' := [(m0, .inr (11, [.ref mh, .ref mg, .ref ms, .ref md, .ref mc, .ref mr, .int (-1), .int 0, .int 0, .int 0, .long 0, .int 0, .int 0, .int 0])), (mh, .inr (1, [.int 0, .ref (g.2.2 1), .int 0]))]) [0, 1] (by decide) rfl
  have hFc := va_free (wc := [(m0, .inr (11, [.ref mh, .ref mg, .ref ms, .ref md, .ref mc, .ref mr, .int (-1), .int 0, .int 0, .int 0, .long 0, .int 0, .int 0, .int 0])), (mh, .inr (1, [.int 0, .ref (g.2.2 1), .int 0]))]) hD hS hA [0, 1] rfl
  refine q_ci (wr := []) (va_runV (As := [.int n1]) (rest := [.ref m0]) ⟨hx, hb, hml, hown, htg⟩ (c_X11_isHero l hfl g m0 mh mg ms md mc mr n1  H.size) ⟨(qB htg k1640 k57 k1637 ok_X11_isHero rfl rfl ⟨Nat.le_of_ble_eq_true rfl, Nat.le_of_ble_eq_true rfl⟩), htg _ k1639, htg _ k23⟩ ⟨(q_pre [.ref m0, .int n1] hPc hDc hK hS hT hFc).1, va_recv hK hP (ci := 11) (q0 := 0) rfl rfl, (q_pre [.ref m0, .int n1] hPc hDc hK hS hT hFc).2⟩ rfl rfl hl.1 rfl (lv_room (Nat.le_of_ble_eq_true rfl)) dX11_sees_3 ⟨Nat.le_of_ble_eq_true rfl, Nat.le_of_ble_eq_true rfl⟩) hP hD hS hFc [0, 1] [] rfl rfl (by decide) (by decide) (fun r9 u9 H locs hw hP hD hS => ?_)
  try dsimp only at hw
  rcases hw with ⟨rfl, rfl⟩
  have hP : va_P g.1 CLS [(m0, .inr (11, [.ref mh, .ref mg, .ref ms, .ref md, .ref mc, .ref mr, .int (-1), .int 0, .int 0, .int 0, .long 0, .int 0, .int 0, .int 0])), (mh, .inr (1, [.int 0, .ref (g.2.2 1), .int 0]))] H := hP
  have hD : va_D A [(m0, .inr (11, [.ref mh, .ref mg, .ref ms, .ref md, .ref mc, .ref mr, .int (-1), .int 0, .int 0, .int 0, .long 0, .int 0, .int 0, .int 0])), (mh, .inr (1, [.int 0, .ref (g.2.2 1), .int 0]))] := hD
  refine W.widen (k := 0) (n := 0) (Nat.le_of_ble_eq_true rfl) (Nat.le_of_ble_eq_true rfl) ?_
  refine lv_if_ne (tgt := 13) hx hb dX11_sees_6 (by decide) (fun c_1 => absurd (by decide) c_1) (fun c_1 => ?_)
  refine lv_iconst (v := 1) hx hb dX11_sees_9 (by decide) ?_
  refine lv_goto (tgt := 26) hx hb dX11_sees_10 (by decide) ?_
  refine va_put (D := g.1) (ci := 11) (v := .int 1) (ty := .int) (C := RX11) (T := TX11) (N := 14) hx hb htg inG_X11 tyX11 tyX11_ok nmX11 hown hK hP hD hS 0 rfl rfl 13 (by decide) (htg _ k1353) (fun _ h9 => h9) rfl (by decide +kernel) rfl rfl (Nat.le_of_ble_eq_true rfl) dX11_sees_26 (fun H locs hP hD hS => ?_)
  have hP : va_P g.1 CLS [(m0, .inr (11, [.ref mh, .ref mg, .ref ms, .ref md, .ref mc, .ref mr, .int (-1), .int 0, .int 0, .int 0, .long 0, .int 0, .int 0, .int 1])), (mh, .inr (1, [.int 0, .ref (g.2.2 1), .int 0]))] H := hP
  have hD : va_D A [(m0, .inr (11, [.ref mh, .ref mg, .ref ms, .ref md, .ref mc, .ref mr, .int (-1), .int 0, .int 0, .int 0, .long 0, .int 0, .int 0, .int 1])), (mh, .inr (1, [.int 0, .ref (g.2.2 1), .int 0]))] := hD
  refine lv_aload_n hx hb dX11_sees_29 rfl (lv_at hl 0 rfl) ?_
  refine va_get (D := g.1) (ci := 11) (v := .int 1) (C := RX11) (T := TX11) (N := 14) hx hb htg inG_X11 hown hK hP 0 rfl rfl 13 (by decide) (htg _ k1353) (fun _ h9 => h9) rfl dX11_sees_30 ?_
  refine lv_if_ne (tgt := 62) hx hb dX11_sees_33 (by decide) (fun c_2 => ?_) (fun c_2 => absurd c_2 (by decide))
  refine lv_iconst (v := 0) hx hb dX11_sees_62 (by decide) ?_
  have hP9 := hP.sub (ws' := [(m0, .inr (11, [.ref mh, .ref mg, .ref ms, .ref md, .ref mc, .ref mr, .int (-1), .int 0, .int 0, .int 0, .long 0, .int 0, .int 0, .int 1]))]) [0] rfl
  have hD9 := hD.sub (ws' := [(m0, .inr (11, [.ref mh, .ref mg, .ref ms, .ref md, .ref mc, .ref mr, .int (-1), .int 0, .int 0, .int 0, .long 0, .int 0, .int 0, .int 1]))]) [0] (by decide) rfl
  refine W.widen (k := 20) (n := 100) (Nat.le_of_ble_eq_true rfl) (Nat.le_of_ble_eq_true rfl) ?_
  exact W.zret (v := 0) hx hb hr rfl (fun t ht hW => ⟨⟨0, [(m0, .inr (11, [.ref mh, .ref mg, .ref ms, .ref md, .ref mc, .ref mr, .int (-1), .int 0, .int 0, .int 0, .long 0, .int 0, .int 0, .int 1]))], rfl, ⟨rfl, rfl⟩, by rw [ht]; exact hP9, va_K.moved hW.alike hK, hD9⟩, hS.F ht⟩) hS.2.2 dX11_sees_63

set_option maxHeartbeats 4000000 in
set_option maxRecDepth 100000 in
theorem c_m_setImmune (l : Launch) (hfl : l.stackTraces = false) (g : GP) (m0 : Nat) (mh : Nat) (mg : Nat) (ms : Nat) (md : Nat) (mc : Nat) (mr : Nat) (n1 : Int32) (n2 : Int32) (n3 : Int32)  : CI l yX11_setImmune (wG yX11_setImmune cX11_setImmune 7 (Option.some Jvm.ClassFile.FieldType.boolean)) (LV 4 20 100) g [.ref m0, .int n1, .int n2, .int n3] ([(m0, .inr (11, [.ref mh, .ref mg, .ref ms, .ref md, .ref mc, .ref mr, .int (-1), .int 0, .int 0, .int 0, .long 0, .int 0, .int 0, .int 0])), (mh, .inr (1, [.int 0, .ref (g.2.2 1), .int 0]))]) (fun (r : Int32) (u : va_W) => r = 0 ∧ u = [(m0, .inr (11, [.ref mh, .ref mg, .ref ms, .ref md, .ref mc, .ref mr, .int (-1), .int 0, .int 0, .int 0, .long 0, .int 0, .int 0, .int 1]))]) := by
  intro sz
  refine Met.ofW (cc := cX11_setImmune) (maxL := 7) (ret := (Option.some Jvm.ClassFile.FieldType.boolean)) (by decide) rfl ?_
  intro p e s m args below meth c s₁ B hml hv
  obtain ⟨rfl, hsz, hP, hK, hD0, hT0⟩ := hv
  have hx := B.exec
  have hb := B.bytes
  have hr := B.returns
  have hts := atoms_spec (ws := (wG yX11_setImmune cX11_setImmune 7 (Option.some Jvm.ClassFile.FieldType.boolean))) B.pre
  have htg : ∀ w ∈ G9, w.before _ s = true := fun w h => hts w (List.mem_cons_of_mem _ h)
  have hown : s.vm.findClass "HeroTableModel" = some m.cls := findClass_of_methodNamed B.named
  have hlocks := B.notSynchronized
  subst hsz
  have hD := hD0.self (sz := s.heap.size)
  have hT := hT0
  clear hT0
  generalize hAe : va_A [(m0, .inr (11, [.ref mh, .ref mg, .ref ms, .ref md, .ref mc, .ref mr, .int (-1), .int 0, .int 0, .int 0, .long 0, .int 0, .int 0, .int 0])), (mh, .inr (1, [.int 0, .ref (g.2.2 1), .int 0]))] s.heap.size = A at hD hT ⊢
  have hA : ∀ q : Nat, s.heap.size ≤ q → A q := fun q h => by rw [← hAe]; exact Or.inr h
  obtain ⟨H, hH0⟩ : ∃ H, H = s.heap := ⟨_, rfl⟩
  have hS : va_S A s.heap H [] := by rw [hH0]; exact va_S.rf
  have hP : va_P g.1 CLS [(m0, .inr (11, [.ref mh, .ref mg, .ref ms, .ref md, .ref mc, .ref mr, .int (-1), .int 0, .int 0, .int 0, .long 0, .int 0, .int 0, .int 0])), (mh, .inr (1, [.int 0, .ref (g.2.2 1), .int 0]))] H := by rw [hH0]; exact hP
  rw [← hH0]
  have hl := lv_entry ([.ref m0, .int n1, .int n2, .int n3]) (n := 7) (Nat.le_of_ble_eq_true rfl)
  rw [lg_entry_eq]
  generalize (lg_sl ([.ref m0, .int n1, .int n2, .int n3]) ++ List.replicate (7 - (lg_sl ([.ref m0, .int n1, .int n2, .int n3])).length) Slot.unset).toArray = ls at hl ⊢
  have hl : lv_has ls 7 [(0, .ref m0), (1, .int n1), (2, .int n2), (3, .int n3)] := hl
  refine lv_aload_n hx hb dX11_setImmune_0 rfl (lv_at hl 0 rfl) ?_
  refine lv_aload_n hx hb dX11_setImmune_1 rfl (lv_at hl 0 rfl) ?_
  refine lv_iload_n hx hb dX11_setImmune_2 rfl (lv_at hl 1 rfl) ?_
  have hPc := hP.sub (ws' := [(m0, .inr (11, [.ref mh, .ref mg, .ref ms, .ref md, .ref mc, .ref mr, .int (-1), .int 0, .int 0, .int 0, .long 0, .int 0, .int 0, .int 0])), (mh, .inr (1, [.int 0, .ref (g.2.2 1), .int 0]))]) [0, 1] rfl
  have hDc := hD.sub (ws' := [(m0, .inr (11, [.ref mh, .ref mg, .ref ms, .ref md, .ref mc, .ref mr, .int (-1), .int 0, .int 0, .int 0, .long 0, .int 0, .int 0, .int 0])), (mh, .inr (1, [.int 0, .ref (g.2.2 1), .int 0]))]) [0, 1] (by decide) rfl
  have hFc := va_free (wc := [(m0, .inr (11, [.ref mh, .ref mg, .ref ms, .ref md, .ref mc, .ref mr, .int (-1), .int 0, .int 0, .int 0, .long 0, .int 0, .int 0, .int 0])), (mh, .inr (1, [.int 0, .ref (g.2.2 1), .int 0]))]) hD hS hA [0, 1] rfl
  refine q_ci (wr := []) (va_runV (As := [.int n1]) (rest := [.ref m0]) ⟨hx, hb, hml, hown, htg⟩ (c_X11_isHero l hfl g m0 mh mg ms md mc mr n1  H.size) ⟨(qB htg k1640 k57 k1637 ok_X11_isHero rfl rfl ⟨Nat.le_of_ble_eq_true rfl, Nat.le_of_ble_eq_true rfl⟩), htg _ k1639, htg _ k23⟩ ⟨(q_pre [.ref m0, .int n1] hPc hDc hK hS hT hFc).1, va_recv hK hP (ci := 11) (q0 := 0) rfl rfl, (q_pre [.ref m0, .int n1] hPc hDc hK hS hT hFc).2⟩ rfl rfl hl.1 rfl (lv_room (Nat.le_of_ble_eq_true rfl)) dX11_setImmune_3 ⟨Nat.le_of_ble_eq_true rfl, Nat.le_of_ble_eq_true rfl⟩) hP hD hS hFc [0, 1] [] rfl rfl (by decide) (by decide) (fun r9 u9 H locs hw hP hD hS => ?_)
  try dsimp only at hw
  rcases hw with ⟨rfl, rfl⟩
  have hP : va_P g.1 CLS [(m0, .inr (11, [.ref mh, .ref mg, .ref ms, .ref md, .ref mc, .ref mr, .int (-1), .int 0, .int 0, .int 0, .long 0, .int 0, .int 0, .int 0])), (mh, .inr (1, [.int 0, .ref (g.2.2 1), .int 0]))] H := hP
  have hD : va_D A [(m0, .inr (11, [.ref mh, .ref mg, .ref ms, .ref md, .ref mc, .ref mr, .int (-1), .int 0, .int 0, .int 0, .long 0, .int 0, .int 0, .int 0])), (mh, .inr (1, [.int 0, .ref (g.2.2 1), .int 0]))] := hD
  refine W.widen (k := 0) (n := 0) (Nat.le_of_ble_eq_true rfl) (Nat.le_of_ble_eq_true rfl) ?_
  refine lv_if_ne (tgt := 13) hx hb dX11_setImmune_6 (by decide) (fun c_1 => absurd (by decide) c_1) (fun c_1 => ?_)
  refine lv_iconst (v := 1) hx hb dX11_setImmune_9 (by decide) ?_
  refine lv_goto (tgt := 27) hx hb dX11_setImmune_10 (by decide) ?_
  refine va_put (D := g.1) (ci := 11) (v := .int 1) (ty := .int) (C := RX11) (T := TX11) (N := 14) hx hb htg inG_X11 tyX11 tyX11_ok nmX11 hown hK hP hD hS 0 rfl rfl 13 (by decide) (htg _ k1353) (fun _ h9 => h9) rfl (by decide +kernel) rfl rfl (Nat.le_of_ble_eq_true rfl) dX11_setImmune_27 (fun H locs hP hD hS => ?_)
  have hP : va_P g.1 CLS [(m0, .inr (11, [.ref mh, .ref mg, .ref ms, .ref md, .ref mc, .ref mr, .int (-1), .int 0, .int 0, .int 0, .long 0, .int 0, .int 0, .int 1])), (mh, .inr (1, [.int 0, .ref (g.2.2 1), .int 0]))] H := hP
  have hD : va_D A [(m0, .inr (11, [.ref mh, .ref mg, .ref ms, .ref md, .ref mc, .ref mr, .int (-1), .int 0, .int 0, .int 0, .long 0, .int 0, .int 0, .int 1])), (mh, .inr (1, [.int 0, .ref (g.2.2 1), .int 0]))] := hD
  refine lv_aload_n hx hb dX11_setImmune_30 rfl (lv_at hl 0 rfl) ?_
  refine va_get (D := g.1) (ci := 11) (v := .int 1) (C := RX11) (T := TX11) (N := 14) hx hb htg inG_X11 hown hK hP 0 rfl rfl 13 (by decide) (htg _ k1353) (fun _ h9 => h9) rfl dX11_setImmune_31 ?_
  refine lv_if_le (tgt := 39) hx hb dX11_setImmune_34 (by decide) (fun c_2 => absurd c_2 (by decide)) (fun c_2 => ?_)
  refine lv_iconst (v := 0) hx hb dX11_setImmune_37 (by decide) ?_
  have hP9 := hP.sub (ws' := [(m0, .inr (11, [.ref mh, .ref mg, .ref ms, .ref md, .ref mc, .ref mr, .int (-1), .int 0, .int 0, .int 0, .long 0, .int 0, .int 0, .int 1]))]) [0] rfl
  have hD9 := hD.sub (ws' := [(m0, .inr (11, [.ref mh, .ref mg, .ref ms, .ref md, .ref mc, .ref mr, .int (-1), .int 0, .int 0, .int 0, .long 0, .int 0, .int 0, .int 1]))]) [0] (by decide) rfl
  refine W.widen (k := 20) (n := 100) (Nat.le_of_ble_eq_true rfl) (Nat.le_of_ble_eq_true rfl) ?_
  exact W.zret (v := 0) hx hb hr rfl (fun t ht hW => ⟨⟨0, [(m0, .inr (11, [.ref mh, .ref mg, .ref ms, .ref md, .ref mc, .ref mr, .int (-1), .int 0, .int 0, .int 0, .long 0, .int 0, .int 0, .int 1]))], rfl, ⟨rfl, rfl⟩, by rw [ht]; exact hP9, va_K.moved hW.alike hK, hD9⟩, hS.F ht⟩) hS.2.2 dX11_setImmune_38

set_option maxHeartbeats 4000000 in
set_option maxRecDepth 100000 in
theorem c_m_canReact (l : Launch) (hfl : l.stackTraces = false) (g : GP) (m0 : Nat) (mh : Nat) (mg : Nat) (ms : Nat) (md : Nat) (mc : Nat) (mr : Nat) (n1 : Int32)  : CI l yX11_canReact (wG yX11_canReact cX11_canReact 2 (Option.some Jvm.ClassFile.FieldType.boolean)) (LV 4 20 100) g [.ref m0, .int n1] ([(m0, .inr (11, [.ref mh, .ref mg, .ref ms, .ref md, .ref mc, .ref mr, .int (-1), .int 0, .int 0, .int 0, .long 0, .int 0, .int 0, .int 0])), (mh, .inr (1, [.int 0, .ref (g.2.2 1), .int 0]))]) (fun (r : Int32) (u : va_W) => r = 0 ∧ u = [(m0, .inr (11, [.ref mh, .ref mg, .ref ms, .ref md, .ref mc, .ref mr, .int (-1), .int 0, .int 0, .int 0, .long 0, .int 0, .int 0, .int 1]))]) := by
  intro sz
  refine Met.ofW (cc := cX11_canReact) (maxL := 2) (ret := (Option.some Jvm.ClassFile.FieldType.boolean)) (by decide) rfl ?_
  intro p e s m args below meth c s₁ B hml hv
  obtain ⟨rfl, hsz, hP, hK, hD0, hT0⟩ := hv
  have hx := B.exec
  have hb := B.bytes
  have hr := B.returns
  have hts := atoms_spec (ws := (wG yX11_canReact cX11_canReact 2 (Option.some Jvm.ClassFile.FieldType.boolean))) B.pre
  have htg : ∀ w ∈ G9, w.before _ s = true := fun w h => hts w (List.mem_cons_of_mem _ h)
  have hown : s.vm.findClass "HeroTableModel" = some m.cls := findClass_of_methodNamed B.named
  have hlocks := B.notSynchronized
  subst hsz
  have hD := hD0.self (sz := s.heap.size)
  have hT := hT0
  clear hT0
  generalize hAe : va_A [(m0, .inr (11, [.ref mh, .ref mg, .ref ms, .ref md, .ref mc, .ref mr, .int (-1), .int 0, .int 0, .int 0, .long 0, .int 0, .int 0, .int 0])), (mh, .inr (1, [.int 0, .ref (g.2.2 1), .int 0]))] s.heap.size = A at hD hT ⊢
  have hA : ∀ q : Nat, s.heap.size ≤ q → A q := fun q h => by rw [← hAe]; exact Or.inr h
  obtain ⟨H, hH0⟩ : ∃ H, H = s.heap := ⟨_, rfl⟩
  have hS : va_S A s.heap H [] := by rw [hH0]; exact va_S.rf
  have hP : va_P g.1 CLS [(m0, .inr (11, [.ref mh, .ref mg, .ref ms, .ref md, .ref mc, .ref mr, .int (-1), .int 0, .int 0, .int 0, .long 0, .int 0, .int 0, .int 0])), (mh, .inr (1, [.int 0, .ref (g.2.2 1), .int 0]))] H := by rw [hH0]; exact hP
  rw [← hH0]
  have hl := lv_entry ([.ref m0, .int n1]) (n := 2) (Nat.le_of_ble_eq_true rfl)
  rw [lg_entry_eq]
  generalize (lg_sl ([.ref m0, .int n1]) ++ List.replicate (2 - (lg_sl ([.ref m0, .int n1])).length) Slot.unset).toArray = ls at hl ⊢
  have hl : lv_has ls 2 [(0, .ref m0), (1, .int n1)] := hl
  refine lv_aload_n hx hb dX11_canReact_0 rfl (lv_at hl 0 rfl) ?_
  refine lv_aload_n hx hb dX11_canReact_1 rfl (lv_at hl 0 rfl) ?_
  refine lv_iload_n hx hb dX11_canReact_2 rfl (lv_at hl 1 rfl) ?_
  have hPc := hP.sub (ws' := [(m0, .inr (11, [.ref mh, .ref mg, .ref ms, .ref md, .ref mc, .ref mr, .int (-1), .int 0, .int 0, .int 0, .long 0, .int 0, .int 0, .int 0])), (mh, .inr (1, [.int 0, .ref (g.2.2 1), .int 0]))]) [0, 1] rfl
  have hDc := hD.sub (ws' := [(m0, .inr (11, [.ref mh, .ref mg, .ref ms, .ref md, .ref mc, .ref mr, .int (-1), .int 0, .int 0, .int 0, .long 0, .int 0, .int 0, .int 0])), (mh, .inr (1, [.int 0, .ref (g.2.2 1), .int 0]))]) [0, 1] (by decide) rfl
  have hFc := va_free (wc := [(m0, .inr (11, [.ref mh, .ref mg, .ref ms, .ref md, .ref mc, .ref mr, .int (-1), .int 0, .int 0, .int 0, .long 0, .int 0, .int 0, .int 0])), (mh, .inr (1, [.int 0, .ref (g.2.2 1), .int 0]))]) hD hS hA [0, 1] rfl
  refine q_ci (wr := []) (va_runV (As := [.int n1]) (rest := [.ref m0]) ⟨hx, hb, hml, hown, htg⟩ (c_X11_isHero l hfl g m0 mh mg ms md mc mr n1  H.size) ⟨(qB htg k1640 k57 k1637 ok_X11_isHero rfl rfl ⟨Nat.le_of_ble_eq_true rfl, Nat.le_of_ble_eq_true rfl⟩), htg _ k1639, htg _ k23⟩ ⟨(q_pre [.ref m0, .int n1] hPc hDc hK hS hT hFc).1, va_recv hK hP (ci := 11) (q0 := 0) rfl rfl, (q_pre [.ref m0, .int n1] hPc hDc hK hS hT hFc).2⟩ rfl rfl hl.1 rfl (lv_room (Nat.le_of_ble_eq_true rfl)) dX11_canReact_3 ⟨Nat.le_of_ble_eq_true rfl, Nat.le_of_ble_eq_true rfl⟩) hP hD hS hFc [0, 1] [] rfl rfl (by decide) (by decide) (fun r9 u9 H locs hw hP hD hS => ?_)
  try dsimp only at hw
  rcases hw with ⟨rfl, rfl⟩
  have hP : va_P g.1 CLS [(m0, .inr (11, [.ref mh, .ref mg, .ref ms, .ref md, .ref mc, .ref mr, .int (-1), .int 0, .int 0, .int 0, .long 0, .int 0, .int 0, .int 0])), (mh, .inr (1, [.int 0, .ref (g.2.2 1), .int 0]))] H := hP
  have hD : va_D A [(m0, .inr (11, [.ref mh, .ref mg, .ref ms, .ref md, .ref mc, .ref mr, .int (-1), .int 0, .int 0, .int 0, .long 0, .int 0, .int 0, .int 0])), (mh, .inr (1, [.int 0, .ref (g.2.2 1), .int 0]))] := hD
  refine W.widen (k := 0) (n := 0) (Nat.le_of_ble_eq_true rfl) (Nat.le_of_ble_eq_true rfl) ?_
  refine lv_if_eq (tgt := 13) hx hb dX11_canReact_6 (by decide) (fun c_1 => ?_) (fun c_1 => absurd (by decide) c_1)
  refine lv_iconst (v := 1) hx hb dX11_canReact_13 (by decide) ?_
  refine va_put (D := g.1) (ci := 11) (v := .int 1) (ty := .int) (C := RX11) (T := TX11) (N := 14) hx hb htg inG_X11 tyX11 tyX11_ok nmX11 hown hK hP hD hS 0 rfl rfl 13 (by decide) (htg _ k1353) (fun _ h9 => h9) rfl (by decide +kernel) rfl rfl (Nat.le_of_ble_eq_true rfl) dX11_canReact_14 (fun H locs hP hD hS => ?_)
  have hP : va_P g.1 CLS [(m0, .inr (11, [.ref mh, .ref mg, .ref ms, .ref md, .ref mc, .ref mr, .int (-1), .int 0, .int 0, .int 0, .long 0, .int 0, .int 0, .int 1])), (mh, .inr (1, [.int 0, .ref (g.2.2 1), .int 0]))] H := hP
  have hD : va_D A [(m0, .inr (11, [.ref mh, .ref mg, .ref ms, .ref md, .ref mc, .ref mr, .int (-1), .int 0, .int 0, .int 0, .long 0, .int 0, .int 0, .int 1])), (mh, .inr (1, [.int 0, .ref (g.2.2 1), .int 0]))] := hD
  refine lv_aload_n hx hb dX11_canReact_17 rfl (lv_at hl 0 rfl) ?_
  refine va_get (D := g.1) (ci := 11) (v := .int 1) (C := RX11) (T := TX11) (N := 14) hx hb htg inG_X11 hown hK hP 0 rfl rfl 13 (by decide) (htg _ k1353) (fun _ h9 => h9) rfl dX11_canReact_18 ?_
  refine lv_if_ne (tgt := 47) hx hb dX11_canReact_21 (by decide) (fun c_2 => ?_) (fun c_2 => absurd c_2 (by decide))
  refine lv_iconst (v := 0) hx hb dX11_canReact_47 (by decide) ?_
  have hP9 := hP.sub (ws' := [(m0, .inr (11, [.ref mh, .ref mg, .ref ms, .ref md, .ref mc, .ref mr, .int (-1), .int 0, .int 0, .int 0, .long 0, .int 0, .int 0, .int 1]))]) [0] rfl
  have hD9 := hD.sub (ws' := [(m0, .inr (11, [.ref mh, .ref mg, .ref ms, .ref md, .ref mc, .ref mr, .int (-1), .int 0, .int 0, .int 0, .long 0, .int 0, .int 0, .int 1]))]) [0] (by decide) rfl
  refine W.widen (k := 20) (n := 100) (Nat.le_of_ble_eq_true rfl) (Nat.le_of_ble_eq_true rfl) ?_
  exact W.zret (v := 0) hx hb hr rfl (fun t ht hW => ⟨⟨0, [(m0, .inr (11, [.ref mh, .ref mg, .ref ms, .ref md, .ref mc, .ref mr, .int (-1), .int 0, .int 0, .int 0, .long 0, .int 0, .int 0, .int 1]))], rfl, ⟨rfl, rfl⟩, by rw [ht]; exact hP9, va_K.moved hW.alike hK, hD9⟩, hS.F ht⟩) hS.2.2 dX11_canReact_48

set_option maxHeartbeats 4000000 in
set_option maxRecDepth 100000 in
theorem c_m_has (l : Launch) (hfl : l.stackTraces = false) (g : GP) (m0 : Nat) (mh : Nat) (mg : Nat) (ms : Nat) (md : Nat) (mc : Nat) (mr : Nat) (n1 : Int32) (n2 : Int32)  : CI l yX11_has_ (wG yX11_has_ cX11_has_ 3 (Option.some Jvm.ClassFile.FieldType.boolean)) (LV 4 20 100) g [.ref m0, .int n1, .int n2] ([(m0, .inr (11, [.ref mh, .ref mg, .ref ms, .ref md, .ref mc, .ref mr, .int (-1), .int 0, .int 0, .int 0, .long 0, .int 0, .int 0, .int 0])), (mh, .inr (1, [.int 0, .ref (g.2.2 1), .int 0]))]) (fun (r : Int32) (u : va_W) => r = 0 ∧ u = [(m0, .inr (11, [.ref mh, .ref mg, .ref ms, .ref md, .ref mc, .ref mr, .int (-1), .int 0, .int 0, .int 0, .long 0, .int 0, .int 0, .int 1]))]) := by
  intro sz
  refine Met.ofW (cc := cX11_has_) (maxL := 3) (ret := (Option.some Jvm.ClassFile.FieldType.boolean)) (by decide) rfl ?_
  intro p e s m args below meth c s₁ B hml hv
  obtain ⟨rfl, hsz, hP, hK, hD0, hT0⟩ := hv
  have hx := B.exec
  have hb := B.bytes
  have hr := B.returns
  have hts := atoms_spec (ws := (wG yX11_has_ cX11_has_ 3 (Option.some Jvm.ClassFile.FieldType.boolean))) B.pre
  have htg : ∀ w ∈ G9, w.before _ s = true := fun w h => hts w (List.mem_cons_of_mem _ h)
  have hown : s.vm.findClass "HeroTableModel" = some m.cls := findClass_of_methodNamed B.named
  have hlocks := B.notSynchronized
  subst hsz
  have hD := hD0.self (sz := s.heap.size)
  have hT := hT0
  clear hT0
  generalize hAe : va_A [(m0, .inr (11, [.ref mh, .ref mg, .ref ms, .ref md, .ref mc, .ref mr, .int (-1), .int 0, .int 0, .int 0, .long 0, .int 0, .int 0, .int 0])), (mh, .inr (1, [.int 0, .ref (g.2.2 1), .int 0]))] s.heap.size = A at hD hT ⊢
  have hA : ∀ q : Nat, s.heap.size ≤ q → A q := fun q h => by rw [← hAe]; exact Or.inr h
  obtain ⟨H, hH0⟩ : ∃ H, H = s.heap := ⟨_, rfl⟩
  have hS : va_S A s.heap H [] := by rw [hH0]; exact va_S.rf
  have hP : va_P g.1 CLS [(m0, .inr (11, [.ref mh, .ref mg, .ref ms, .ref md, .ref mc, .ref mr, .int (-1), .int 0, .int 0, .int 0, .long 0, .int 0, .int 0, .int 0])), (mh, .inr (1, [.int 0, .ref (g.2.2 1), .int 0]))] H := by rw [hH0]; exact hP
  rw [← hH0]
  have hl := lv_entry ([.ref m0, .int n1, .int n2]) (n := 3) (Nat.le_of_ble_eq_true rfl)
  rw [lg_entry_eq]
  generalize (lg_sl ([.ref m0, .int n1, .int n2]) ++ List.replicate (3 - (lg_sl ([.ref m0, .int n1, .int n2])).length) Slot.unset).toArray = ls at hl ⊢
  have hl : lv_has ls 3 [(0, .ref m0), (1, .int n1), (2, .int n2)] := hl
  refine lv_aload_n hx hb dX11_has__0 rfl (lv_at hl 0 rfl) ?_
  refine lv_aload_n hx hb dX11_has__1 rfl (lv_at hl 0 rfl) ?_
  refine lv_iload_n hx hb dX11_has__2 rfl (lv_at hl 1 rfl) ?_
  have hPc := hP.sub (ws' := [(m0, .inr (11, [.ref mh, .ref mg, .ref ms, .ref md, .ref mc, .ref mr, .int (-1), .int 0, .int 0, .int 0, .long 0, .int 0, .int 0, .int 0])), (mh, .inr (1, [.int 0, .ref (g.2.2 1), .int 0]))]) [0, 1] rfl
  have hDc := hD.sub (ws' := [(m0, .inr (11, [.ref mh, .ref mg, .ref ms, .ref md, .ref mc, .ref mr, .int (-1), .int 0, .int 0, .int 0, .long 0, .int 0, .int 0, .int 0])), (mh, .inr (1, [.int 0, .ref (g.2.2 1), .int 0]))]) [0, 1] (by decide) rfl
  have hFc := va_free (wc := [(m0, .inr (11, [.ref mh, .ref mg, .ref ms, .ref md, .ref mc, .ref mr, .int (-1), .int 0, .int 0, .int 0, .long 0, .int 0, .int 0, .int 0])), (mh, .inr (1, [.int 0, .ref (g.2.2 1), .int 0]))]) hD hS hA [0, 1] rfl
  refine q_ci (wr := []) (va_runV (As := [.int n1]) (rest := [.ref m0]) ⟨hx, hb, hml, hown, htg⟩ (c_X11_isHero l hfl g m0 mh mg ms md mc mr n1  H.size) ⟨(qB htg k1640 k57 k1637 ok_X11_isHero rfl rfl ⟨Nat.le_of_ble_eq_true rfl, Nat.le_of_ble_eq_true rfl⟩), htg _ k1639, htg _ k23⟩ ⟨(q_pre [.ref m0, .int n1] hPc hDc hK hS hT hFc).1, va_recv hK hP (ci := 11) (q0 := 0) rfl rfl, (q_pre [.ref m0, .int n1] hPc hDc hK hS hT hFc).2⟩ rfl rfl hl.1 rfl (lv_room (Nat.le_of_ble_eq_true rfl)) dX11_has__3 ⟨Nat.le_of_ble_eq_true rfl, Nat.le_of_ble_eq_true rfl⟩) hP hD hS hFc [0, 1] [] rfl rfl (by decide) (by decide) (fun r9 u9 H locs hw hP hD hS => ?_)
  try dsimp only at hw
  rcases hw with ⟨rfl, rfl⟩
  have hP : va_P g.1 CLS [(m0, .inr (11, [.ref mh, .ref mg, .ref ms, .ref md, .ref mc, .ref mr, .int (-1), .int 0, .int 0, .int 0, .long 0, .int 0, .int 0, .int 0])), (mh, .inr (1, [.int 0, .ref (g.2.2 1), .int 0]))] H := hP
  have hD : va_D A [(m0, .inr (11, [.ref mh, .ref mg, .ref ms, .ref md, .ref mc, .ref mr, .int (-1), .int 0, .int 0, .int 0, .long 0, .int 0, .int 0, .int 0])), (mh, .inr (1, [.int 0, .ref (g.2.2 1), .int 0]))] := hD
  refine W.widen (k := 0) (n := 0) (Nat.le_of_ble_eq_true rfl) (Nat.le_of_ble_eq_true rfl) ?_
  refine lv_if_ne (tgt := 13) hx hb dX11_has__6 (by decide) (fun c_1 => absurd (by decide) c_1) (fun c_1 => ?_)
  refine lv_iconst (v := 1) hx hb dX11_has__9 (by decide) ?_
  refine lv_goto (tgt := 27) hx hb dX11_has__10 (by decide) ?_
  refine va_put (D := g.1) (ci := 11) (v := .int 1) (ty := .int) (C := RX11) (T := TX11) (N := 14) hx hb htg inG_X11 tyX11 tyX11_ok nmX11 hown hK hP hD hS 0 rfl rfl 13 (by decide) (htg _ k1353) (fun _ h9 => h9) rfl (by decide +kernel) rfl rfl (Nat.le_of_ble_eq_true rfl) dX11_has__27 (fun H locs hP hD hS => ?_)
  have hP : va_P g.1 CLS [(m0, .inr (11, [.ref mh, .ref mg, .ref ms, .ref md, .ref mc, .ref mr, .int (-1), .int 0, .int 0, .int 0, .long 0, .int 0, .int 0, .int 1])), (mh, .inr (1, [.int 0, .ref (g.2.2 1), .int 0]))] H := hP
  have hD : va_D A [(m0, .inr (11, [.ref mh, .ref mg, .ref ms, .ref md, .ref mc, .ref mr, .int (-1), .int 0, .int 0, .int 0, .long 0, .int 0, .int 0, .int 1])), (mh, .inr (1, [.int 0, .ref (g.2.2 1), .int 0]))] := hD
  refine lv_aload_n hx hb dX11_has__30 rfl (lv_at hl 0 rfl) ?_
  refine va_get (D := g.1) (ci := 11) (v := .int 1) (C := RX11) (T := TX11) (N := 14) hx hb htg inG_X11 hown hK hP 0 rfl rfl 13 (by decide) (htg _ k1353) (fun _ h9 => h9) rfl dX11_has__31 ?_
  refine lv_if_ne (tgt := 62) hx hb dX11_has__34 (by decide) (fun c_2 => ?_) (fun c_2 => absurd c_2 (by decide))
  refine lv_iconst (v := 0) hx hb dX11_has__62 (by decide) ?_
  have hP9 := hP.sub (ws' := [(m0, .inr (11, [.ref mh, .ref mg, .ref ms, .ref md, .ref mc, .ref mr, .int (-1), .int 0, .int 0, .int 0, .long 0, .int 0, .int 0, .int 1]))]) [0] rfl
  have hD9 := hD.sub (ws' := [(m0, .inr (11, [.ref mh, .ref mg, .ref ms, .ref md, .ref mc, .ref mr, .int (-1), .int 0, .int 0, .int 0, .long 0, .int 0, .int 0, .int 1]))]) [0] (by decide) rfl
  refine W.widen (k := 20) (n := 100) (Nat.le_of_ble_eq_true rfl) (Nat.le_of_ble_eq_true rfl) ?_
  exact W.zret (v := 0) hx hb hr rfl (fun t ht hW => ⟨⟨0, [(m0, .inr (11, [.ref mh, .ref mg, .ref ms, .ref md, .ref mc, .ref mr, .int (-1), .int 0, .int 0, .int 0, .long 0, .int 0, .int 0, .int 1]))], rfl, ⟨rfl, rfl⟩, by rw [ht]; exact hP9, va_K.moved hW.alike hK, hD9⟩, hS.F ht⟩) hS.2.2 dX11_has__63

set_option maxHeartbeats 4000000 in
set_option maxRecDepth 100000 in
theorem c_m_minds (l : Launch) (hfl : l.stackTraces = false) (g : GP) (m0 : Nat) (mh : Nat) (mg : Nat) (ms : Nat) (md : Nat) (mc : Nat) (mr : Nat) (n1 : Int32)  : CI l yX11_minds_ (wG yX11_minds_ cX11_minds_ 2 (Option.some Jvm.ClassFile.FieldType.boolean)) (LV 4 20 100) g [.ref m0, .int n1] ([(m0, .inr (11, [.ref mh, .ref mg, .ref ms, .ref md, .ref mc, .ref mr, .int (-1), .int 0, .int 0, .int 0, .long 0, .int 0, .int 0, .int 0])), (mh, .inr (1, [.int 0, .ref (g.2.2 1), .int 0]))]) (fun (r : Int32) (u : va_W) => r = 0 ∧ u = [(m0, .inr (11, [.ref mh, .ref mg, .ref ms, .ref md, .ref mc, .ref mr, .int (-1), .int 0, .int 0, .int 0, .long 0, .int 0, .int 0, .int 1]))]) := by
  intro sz
  refine Met.ofW (cc := cX11_minds_) (maxL := 2) (ret := (Option.some Jvm.ClassFile.FieldType.boolean)) (by decide) rfl ?_
  intro p e s m args below meth c s₁ B hml hv
  obtain ⟨rfl, hsz, hP, hK, hD0, hT0⟩ := hv
  have hx := B.exec
  have hb := B.bytes
  have hr := B.returns
  have hts := atoms_spec (ws := (wG yX11_minds_ cX11_minds_ 2 (Option.some Jvm.ClassFile.FieldType.boolean))) B.pre
  have htg : ∀ w ∈ G9, w.before _ s = true := fun w h => hts w (List.mem_cons_of_mem _ h)
  have hown : s.vm.findClass "HeroTableModel" = some m.cls := findClass_of_methodNamed B.named
  have hlocks := B.notSynchronized
  subst hsz
  have hD := hD0.self (sz := s.heap.size)
  have hT := hT0
  clear hT0
  generalize hAe : va_A [(m0, .inr (11, [.ref mh, .ref mg, .ref ms, .ref md, .ref mc, .ref mr, .int (-1), .int 0, .int 0, .int 0, .long 0, .int 0, .int 0, .int 0])), (mh, .inr (1, [.int 0, .ref (g.2.2 1), .int 0]))] s.heap.size = A at hD hT ⊢
  have hA : ∀ q : Nat, s.heap.size ≤ q → A q := fun q h => by rw [← hAe]; exact Or.inr h
  obtain ⟨H, hH0⟩ : ∃ H, H = s.heap := ⟨_, rfl⟩
  have hS : va_S A s.heap H [] := by rw [hH0]; exact va_S.rf
  have hP : va_P g.1 CLS [(m0, .inr (11, [.ref mh, .ref mg, .ref ms, .ref md, .ref mc, .ref mr, .int (-1), .int 0, .int 0, .int 0, .long 0, .int 0, .int 0, .int 0])), (mh, .inr (1, [.int 0, .ref (g.2.2 1), .int 0]))] H := by rw [hH0]; exact hP
  rw [← hH0]
  have hl := lv_entry ([.ref m0, .int n1]) (n := 2) (Nat.le_of_ble_eq_true rfl)
  rw [lg_entry_eq]
  generalize (lg_sl ([.ref m0, .int n1]) ++ List.replicate (2 - (lg_sl ([.ref m0, .int n1])).length) Slot.unset).toArray = ls at hl ⊢
  have hl : lv_has ls 2 [(0, .ref m0), (1, .int n1)] := hl
  refine lv_aload_n hx hb dX11_minds__0 rfl (lv_at hl 0 rfl) ?_
  refine lv_aload_n hx hb dX11_minds__1 rfl (lv_at hl 0 rfl) ?_
  refine lv_iload_n hx hb dX11_minds__2 rfl (lv_at hl 1 rfl) ?_
  have hPc := hP.sub (ws' := [(m0, .inr (11, [.ref mh, .ref mg, .ref ms, .ref md, .ref mc, .ref mr, .int (-1), .int 0, .int 0, .int 0, .long 0, .int 0, .int 0, .int 0])), (mh, .inr (1, [.int 0, .ref (g.2.2 1), .int 0]))]) [0, 1] rfl
  have hDc := hD.sub (ws' := [(m0, .inr (11, [.ref mh, .ref mg, .ref ms, .ref md, .ref mc, .ref mr, .int (-1), .int 0, .int 0, .int 0, .long 0, .int 0, .int 0, .int 0])), (mh, .inr (1, [.int 0, .ref (g.2.2 1), .int 0]))]) [0, 1] (by decide) rfl
  have hFc := va_free (wc := [(m0, .inr (11, [.ref mh, .ref mg, .ref ms, .ref md, .ref mc, .ref mr, .int (-1), .int 0, .int 0, .int 0, .long 0, .int 0, .int 0, .int 0])), (mh, .inr (1, [.int 0, .ref (g.2.2 1), .int 0]))]) hD hS hA [0, 1] rfl
  refine q_ci (wr := []) (va_runV (As := [.int n1]) (rest := [.ref m0]) ⟨hx, hb, hml, hown, htg⟩ (c_X11_isHero l hfl g m0 mh mg ms md mc mr n1  H.size) ⟨(qB htg k1640 k57 k1637 ok_X11_isHero rfl rfl ⟨Nat.le_of_ble_eq_true rfl, Nat.le_of_ble_eq_true rfl⟩), htg _ k1639, htg _ k23⟩ ⟨(q_pre [.ref m0, .int n1] hPc hDc hK hS hT hFc).1, va_recv hK hP (ci := 11) (q0 := 0) rfl rfl, (q_pre [.ref m0, .int n1] hPc hDc hK hS hT hFc).2⟩ rfl rfl hl.1 rfl (lv_room (Nat.le_of_ble_eq_true rfl)) dX11_minds__3 ⟨Nat.le_of_ble_eq_true rfl, Nat.le_of_ble_eq_true rfl⟩) hP hD hS hFc [0, 1] [] rfl rfl (by decide) (by decide) (fun r9 u9 H locs hw hP hD hS => ?_)
  try dsimp only at hw
  rcases hw with ⟨rfl, rfl⟩
  have hP : va_P g.1 CLS [(m0, .inr (11, [.ref mh, .ref mg, .ref ms, .ref md, .ref mc, .ref mr, .int (-1), .int 0, .int 0, .int 0, .long 0, .int 0, .int 0, .int 0])), (mh, .inr (1, [.int 0, .ref (g.2.2 1), .int 0]))] H := hP
  have hD : va_D A [(m0, .inr (11, [.ref mh, .ref mg, .ref ms, .ref md, .ref mc, .ref mr, .int (-1), .int 0, .int 0, .int 0, .long 0, .int 0, .int 0, .int 0])), (mh, .inr (1, [.int 0, .ref (g.2.2 1), .int 0]))] := hD
  refine W.widen (k := 0) (n := 0) (Nat.le_of_ble_eq_true rfl) (Nat.le_of_ble_eq_true rfl) ?_
  refine lv_if_eq (tgt := 13) hx hb dX11_minds__6 (by decide) (fun c_1 => ?_) (fun c_1 => absurd (by decide) c_1)
  refine lv_iconst (v := 1) hx hb dX11_minds__13 (by decide) ?_
  refine va_put (D := g.1) (ci := 11) (v := .int 1) (ty := .int) (C := RX11) (T := TX11) (N := 14) hx hb htg inG_X11 tyX11 tyX11_ok nmX11 hown hK hP hD hS 0 rfl rfl 13 (by decide) (htg _ k1353) (fun _ h9 => h9) rfl (by decide +kernel) rfl rfl (Nat.le_of_ble_eq_true rfl) dX11_minds__14 (fun H locs hP hD hS => ?_)
  have hP : va_P g.1 CLS [(m0, .inr (11, [.ref mh, .ref mg, .ref ms, .ref md, .ref mc, .ref mr, .int (-1), .int 0, .int 0, .int 0, .long 0, .int 0, .int 0, .int 1])), (mh, .inr (1, [.int 0, .ref (g.2.2 1), .int 0]))] H := hP
  have hD : va_D A [(m0, .inr (11, [.ref mh, .ref mg, .ref ms, .ref md, .ref mc, .ref mr, .int (-1), .int 0, .int 0, .int 0, .long 0, .int 0, .int 0, .int 1])), (mh, .inr (1, [.int 0, .ref (g.2.2 1), .int 0]))] := hD
  refine lv_aload_n hx hb dX11_minds__17 rfl (lv_at hl 0 rfl) ?_
  refine va_get (D := g.1) (ci := 11) (v := .int 1) (C := RX11) (T := TX11) (N := 14) hx hb htg inG_X11 hown hK hP 0 rfl rfl 13 (by decide) (htg _ k1353) (fun _ h9 => h9) rfl dX11_minds__18 ?_
  refine lv_if_ne (tgt := 48) hx hb dX11_minds__21 (by decide) (fun c_2 => ?_) (fun c_2 => absurd c_2 (by decide))
  refine lv_iconst (v := 0) hx hb dX11_minds__48 (by decide) ?_
  have hP9 := hP.sub (ws' := [(m0, .inr (11, [.ref mh, .ref mg, .ref ms, .ref md, .ref mc, .ref mr, .int (-1), .int 0, .int 0, .int 0, .long 0, .int 0, .int 0, .int 1]))]) [0] rfl
  have hD9 := hD.sub (ws' := [(m0, .inr (11, [.ref mh, .ref mg, .ref ms, .ref md, .ref mc, .ref mr, .int (-1), .int 0, .int 0, .int 0, .long 0, .int 0, .int 0, .int 1]))]) [0] (by decide) rfl
  refine W.widen (k := 20) (n := 100) (Nat.le_of_ble_eq_true rfl) (Nat.le_of_ble_eq_true rfl) ?_
  exact W.zret (v := 0) hx hb hr rfl (fun t ht hW => ⟨⟨0, [(m0, .inr (11, [.ref mh, .ref mg, .ref ms, .ref md, .ref mc, .ref mr, .int (-1), .int 0, .int 0, .int 0, .long 0, .int 0, .int 0, .int 1]))], rfl, ⟨rfl, rfl⟩, by rw [ht]; exact hP9, va_K.moved hW.alike hK, hD9⟩, hS.F ht⟩) hS.2.2 dX11_minds__49

set_option maxHeartbeats 4000000 in
set_option maxRecDepth 100000 in
theorem c_m_numberAnew (l : Launch) (hfl : l.stackTraces = false) (g : GP) (m0 : Nat) (mh : Nat) (mg : Nat) (ms : Nat) (md : Nat) (mc : Nat) (mr : Nat) (n1 : Int32) (n2 : Int32)  : CI l yX11_numberAnew (wG yX11_numberAnew cX11_numberAnew 3 (Option.some Jvm.ClassFile.FieldType.int)) (LV 5 20 100) g [.ref m0, .int n1, .int n2] ([(m0, .inr (11, [.ref mh, .ref mg, .ref ms, .ref md, .ref mc, .ref mr, .int (-1), .int 0, .int 0, .int 0, .long 0, .int 0, .int 0, .int 0])), (mh, .inr (1, [.int 0, .ref (g.2.2 1), .int 0]))]) (fun (r : Int32) (u : va_W) => r = (-1) ∧ u = [(m0, .inr (11, [.ref mh, .ref mg, .ref ms, .ref md, .ref mc, .ref mr, .int (-1), .int 0, .int 0, .int 0, .long 0, .int 0, .int 0, .int 1]))]) := by
  intro sz
  refine Met.ofW (cc := cX11_numberAnew) (maxL := 3) (ret := (Option.some Jvm.ClassFile.FieldType.int)) (by decide) rfl ?_
  intro p e s m args below meth c s₁ B hml hv
  obtain ⟨rfl, hsz, hP, hK, hD0, hT0⟩ := hv
  have hx := B.exec
  have hb := B.bytes
  have hr := B.returns
  have hts := atoms_spec (ws := (wG yX11_numberAnew cX11_numberAnew 3 (Option.some Jvm.ClassFile.FieldType.int))) B.pre
  have htg : ∀ w ∈ G9, w.before _ s = true := fun w h => hts w (List.mem_cons_of_mem _ h)
  have hown : s.vm.findClass "HeroTableModel" = some m.cls := findClass_of_methodNamed B.named
  have hlocks := B.notSynchronized
  subst hsz
  have hD := hD0.self (sz := s.heap.size)
  have hT := hT0
  clear hT0
  generalize hAe : va_A [(m0, .inr (11, [.ref mh, .ref mg, .ref ms, .ref md, .ref mc, .ref mr, .int (-1), .int 0, .int 0, .int 0, .long 0, .int 0, .int 0, .int 0])), (mh, .inr (1, [.int 0, .ref (g.2.2 1), .int 0]))] s.heap.size = A at hD hT ⊢
  have hA : ∀ q : Nat, s.heap.size ≤ q → A q := fun q h => by rw [← hAe]; exact Or.inr h
  obtain ⟨H, hH0⟩ : ∃ H, H = s.heap := ⟨_, rfl⟩
  have hS : va_S A s.heap H [] := by rw [hH0]; exact va_S.rf
  have hP : va_P g.1 CLS [(m0, .inr (11, [.ref mh, .ref mg, .ref ms, .ref md, .ref mc, .ref mr, .int (-1), .int 0, .int 0, .int 0, .long 0, .int 0, .int 0, .int 0])), (mh, .inr (1, [.int 0, .ref (g.2.2 1), .int 0]))] H := by rw [hH0]; exact hP
  rw [← hH0]
  have hl := lv_entry ([.ref m0, .int n1, .int n2]) (n := 3) (Nat.le_of_ble_eq_true rfl)
  rw [lg_entry_eq]
  generalize (lg_sl ([.ref m0, .int n1, .int n2]) ++ List.replicate (3 - (lg_sl ([.ref m0, .int n1, .int n2])).length) Slot.unset).toArray = ls at hl ⊢
  have hl : lv_has ls 3 [(0, .ref m0), (1, .int n1), (2, .int n2)] := hl
  refine lv_aload_n hx hb dX11_numberAnew_0 rfl (lv_at hl 0 rfl) ?_
  refine lv_iload_n hx hb dX11_numberAnew_1 rfl (lv_at hl 1 rfl) ?_
  refine lv_iload_n hx hb dX11_numberAnew_2 rfl (lv_at hl 2 rfl) ?_
  have hPc := hP.sub (ws' := [(m0, .inr (11, [.ref mh, .ref mg, .ref ms, .ref md, .ref mc, .ref mr, .int (-1), .int 0, .int 0, .int 0, .long 0, .int 0, .int 0, .int 0])), (mh, .inr (1, [.int 0, .ref (g.2.2 1), .int 0]))]) [0, 1] rfl
  have hDc := hD.sub (ws' := [(m0, .inr (11, [.ref mh, .ref mg, .ref ms, .ref md, .ref mc, .ref mr, .int (-1), .int 0, .int 0, .int 0, .long 0, .int 0, .int 0, .int 0])), (mh, .inr (1, [.int 0, .ref (g.2.2 1), .int 0]))]) [0, 1] (by decide) rfl
  have hFc := va_free (wc := [(m0, .inr (11, [.ref mh, .ref mg, .ref ms, .ref md, .ref mc, .ref mr, .int (-1), .int 0, .int 0, .int 0, .long 0, .int 0, .int 0, .int 0])), (mh, .inr (1, [.int 0, .ref (g.2.2 1), .int 0]))]) hD hS hA [0, 1] rfl
  refine q_ci (wr := []) (va_runV (As := [.int n1, .int n2]) (rest := []) ⟨hx, hb, hml, hown, htg⟩ (c_m_numberOf l hfl g m0 mh mg ms md mc mr n1 n2  H.size) ⟨(qB htg k1787 k57 k1797 ok_X11_numberOf rfl rfl ⟨Nat.le_of_ble_eq_true rfl, Nat.le_of_ble_eq_true rfl⟩), htg _ k1785, htg _ k1786⟩ ⟨(q_pre [.ref m0, .int n1, .int n2] hPc hDc hK hS hT hFc).1, va_recv hK hP (ci := 11) (q0 := 0) rfl rfl, (q_pre [.ref m0, .int n1, .int n2] hPc hDc hK hS hT hFc).2⟩ rfl rfl hl.1 rfl (lv_room (Nat.le_of_ble_eq_true rfl)) dX11_numberAnew_3 ⟨Nat.le_of_ble_eq_true rfl, Nat.le_of_ble_eq_true rfl⟩) hP hD hS hFc [0, 1] [] rfl rfl (by decide) (by decide) (fun r9 u9 H locs hw hP hD hS => ?_)
  try dsimp only at hw
  rcases hw with ⟨rfl, rfl⟩
  have hP : va_P g.1 CLS [(m0, .inr (11, [.ref mh, .ref mg, .ref ms, .ref md, .ref mc, .ref mr, .int (-1), .int 0, .int 0, .int 0, .long 0, .int 0, .int 0, .int 1]))] H := hP
  have hD : va_D A [(m0, .inr (11, [.ref mh, .ref mg, .ref ms, .ref md, .ref mc, .ref mr, .int (-1), .int 0, .int 0, .int 0, .long 0, .int 0, .int 0, .int 1]))] := hD
  refine W.widen (k := 20) (n := 100) (Nat.le_of_ble_eq_true rfl) (Nat.le_of_ble_eq_true rfl) ?_
  have hP9 := hP.sub (ws' := [(m0, .inr (11, [.ref mh, .ref mg, .ref ms, .ref md, .ref mc, .ref mr, .int (-1), .int 0, .int 0, .int 0, .long 0, .int 0, .int 0, .int 1]))]) [0] rfl
  have hD9 := hD.sub (ws' := [(m0, .inr (11, [.ref mh, .ref mg, .ref ms, .ref md, .ref mc, .ref mr, .int (-1), .int 0, .int 0, .int 0, .long 0, .int 0, .int 0, .int 1]))]) [0] (by decide) rfl
  refine W.widen (k := 20) (n := 100) (Nat.le_of_ble_eq_true rfl) (Nat.le_of_ble_eq_true rfl) ?_
  exact W.iret (v := (-1)) hx hb hr (fun t ht hW => ⟨⟨(-1), [(m0, .inr (11, [.ref mh, .ref mg, .ref ms, .ref md, .ref mc, .ref mr, .int (-1), .int 0, .int 0, .int 0, .long 0, .int 0, .int 0, .int 1]))], rfl, ⟨rfl, rfl⟩, by rw [ht]; exact hP9, va_K.moved hW.alike hK, hD9⟩, hS.F ht⟩) hS.2.2 dX11_numberAnew_6

set_option maxHeartbeats 4000000 in
set_option maxRecDepth 100000 in
theorem c_m_addSource (l : Launch) (hfl : l.stackTraces = false) (g : GP) (m0 : Nat) (mh : Nat) (mg : Nat) (ms : Nat) (md : Nat) (mc : Nat) (mr : Nat) (n1 : Int32) (n2 : Int32) (n3 : Int32) (n4 : Int32) (n5 : Int32) (n6 : Int32)  : CI l yX11_addSource (wG yX11_addSource cX11_addSource 8 (Option.some Jvm.ClassFile.FieldType.int)) (LV 6 20 100) g [.ref m0, .int n1, .int n2, .int n3, .int n4, .int n5, .int n6] ([(m0, .inr (11, [.ref mh, .ref mg, .ref ms, .ref md, .ref mc, .ref mr, .int (-1), .int 0, .int 0, .int 0, .long 0, .int 0, .int 0, .int 0])), (mh, .inr (1, [.int 0, .ref (g.2.2 1), .int 0]))]) (fun (r : Int32) (u : va_W) => r = (-1) ∧ u = [(m0, .inr (11, [.ref mh, .ref mg, .ref ms, .ref md, .ref mc, .ref mr, .int (-1), .int 0, .int 0, .int 0, .long 0, .int 0, .int 0, .int 1]))]) := by
  intro sz
  refine Met.ofW (cc := cX11_addSource) (maxL := 8) (ret := (Option.some Jvm.ClassFile.FieldType.int)) (by decide) rfl ?_
  intro p e s m args below meth c s₁ B hml hv
  obtain ⟨rfl, hsz, hP, hK, hD0, hT0⟩ := hv
  have hx := B.exec
  have hb := B.bytes
  have hr := B.returns
  have hts := atoms_spec (ws := (wG yX11_addSource cX11_addSource 8 (Option.some Jvm.ClassFile.FieldType.int))) B.pre
  have htg : ∀ w ∈ G9, w.before _ s = true := fun w h => hts w (List.mem_cons_of_mem _ h)
  have hown : s.vm.findClass "HeroTableModel" = some m.cls := findClass_of_methodNamed B.named
  have hlocks := B.notSynchronized
  subst hsz
  have hD := hD0.self (sz := s.heap.size)
  have hT := hT0
  clear hT0
  generalize hAe : va_A [(m0, .inr (11, [.ref mh, .ref mg, .ref ms, .ref md, .ref mc, .ref mr, .int (-1), .int 0, .int 0, .int 0, .long 0, .int 0, .int 0, .int 0])), (mh, .inr (1, [.int 0, .ref (g.2.2 1), .int 0]))] s.heap.size = A at hD hT ⊢
  have hA : ∀ q : Nat, s.heap.size ≤ q → A q := fun q h => by rw [← hAe]; exact Or.inr h
  obtain ⟨H, hH0⟩ : ∃ H, H = s.heap := ⟨_, rfl⟩
  have hS : va_S A s.heap H [] := by rw [hH0]; exact va_S.rf
  have hP : va_P g.1 CLS [(m0, .inr (11, [.ref mh, .ref mg, .ref ms, .ref md, .ref mc, .ref mr, .int (-1), .int 0, .int 0, .int 0, .long 0, .int 0, .int 0, .int 0])), (mh, .inr (1, [.int 0, .ref (g.2.2 1), .int 0]))] H := by rw [hH0]; exact hP
  rw [← hH0]
  have hl := lv_entry ([.ref m0, .int n1, .int n2, .int n3, .int n4, .int n5, .int n6]) (n := 8) (Nat.le_of_ble_eq_true rfl)
  rw [lg_entry_eq]
  generalize (lg_sl ([.ref m0, .int n1, .int n2, .int n3, .int n4, .int n5, .int n6]) ++ List.replicate (8 - (lg_sl ([.ref m0, .int n1, .int n2, .int n3, .int n4, .int n5, .int n6])).length) Slot.unset).toArray = ls at hl ⊢
  have hl : lv_has ls 8 [(0, .ref m0), (1, .int n1), (2, .int n2), (3, .int n3), (4, .int n4), (5, .int n5), (6, .int n6)] := hl
  refine va_ldcS hx hb hown (hT.2.1 _ (List.mem_of_getElem? (i := 3) rfl)) dX11_addSource_0 ?_
  refine lv_iload_n hx hb dX11_addSource_2 rfl (lv_at hl 2 rfl) ?_
  have hPc := hP.sub (ws' := []) [] rfl
  have hDc := hD.sub (ws' := []) [] (by decide) rfl
  have hFc := va_free (wc := []) hD hS hA [] rfl
  refine q_ci (wr := [(m0, .inr (11, [.ref mh, .ref mg, .ref ms, .ref md, .ref mc, .ref mr, .int (-1), .int 0, .int 0, .int 0, .long 0, .int 0, .int 0, .int 0])), (mh, .inr (1, [.int 0, .ref (g.2.2 1), .int 0]))]) (va_runV (As := [.int n2]) (rest := []) ⟨hx, hb, hml, hown, htg⟩ (c_J0_indexOf_3 l hfl g n2  H.size) ⟨(qB htg k428 k77 k1632 ok_J0_indexOf_0f7a4 rfl rfl ⟨Nat.le_of_ble_eq_true rfl, Nat.le_of_ble_eq_true rfl⟩), htg _ k426, htg _ k427⟩ ⟨(q_pre [.ref (g.2.2 13), .int n2] hPc hDc hK hS hT hFc).1, q_recvS hT hS (i := 3) (by decide), (q_pre [.ref (g.2.2 13), .int n2] hPc hDc hK hS hT hFc).2⟩ rfl rfl hl.1 rfl (lv_room (Nat.le_of_ble_eq_true rfl)) dX11_addSource_3 ⟨Nat.le_of_ble_eq_true rfl, Nat.le_of_ble_eq_true rfl⟩) hP hD hS hFc [] [0, 1] rfl rfl (by decide) (by decide) (fun r9 u9 H locs hw hP hD hS => ?_)
  try dsimp only at hw
  rcases hw with ⟨c_1, rfl, rfl⟩ | ⟨c_2, rfl, rfl⟩
  · have hP : va_P g.1 CLS [(m0, .inr (11, [.ref mh, .ref mg, .ref ms, .ref md, .ref mc, .ref mr, .int (-1), .int 0, .int 0, .int 0, .long 0, .int 0, .int 0, .int 0])), (mh, .inr (1, [.int 0, .ref (g.2.2 1), .int 0]))] H := hP
    have hD : va_D A [(m0, .inr (11, [.ref mh, .ref mg, .ref ms, .ref md, .ref mc, .ref mr, .int (-1), .int 0, .int 0, .int 0, .long 0, .int 0, .int 0, .int 0])), (mh, .inr (1, [.int 0, .ref (g.2.2 1), .int 0]))] := hD
    refine W.widen (k := 0) (n := 0) (Nat.le_of_ble_eq_true rfl) (Nat.le_of_ble_eq_true rfl) ?_
    refine lv_if_lt (tgt := 72) hx hb dX11_addSource_6 (by decide) (fun c_3 => ?_) (fun c_3 => ?_)
    · refine lv_iconst (v := 0) hx hb dX11_addSource_72 (by decide) ?_
      refine lv_istore (lv' := [(7, .int 0), (0, .ref m0), (1, .int n1), (2, .int n2), (3, .int n3), (4, .int n4), (5, .int n5), (6, .int n6)]) hx hb dX11_addSource_73 hl (by decide) rfl (fun ls hl => ?_)
      refine lv_aload_n hx hb dX11_addSource_75 rfl (lv_at hl 1 rfl) ?_
      refine lv_aload_n hx hb dX11_addSource_76 rfl (lv_at hl 1 rfl) ?_
      refine lv_iload_n hx hb dX11_addSource_77 rfl (lv_at hl 2 rfl) ?_
      have hPc := hP.sub (ws' := [(m0, .inr (11, [.ref mh, .ref mg, .ref ms, .ref md, .ref mc, .ref mr, .int (-1), .int 0, .int 0, .int 0, .long 0, .int 0, .int 0, .int 0])), (mh, .inr (1, [.int 0, .ref (g.2.2 1), .int 0]))]) [0, 1] rfl
      have hDc := hD.sub (ws' := [(m0, .inr (11, [.ref mh, .ref mg, .ref ms, .ref md, .ref mc, .ref mr, .int (-1), .int 0, .int 0, .int 0, .long 0, .int 0, .int 0, .int 0])), (mh, .inr (1, [.int 0, .ref (g.2.2 1), .int 0]))]) [0, 1] (by decide) rfl
      have hFc := va_free (wc := [(m0, .inr (11, [.ref mh, .ref mg, .ref ms, .ref md, .ref mc, .ref mr, .int (-1), .int 0, .int 0, .int 0, .long 0, .int 0, .int 0, .int 0])), (mh, .inr (1, [.int 0, .ref (g.2.2 1), .int 0]))]) hD hS hA [0, 1] rfl
      refine q_ci (wr := []) (va_runV (As := [.int n1]) (rest := [.ref m0]) ⟨hx, hb, hml, hown, htg⟩ (c_X11_isHero l hfl g m0 mh mg ms md mc mr n1  H.size) ⟨(qB htg k1640 k57 k1637 ok_X11_isHero rfl rfl ⟨Nat.le_of_ble_eq_true rfl, Nat.le_of_ble_eq_true rfl⟩), htg _ k1639, htg _ k23⟩ ⟨(q_pre [.ref m0, .int n1] hPc hDc hK hS hT hFc).1, va_recv hK hP (ci := 11) (q0 := 0) rfl rfl, (q_pre [.ref m0, .int n1] hPc hDc hK hS hT hFc).2⟩ rfl rfl hl.1 rfl (lv_room (Nat.le_of_ble_eq_true rfl)) dX11_addSource_78 ⟨Nat.le_of_ble_eq_true rfl, Nat.le_of_ble_eq_true rfl⟩) hP hD hS hFc [0, 1] [] rfl rfl (by decide) (by decide) (fun r9 u9 H locs hw hP hD hS => ?_)
      try dsimp only at hw
      rcases hw with ⟨rfl, rfl⟩
      have hP : va_P g.1 CLS [(m0, .inr (11, [.ref mh, .ref mg, .ref ms, .ref md, .ref mc, .ref mr, .int (-1), .int 0, .int 0, .int 0, .long 0, .int 0, .int 0, .int 0])), (mh, .inr (1, [.int 0, .ref (g.2.2 1), .int 0]))] H := hP
      have hD : va_D A [(m0, .inr (11, [.ref mh, .ref mg, .ref ms, .ref md, .ref mc, .ref mr, .int (-1), .int 0, .int 0, .int 0, .long 0, .int 0, .int 0, .int 0])), (mh, .inr (1, [.int 0, .ref (g.2.2 1), .int 0]))] := hD
      refine W.widen (k := 0) (n := 0) (Nat.le_of_ble_eq_true rfl) (Nat.le_of_ble_eq_true rfl) ?_
      refine lv_if_eq (tgt := 93) hx hb dX11_addSource_81 (by decide) (fun c_4 => ?_) (fun c_4 => absurd (by decide) c_4)
      refine lv_iconst (v := 1) hx hb dX11_addSource_93 (by decide) ?_
      refine lv_goto (tgt := 125) hx hb dX11_addSource_94 (by decide) ?_
      refine va_put (D := g.1) (ci := 11) (v := .int 1) (ty := .int) (C := RX11) (T := TX11) (N := 14) hx hb htg inG_X11 tyX11 tyX11_ok nmX11 hown hK hP hD hS 0 rfl rfl 13 (by decide) (htg _ k1353) (fun _ h9 => h9) rfl (by decide +kernel) rfl rfl (Nat.le_of_ble_eq_true rfl) dX11_addSource_125 (fun H locs hP hD hS => ?_)
      have hP : va_P g.1 CLS [(m0, .inr (11, [.ref mh, .ref mg, .ref ms, .ref md, .ref mc, .ref mr, .int (-1), .int 0, .int 0, .int 0, .long 0, .int 0, .int 0, .int 1])), (mh, .inr (1, [.int 0, .ref (g.2.2 1), .int 0]))] H := hP
      have hD : va_D A [(m0, .inr (11, [.ref mh, .ref mg, .ref ms, .ref md, .ref mc, .ref mr, .int (-1), .int 0, .int 0, .int 0, .long 0, .int 0, .int 0, .int 1])), (mh, .inr (1, [.int 0, .ref (g.2.2 1), .int 0]))] := hD
      refine lv_aload_n hx hb dX11_addSource_128 rfl (lv_at hl 1 rfl) ?_
      refine va_get (D := g.1) (ci := 11) (v := .int 1) (C := RX11) (T := TX11) (N := 14) hx hb htg inG_X11 hown hK hP 0 rfl rfl 13 (by decide) (htg _ k1353) (fun _ h9 => h9) rfl dX11_addSource_129 ?_
      refine lv_if_le (tgt := 137) hx hb dX11_addSource_132 (by decide) (fun c_5 => absurd c_5 (by decide)) (fun c_5 => ?_)
      refine lv_iconst (v := (-1)) hx hb dX11_addSource_135 (by decide) ?_
      have hP9 := hP.sub (ws' := [(m0, .inr (11, [.ref mh, .ref mg, .ref ms, .ref md, .ref mc, .ref mr, .int (-1), .int 0, .int 0, .int 0, .long 0, .int 0, .int 0, .int 1]))]) [0] rfl
      have hD9 := hD.sub (ws' := [(m0, .inr (11, [.ref mh, .ref mg, .ref ms, .ref md, .ref mc, .ref mr, .int (-1), .int 0, .int 0, .int 0, .long 0, .int 0, .int 0, .int 1]))]) [0] (by decide) rfl
      refine W.widen (k := 20) (n := 100) (Nat.le_of_ble_eq_true rfl) (Nat.le_of_ble_eq_true rfl) ?_
      exact W.iret (v := (-1)) hx hb hr (fun t ht hW => ⟨⟨(-1), [(m0, .inr (11, [.ref mh, .ref mg, .ref ms, .ref md, .ref mc, .ref mr, .int (-1), .int 0, .int 0, .int 0, .long 0, .int 0, .int 0, .int 1]))], rfl, ⟨rfl, rfl⟩, by rw [ht]; exact hP9, va_K.moved hW.alike hK, hD9⟩, hS.F ht⟩) hS.2.2 dX11_addSource_136
    · refine va_ldcS hx hb hown (hT.2.1 _ (List.mem_of_getElem? (i := 4) rfl)) dX11_addSource_9 ?_
      refine lv_iload_n hx hb dX11_addSource_11 rfl (lv_at hl 3 rfl) ?_
      have hPc := hP.sub (ws' := []) [] rfl
      have hDc := hD.sub (ws' := []) [] (by decide) rfl
      have hFc := va_free (wc := []) hD hS hA [] rfl
      refine q_ci (wr := [(m0, .inr (11, [.ref mh, .ref mg, .ref ms, .ref md, .ref mc, .ref mr, .int (-1), .int 0, .int 0, .int 0, .long 0, .int 0, .int 0, .int 0])), (mh, .inr (1, [.int 0, .ref (g.2.2 1), .int 0]))]) (va_runV (As := [.int n3]) (rest := []) ⟨hx, hb, hml, hown, htg⟩ (c_J0_indexOf_4 l hfl g n3  H.size) ⟨(qB htg k428 k77 k1632 ok_J0_indexOf_0f7a4 rfl rfl ⟨Nat.le_of_ble_eq_true rfl, Nat.le_of_ble_eq_true rfl⟩), htg _ k426, htg _ k427⟩ ⟨(q_pre [.ref (g.2.2 14), .int n3] hPc hDc hK hS hT hFc).1, q_recvS hT hS (i := 4) (by decide), (q_pre [.ref (g.2.2 14), .int n3] hPc hDc hK hS hT hFc).2⟩ rfl rfl hl.1 rfl (lv_room (Nat.le_of_ble_eq_true rfl)) dX11_addSource_12 ⟨Nat.le_of_ble_eq_true rfl, Nat.le_of_ble_eq_true rfl⟩) hP hD hS hFc [] [0, 1] rfl rfl (by decide) (by decide) (fun r9 u9 H locs hw hP hD hS => ?_)
      try dsimp only at hw
      rcases hw with ⟨c_6, rfl, rfl⟩ | ⟨c_7, rfl, rfl⟩
      · have hP : va_P g.1 CLS [(m0, .inr (11, [.ref mh, .ref mg, .ref ms, .ref md, .ref mc, .ref mr, .int (-1), .int 0, .int 0, .int 0, .long 0, .int 0, .int 0, .int 0])), (mh, .inr (1, [.int 0, .ref (g.2.2 1), .int 0]))] H := hP
        have hD : va_D A [(m0, .inr (11, [.ref mh, .ref mg, .ref ms, .ref md, .ref mc, .ref mr, .int (-1), .int 0, .int 0, .int 0, .long 0, .int 0, .int 0, .int 0])), (mh, .inr (1, [.int 0, .ref (g.2.2 1), .int 0]))] := hD
        refine W.widen (k := 0) (n := 0) (Nat.le_of_ble_eq_true rfl) (Nat.le_of_ble_eq_true rfl) ?_
        refine lv_if_lt (tgt := 72) hx hb dX11_addSource_15 (by decide) (fun c_8 => ?_) (fun c_8 => ?_)
        · refine lv_iconst (v := 0) hx hb dX11_addSource_72 (by decide) ?_
          refine lv_istore (lv' := [(7, .int 0), (0, .ref m0), (1, .int n1), (2, .int n2), (3, .int n3), (4, .int n4), (5, .int n5), (6, .int n6)]) hx hb dX11_addSource_73 hl (by decide) rfl (fun ls hl => ?_)
          refine lv_aload_n hx hb dX11_addSource_75 rfl (lv_at hl 1 rfl) ?_
          refine lv_aload_n hx hb dX11_addSource_76 rfl (lv_at hl 1 rfl) ?_
          refine lv_iload_n hx hb dX11_addSource_77 rfl (lv_at hl 2 rfl) ?_
          have hPc := hP.sub (ws' := [(m0, .inr (11, [.ref mh, .ref mg, .ref ms, .ref md, .ref mc, .ref mr, .int (-1), .int 0, .int 0, .int 0, .long 0, .int 0, .int 0, .int 0])), (mh, .inr (1, [.int 0, .ref (g.2.2 1), .int 0]))]) [0, 1] rfl
          have hDc := hD.sub (ws' := [(m0, .inr (11, [.ref mh, .ref mg, .ref ms, .ref md, .ref mc, .ref mr, .int (-1), .int 0, .int 0, .int 0, .long 0, .int 0, .int 0, .int 0])), (mh, .inr (1, [.int 0, .ref (g.2.2 1), .int 0]))]) [0, 1] (by decide) rfl
          have hFc := va_free (wc := [(m0, .inr (11, [.ref mh, .ref mg, .ref ms, .ref md, .ref mc, .ref mr, .int (-1), .int 0, .int 0, .int 0, .long 0, .int 0, .int 0, .int 0])), (mh, .inr (1, [.int 0, .ref (g.2.2 1), .int 0]))]) hD hS hA [0, 1] rfl
          refine q_ci (wr := []) (va_runV (As := [.int n1]) (rest := [.ref m0]) ⟨hx, hb, hml, hown, htg⟩ (c_X11_isHero l hfl g m0 mh mg ms md mc mr n1  H.size) ⟨(qB htg k1640 k57 k1637 ok_X11_isHero rfl rfl ⟨Nat.le_of_ble_eq_true rfl, Nat.le_of_ble_eq_true rfl⟩), htg _ k1639, htg _ k23⟩ ⟨(q_pre [.ref m0, .int n1] hPc hDc hK hS hT hFc).1, va_recv hK hP (ci := 11) (q0 := 0) rfl rfl, (q_pre [.ref m0, .int n1] hPc hDc hK hS hT hFc).2⟩ rfl rfl hl.1 rfl (lv_room (Nat.le_of_ble_eq_true rfl)) dX11_addSource_78 ⟨Nat.le_of_ble_eq_true rfl, Nat.le_of_ble_eq_true rfl⟩) hP hD hS hFc [0, 1] [] rfl rfl (by decide) (by decide) (fun r9 u9 H locs hw hP hD hS => ?_)
          try dsimp only at hw
          rcases hw with ⟨rfl, rfl⟩
          have hP : va_P g.1 CLS [(m0, .inr (11, [.ref mh, .ref mg, .ref ms, .ref md, .ref mc, .ref mr, .int (-1), .int 0, .int 0, .int 0, .long 0, .int 0, .int 0, .int 0])), (mh, .inr (1, [.int 0, .ref (g.2.2 1), .int 0]))] H := hP
          have hD : va_D A [(m0, .inr (11, [.ref mh, .ref mg, .ref ms, .ref md, .ref mc, .ref mr, .int (-1), .int 0, .int 0, .int 0, .long 0, .int 0, .int 0, .int 0])), (mh, .inr (1, [.int 0, .ref (g.2.2 1), .int 0]))] := hD
          refine W.widen (k := 0) (n := 0) (Nat.le_of_ble_eq_true rfl) (Nat.le_of_ble_eq_true rfl) ?_
          refine lv_if_eq (tgt := 93) hx hb dX11_addSource_81 (by decide) (fun c_9 => ?_) (fun c_9 => absurd (by decide) c_9)
          refine lv_iconst (v := 1) hx hb dX11_addSource_93 (by decide) ?_
          refine lv_goto (tgt := 125) hx hb dX11_addSource_94 (by decide) ?_
          refine va_put (D := g.1) (ci := 11) (v := .int 1) (ty := .int) (C := RX11) (T := TX11) (N := 14) hx hb htg inG_X11 tyX11 tyX11_ok nmX11 hown hK hP hD hS 0 rfl rfl 13 (by decide) (htg _ k1353) (fun _ h9 => h9) rfl (by decide +kernel) rfl rfl (Nat.le_of_ble_eq_true rfl) dX11_addSource_125 (fun H locs hP hD hS => ?_)
          have hP : va_P g.1 CLS [(m0, .inr (11, [.ref mh, .ref mg, .ref ms, .ref md, .ref mc, .ref mr, .int (-1), .int 0, .int 0, .int 0, .long 0, .int 0, .int 0, .int 1])), (mh, .inr (1, [.int 0, .ref (g.2.2 1), .int 0]))] H := hP
          have hD : va_D A [(m0, .inr (11, [.ref mh, .ref mg, .ref ms, .ref md, .ref mc, .ref mr, .int (-1), .int 0, .int 0, .int 0, .long 0, .int 0, .int 0, .int 1])), (mh, .inr (1, [.int 0, .ref (g.2.2 1), .int 0]))] := hD
          refine lv_aload_n hx hb dX11_addSource_128 rfl (lv_at hl 1 rfl) ?_
          refine va_get (D := g.1) (ci := 11) (v := .int 1) (C := RX11) (T := TX11) (N := 14) hx hb htg inG_X11 hown hK hP 0 rfl rfl 13 (by decide) (htg _ k1353) (fun _ h9 => h9) rfl dX11_addSource_129 ?_
          refine lv_if_le (tgt := 137) hx hb dX11_addSource_132 (by decide) (fun c_10 => absurd c_10 (by decide)) (fun c_10 => ?_)
          refine lv_iconst (v := (-1)) hx hb dX11_addSource_135 (by decide) ?_
          have hP9 := hP.sub (ws' := [(m0, .inr (11, [.ref mh, .ref mg, .ref ms, .ref md, .ref mc, .ref mr, .int (-1), .int 0, .int 0, .int 0, .long 0, .int 0, .int 0, .int 1]))]) [0] rfl
          have hD9 := hD.sub (ws' := [(m0, .inr (11, [.ref mh, .ref mg, .ref ms, .ref md, .ref mc, .ref mr, .int (-1), .int 0, .int 0, .int 0, .long 0, .int 0, .int 0, .int 1]))]) [0] (by decide) rfl
          refine W.widen (k := 20) (n := 100) (Nat.le_of_ble_eq_true rfl) (Nat.le_of_ble_eq_true rfl) ?_
          exact W.iret (v := (-1)) hx hb hr (fun t ht hW => ⟨⟨(-1), [(m0, .inr (11, [.ref mh, .ref mg, .ref ms, .ref md, .ref mc, .ref mr, .int (-1), .int 0, .int 0, .int 0, .long 0, .int 0, .int 0, .int 1]))], rfl, ⟨rfl, rfl⟩, by rw [ht]; exact hP9, va_K.moved hW.alike hK, hD9⟩, hS.F ht⟩) hS.2.2 dX11_addSource_136
        · refine lv_iload_n hx hb dX11_addSource_18 rfl (lv_at hl 3 rfl) ?_
          refine lv_bipush (v := 61) hx hb dX11_addSource_19 (by decide) ?_
          refine lv_icmp_ne (tgt := 42) hx hb dX11_addSource_21 (by decide) (fun c_11 => ?_) (fun c_11 => ?_)
          · refine lv_iload hx hb dX11_addSource_42 (lv_at hl 4 rfl) ?_
            refine lv_i2l (v := n4.toInt64) hx hb dX11_addSource_44 rfl ?_
            refine lv_lconst (v := 1) hx hb dX11_addSource_45 (by decide) ?_
            refine lv_ldc2 (own := "HeroTableModel") (index := 192) (v := 9) hx hb hown (htg _ k1718) dX11_addSource_46 ?_
            have hPc := hP.sub (ws' := []) [] rfl
            have hDc := hD.sub (ws' := []) [] (by decide) rfl
            have hFc := va_free (wc := []) hD hS hA [] rfl
            refine q_ci (wr := [(m0, .inr (11, [.ref mh, .ref mg, .ref ms, .ref md, .ref mc, .ref mr, .int (-1), .int 0, .int 0, .int 0, .long 0, .int 0, .int 0, .int 0])), (mh, .inr (1, [.int 0, .ref (g.2.2 1), .int 0]))]) (va_runS (As := [.long n4.toInt64, .long 1, .long 9]) (rest := []) ⟨hx, hb, hml, hown, htg⟩ (c_X11_in l hfl g n4.toInt64 1 9  H.size) ⟨(qB htg k1393 k57 k1391 ok_X11_in rfl rfl ⟨Nat.le_of_ble_eq_true rfl, Nat.le_of_ble_eq_true rfl⟩), htg _ k1392⟩ (q_pre [.long n4.toInt64, .long 1, .long 9] hPc hDc hK hS hT hFc) rfl rfl hl.1 rfl (lv_room (Nat.le_of_ble_eq_true rfl)) dX11_addSource_49 ⟨Nat.le_of_ble_eq_true rfl, Nat.le_of_ble_eq_true rfl⟩) hP hD hS hFc [] [0, 1] rfl rfl (by decide) (by decide) (fun r9 u9 H locs hw hP hD hS => ?_)
            try dsimp only at hw
            rcases hw with ⟨c_12, rfl, rfl⟩ | ⟨c_13, rfl, rfl⟩
            · have hP : va_P g.1 CLS [(m0, .inr (11, [.ref mh, .ref mg, .ref ms, .ref md, .ref mc, .ref mr, .int (-1), .int 0, .int 0, .int 0, .long 0, .int 0, .int 0, .int 0])), (mh, .inr (1, [.int 0, .ref (g.2.2 1), .int 0]))] H := hP
              have hD : va_D A [(m0, .inr (11, [.ref mh, .ref mg, .ref ms, .ref md, .ref mc, .ref mr, .int (-1), .int 0, .int 0, .int 0, .long 0, .int 0, .int 0, .int 0])), (mh, .inr (1, [.int 0, .ref (g.2.2 1), .int 0]))] := hD
              refine W.widen (k := 0) (n := 0) (Nat.le_of_ble_eq_true rfl) (Nat.le_of_ble_eq_true rfl) ?_
              refine lv_if_eq (tgt := 72) hx hb dX11_addSource_52 (by decide) (fun c_14 => absurd c_14 (by decide)) (fun c_14 => ?_)
              refine lv_iload hx hb dX11_addSource_55 (lv_at hl 5 rfl) ?_
              refine lv_i2l (v := n5.toInt64) hx hb dX11_addSource_57 rfl ?_
              refine lv_lconst (v := 0) hx hb dX11_addSource_58 (by decide) ?_
              refine lv_ldc2 (own := "HeroTableModel") (index := 192) (v := 9) hx hb hown (htg _ k1718) dX11_addSource_59 ?_
              have hPc := hP.sub (ws' := []) [] rfl
              have hDc := hD.sub (ws' := []) [] (by decide) rfl
              have hFc := va_free (wc := []) hD hS hA [] rfl
              refine q_ci (wr := [(m0, .inr (11, [.ref mh, .ref mg, .ref ms, .ref md, .ref mc, .ref mr, .int (-1), .int 0, .int 0, .int 0, .long 0, .int 0, .int 0, .int 0])), (mh, .inr (1, [.int 0, .ref (g.2.2 1), .int 0]))]) (va_runS (As := [.long n5.toInt64, .long 0, .long 9]) (rest := []) ⟨hx, hb, hml, hown, htg⟩ (c_X11_in l hfl g n5.toInt64 0 9  H.size) ⟨(qB htg k1393 k57 k1391 ok_X11_in rfl rfl ⟨Nat.le_of_ble_eq_true rfl, Nat.le_of_ble_eq_true rfl⟩), htg _ k1392⟩ (q_pre [.long n5.toInt64, .long 0, .long 9] hPc hDc hK hS hT hFc) rfl rfl hl.1 rfl (lv_room (Nat.le_of_ble_eq_true rfl)) dX11_addSource_62 ⟨Nat.le_of_ble_eq_true rfl, Nat.le_of_ble_eq_true rfl⟩) hP hD hS hFc [] [0, 1] rfl rfl (by decide) (by decide) (fun r9 u9 H locs hw hP hD hS => ?_)
              try dsimp only at hw
              rcases hw with ⟨c_15, rfl, rfl⟩ | ⟨c_16, rfl, rfl⟩
              · have hP : va_P g.1 CLS [(m0, .inr (11, [.ref mh, .ref mg, .ref ms, .ref md, .ref mc, .ref mr, .int (-1), .int 0, .int 0, .int 0, .long 0, .int 0, .int 0, .int 0])), (mh, .inr (1, [.int 0, .ref (g.2.2 1), .int 0]))] H := hP
                have hD : va_D A [(m0, .inr (11, [.ref mh, .ref mg, .ref ms, .ref md, .ref mc, .ref mr, .int (-1), .int 0, .int 0, .int 0, .long 0, .int 0, .int 0, .int 0])), (mh, .inr (1, [.int 0, .ref (g.2.2 1), .int 0]))] := hD
                refine W.widen (k := 0) (n := 0) (Nat.le_of_ble_eq_true rfl) (Nat.le_of_ble_eq_true rfl) ?_
                refine lv_if_eq (tgt := 72) hx hb dX11_addSource_65 (by decide) (fun c_17 => absurd c_17 (by decide)) (fun c_17 => ?_)
                refine lv_iconst (v := 1) hx hb dX11_addSource_68 (by decide) ?_
                refine lv_goto (tgt := 73) hx hb dX11_addSource_69 (by decide) ?_
                refine lv_istore (lv' := [(7, .int 1), (0, .ref m0), (1, .int n1), (2, .int n2), (3, .int n3), (4, .int n4), (5, .int n5), (6, .int n6)]) hx hb dX11_addSource_73 hl (by decide) rfl (fun ls hl => ?_)
                refine lv_aload_n hx hb dX11_addSource_75 rfl (lv_at hl 1 rfl) ?_
                refine lv_aload_n hx hb dX11_addSource_76 rfl (lv_at hl 1 rfl) ?_
                refine lv_iload_n hx hb dX11_addSource_77 rfl (lv_at hl 2 rfl) ?_
                have hPc := hP.sub (ws' := [(m0, .inr (11, [.ref mh, .ref mg, .ref ms, .ref md, .ref mc, .ref mr, .int (-1), .int 0, .int 0, .int 0, .long 0, .int 0, .int 0, .int 0])), (mh, .inr (1, [.int 0, .ref (g.2.2 1), .int 0]))]) [0, 1] rfl
                have hDc := hD.sub (ws' := [(m0, .inr (11, [.ref mh, .ref mg, .ref ms, .ref md, .ref mc, .ref mr, .int (-1), .int 0, .int 0, .int 0, .long 0, .int 0, .int 0, .int 0])), (mh, .inr (1, [.int 0, .ref (g.2.2 1), .int 0]))]) [0, 1] (by decide) rfl
                have hFc := va_free (wc := [(m0, .inr (11, [.ref mh, .ref mg, .ref ms, .ref md, .ref mc, .ref mr, .int (-1), .int 0, .int 0, .int 0, .long 0, .int 0, .int 0, .int 0])), (mh, .inr (1, [.int 0, .ref (g.2.2 1), .int 0]))]) hD hS hA [0, 1] rfl
                refine q_ci (wr := []) (va_runV (As := [.int n1]) (rest := [.ref m0]) ⟨hx, hb, hml, hown, htg⟩ (c_X11_isHero l hfl g m0 mh mg ms md mc mr n1  H.size) ⟨(qB htg k1640 k57 k1637 ok_X11_isHero rfl rfl ⟨Nat.le_of_ble_eq_true rfl, Nat.le_of_ble_eq_true rfl⟩), htg _ k1639, htg _ k23⟩ ⟨(q_pre [.ref m0, .int n1] hPc hDc hK hS hT hFc).1, va_recv hK hP (ci := 11) (q0 := 0) rfl rfl, (q_pre [.ref m0, .int n1] hPc hDc hK hS hT hFc).2⟩ rfl rfl hl.1 rfl (lv_room (Nat.le_of_ble_eq_true rfl)) dX11_addSource_78 ⟨Nat.le_of_ble_eq_true rfl, Nat.le_of_ble_eq_true rfl⟩) hP hD hS hFc [0, 1] [] rfl rfl (by decide) (by decide) (fun r9 u9 H locs hw hP hD hS => ?_)
                try dsimp only at hw
                rcases hw with ⟨rfl, rfl⟩
                have hP : va_P g.1 CLS [(m0, .inr (11, [.ref mh, .ref mg, .ref ms, .ref md, .ref mc, .ref mr, .int (-1), .int 0, .int 0, .int 0, .long 0, .int 0, .int 0, .int 0])), (mh, .inr (1, [.int 0, .ref (g.2.2 1), .int 0]))] H := hP
                have hD : va_D A [(m0, .inr (11, [.ref mh, .ref mg, .ref ms, .ref md, .ref mc, .ref mr, .int (-1), .int 0, .int 0, .int 0, .long 0, .int 0, .int 0, .int 0])), (mh, .inr (1, [.int 0, .ref (g.2.2 1), .int 0]))] := hD
                refine W.widen (k := 0) (n := 0) (Nat.le_of_ble_eq_true rfl) (Nat.le_of_ble_eq_true rfl) ?_
                refine lv_if_eq (tgt := 93) hx hb dX11_addSource_81 (by decide) (fun c_18 => ?_) (fun c_18 => absurd (by decide) c_18)
                refine lv_iconst (v := 1) hx hb dX11_addSource_93 (by decide) ?_
                refine lv_goto (tgt := 125) hx hb dX11_addSource_94 (by decide) ?_
                refine va_put (D := g.1) (ci := 11) (v := .int 1) (ty := .int) (C := RX11) (T := TX11) (N := 14) hx hb htg inG_X11 tyX11 tyX11_ok nmX11 hown hK hP hD hS 0 rfl rfl 13 (by decide) (htg _ k1353) (fun _ h9 => h9) rfl (by decide +kernel) rfl rfl (Nat.le_of_ble_eq_true rfl) dX11_addSource_125 (fun H locs hP hD hS => ?_)
                have hP : va_P g.1 CLS [(m0, .inr (11, [.ref mh, .ref mg, .ref ms, .ref md, .ref mc, .ref mr, .int (-1), .int 0, .int 0, .int 0, .long 0, .int 0, .int 0, .int 1])), (mh, .inr (1, [.int 0, .ref (g.2.2 1), .int 0]))] H := hP
                have hD : va_D A [(m0, .inr (11, [.ref mh, .ref mg, .ref ms, .ref md, .ref mc, .ref mr, .int (-1), .int 0, .int 0, .int 0, .long 0, .int 0, .int 0, .int 1])), (mh, .inr (1, [.int 0, .ref (g.2.2 1), .int 0]))] := hD
                refine lv_aload_n hx hb dX11_addSource_128 rfl (lv_at hl 1 rfl) ?_
                refine va_get (D := g.1) (ci := 11) (v := .int 1) (C := RX11) (T := TX11) (N := 14) hx hb htg inG_X11 hown hK hP 0 rfl rfl 13 (by decide) (htg _ k1353) (fun _ h9 => h9) rfl dX11_addSource_129 ?_
                refine lv_if_le (tgt := 137) hx hb dX11_addSource_132 (by decide) (fun c_19 => absurd c_19 (by decide)) (fun c_19 => ?_)
                refine lv_iconst (v := (-1)) hx hb dX11_addSource_135 (by decide) ?_
                have hP9 := hP.sub (ws' := [(m0, .inr (11, [.ref mh, .ref mg, .ref ms, .ref md, .ref mc, .ref mr, .int (-1), .int 0, .int 0, .int 0, .long 0, .int 0, .int 0, .int 1]))]) [0] rfl
                have hD9 := hD.sub (ws' := [(m0, .inr (11, [.ref mh, .ref mg, .ref ms, .ref md, .ref mc, .ref mr, .int (-1), .int 0, .int 0, .int 0, .long 0, .int 0, .int 0, .int 1]))]) [0] (by decide) rfl
                refine W.widen (k := 20) (n := 100) (Nat.le_of_ble_eq_true rfl) (Nat.le_of_ble_eq_true rfl) ?_
                exact W.iret (v := (-1)) hx hb hr (fun t ht hW => ⟨⟨(-1), [(m0, .inr (11, [.ref mh, .ref mg, .ref ms, .ref md, .ref mc, .ref mr, .int (-1), .int 0, .int 0, .int 0, .long 0, .int 0, .int 0, .int 1]))], rfl, ⟨rfl, rfl⟩, by rw [ht]; exact hP9, va_K.moved hW.alike hK, hD9⟩, hS.F ht⟩) hS.2.2 dX11_addSource_136
              · have hP : va_P g.1 CLS [(m0, .inr (11, [.ref mh, .ref mg, .ref ms, .ref md, .ref mc, .ref mr, .int (-1), .int 0, .int 0, .int 0, .long 0, .int 0, .int 0, .int 0])), (mh, .inr (1, [.int 0, .ref (g.2.2 1), .int 0]))] H := hP
                have hD : va_D A [(m0, .inr (11, [.ref mh, .ref mg, .ref ms, .ref md, .ref mc, .ref mr, .int (-1), .int 0, .int 0, .int 0, .long 0, .int 0, .int 0, .int 0])), (mh, .inr (1, [.int 0, .ref (g.2.2 1), .int 0]))] := hD
                refine W.widen (k := 0) (n := 0) (Nat.le_of_ble_eq_true rfl) (Nat.le_of_ble_eq_true rfl) ?_
                refine lv_if_eq (tgt := 72) hx hb dX11_addSource_65 (by decide) (fun c_20 => ?_) (fun c_20 => absurd (by decide) c_20)
                refine lv_iconst (v := 0) hx hb dX11_addSource_72 (by decide) ?_
                refine lv_istore (lv' := [(7, .int 0), (0, .ref m0), (1, .int n1), (2, .int n2), (3, .int n3), (4, .int n4), (5, .int n5), (6, .int n6)]) hx hb dX11_addSource_73 hl (by decide) rfl (fun ls hl => ?_)
                refine lv_aload_n hx hb dX11_addSource_75 rfl (lv_at hl 1 rfl) ?_
                refine lv_aload_n hx hb dX11_addSource_76 rfl (lv_at hl 1 rfl) ?_
                refine lv_iload_n hx hb dX11_addSource_77 rfl (lv_at hl 2 rfl) ?_
                have hPc := hP.sub (ws' := [(m0, .inr (11, [.ref mh, .ref mg, .ref ms, .ref md, .ref mc, .ref mr, .int (-1), .int 0, .int 0, .int 0, .long 0, .int 0, .int 0, .int 0])), (mh, .inr (1, [.int 0, .ref (g.2.2 1), .int 0]))]) [0, 1] rfl
                have hDc := hD.sub (ws' := [(m0, .inr (11, [.ref mh, .ref mg, .ref ms, .ref md, .ref mc, .ref mr, .int (-1), .int 0, .int 0, .int 0, .long 0, .int 0, .int 0, .int 0])), (mh, .inr (1, [.int 0, .ref (g.2.2 1), .int 0]))]) [0, 1] (by decide) rfl
                have hFc := va_free (wc := [(m0, .inr (11, [.ref mh, .ref mg, .ref ms, .ref md, .ref mc, .ref mr, .int (-1), .int 0, .int 0, .int 0, .long 0, .int 0, .int 0, .int 0])), (mh, .inr (1, [.int 0, .ref (g.2.2 1), .int 0]))]) hD hS hA [0, 1] rfl
                refine q_ci (wr := []) (va_runV (As := [.int n1]) (rest := [.ref m0]) ⟨hx, hb, hml, hown, htg⟩ (c_X11_isHero l hfl g m0 mh mg ms md mc mr n1  H.size) ⟨(qB htg k1640 k57 k1637 ok_X11_isHero rfl rfl ⟨Nat.le_of_ble_eq_true rfl, Nat.le_of_ble_eq_true rfl⟩), htg _ k1639, htg _ k23⟩ ⟨(q_pre [.ref m0, .int n1] hPc hDc hK hS hT hFc).1, va_recv hK hP (ci := 11) (q0 := 0) rfl rfl, (q_pre [.ref m0, .int n1] hPc hDc hK hS hT hFc).2⟩ rfl rfl hl.1 rfl (lv_room (Nat.le_of_ble_eq_true rfl)) dX11_addSource_78 ⟨Nat.le_of_ble_eq_true rfl, Nat.le_of_ble_eq_true rfl⟩) hP hD hS hFc [0, 1] [] rfl rfl (by decide) (by decide) (fun r9 u9 H locs hw hP hD hS => ?_)
                try dsimp only at hw
                rcases hw with ⟨rfl, rfl⟩
                have hP : va_P g.1 CLS [(m0, .inr (11, [.ref mh, .ref mg, .ref ms, .ref md, .ref mc, .ref mr, .int (-1), .int 0, .int 0, .int 0, .long 0, .int 0, .int 0, .int 0])), (mh, .inr (1, [.int 0, .ref (g.2.2 1), .int 0]))] H := hP
                have hD : va_D A [(m0, .inr (11, [.ref mh, .ref mg, .ref ms, .ref md, .ref mc, .ref mr, .int (-1), .int 0, .int 0, .int 0, .long 0, .int 0, .int 0, .int 0])), (mh, .inr (1, [.int 0, .ref (g.2.2 1), .int 0]))] := hD
                refine W.widen (k := 0) (n := 0) (Nat.le_of_ble_eq_true rfl) (Nat.le_of_ble_eq_true rfl) ?_
                refine lv_if_eq (tgt := 93) hx hb dX11_addSource_81 (by decide) (fun c_21 => ?_) (fun c_21 => absurd (by decide) c_21)
                refine lv_iconst (v := 1) hx hb dX11_addSource_93 (by decide) ?_
                refine lv_goto (tgt := 125) hx hb dX11_addSource_94 (by decide) ?_
                refine va_put (D := g.1) (ci := 11) (v := .int 1) (ty := .int) (C := RX11) (T := TX11) (N := 14) hx hb htg inG_X11 tyX11 tyX11_ok nmX11 hown hK hP hD hS 0 rfl rfl 13 (by decide) (htg _ k1353) (fun _ h9 => h9) rfl (by decide +kernel) rfl rfl (Nat.le_of_ble_eq_true rfl) dX11_addSource_125 (fun H locs hP hD hS => ?_)
                have hP : va_P g.1 CLS [(m0, .inr (11, [.ref mh, .ref mg, .ref ms, .ref md, .ref mc, .ref mr, .int (-1), .int 0, .int 0, .int 0, .long 0, .int 0, .int 0, .int 1])), (mh, .inr (1, [.int 0, .ref (g.2.2 1), .int 0]))] H := hP
                have hD : va_D A [(m0, .inr (11, [.ref mh, .ref mg, .ref ms, .ref md, .ref mc, .ref mr, .int (-1), .int 0, .int 0, .int 0, .long 0, .int 0, .int 0, .int 1])), (mh, .inr (1, [.int 0, .ref (g.2.2 1), .int 0]))] := hD
                refine lv_aload_n hx hb dX11_addSource_128 rfl (lv_at hl 1 rfl) ?_
                refine va_get (D := g.1) (ci := 11) (v := .int 1) (C := RX11) (T := TX11) (N := 14) hx hb htg inG_X11 hown hK hP 0 rfl rfl 13 (by decide) (htg _ k1353) (fun _ h9 => h9) rfl dX11_addSource_129 ?_
                refine lv_if_le (tgt := 137) hx hb dX11_addSource_132 (by decide) (fun c_22 => absurd c_22 (by decide)) (fun c_22 => ?_)
                refine lv_iconst (v := (-1)) hx hb dX11_addSource_135 (by decide) ?_
                have hP9 := hP.sub (ws' := [(m0, .inr (11, [.ref mh, .ref mg, .ref ms, .ref md, .ref mc, .ref mr, .int (-1), .int 0, .int 0, .int 0, .long 0, .int 0, .int 0, .int 1]))]) [0] rfl
                have hD9 := hD.sub (ws' := [(m0, .inr (11, [.ref mh, .ref mg, .ref ms, .ref md, .ref mc, .ref mr, .int (-1), .int 0, .int 0, .int 0, .long 0, .int 0, .int 0, .int 1]))]) [0] (by decide) rfl
                refine W.widen (k := 20) (n := 100) (Nat.le_of_ble_eq_true rfl) (Nat.le_of_ble_eq_true rfl) ?_
                exact W.iret (v := (-1)) hx hb hr (fun t ht hW => ⟨⟨(-1), [(m0, .inr (11, [.ref mh, .ref mg, .ref ms, .ref md, .ref mc, .ref mr, .int (-1), .int 0, .int 0, .int 0, .long 0, .int 0, .int 0, .int 1]))], rfl, ⟨rfl, rfl⟩, by rw [ht]; exact hP9, va_K.moved hW.alike hK, hD9⟩, hS.F ht⟩) hS.2.2 dX11_addSource_136
            · have hP : va_P g.1 CLS [(m0, .inr (11, [.ref mh, .ref mg, .ref ms, .ref md, .ref mc, .ref mr, .int (-1), .int 0, .int 0, .int 0, .long 0, .int 0, .int 0, .int 0])), (mh, .inr (1, [.int 0, .ref (g.2.2 1), .int 0]))] H := hP
              have hD : va_D A [(m0, .inr (11, [.ref mh, .ref mg, .ref ms, .ref md, .ref mc, .ref mr, .int (-1), .int 0, .int 0, .int 0, .long 0, .int 0, .int 0, .int 0])), (mh, .inr (1, [.int 0, .ref (g.2.2 1), .int 0]))] := hD
              refine W.widen (k := 0) (n := 0) (Nat.le_of_ble_eq_true rfl) (Nat.le_of_ble_eq_true rfl) ?_
              refine lv_if_eq (tgt := 72) hx hb dX11_addSource_52 (by decide) (fun c_23 => ?_) (fun c_23 => absurd (by decide) c_23)
              refine lv_iconst (v := 0) hx hb dX11_addSource_72 (by decide) ?_
              refine lv_istore (lv' := [(7, .int 0), (0, .ref m0), (1, .int n1), (2, .int n2), (3, .int n3), (4, .int n4), (5, .int n5), (6, .int n6)]) hx hb dX11_addSource_73 hl (by decide) rfl (fun ls hl => ?_)
              refine lv_aload_n hx hb dX11_addSource_75 rfl (lv_at hl 1 rfl) ?_
              refine lv_aload_n hx hb dX11_addSource_76 rfl (lv_at hl 1 rfl) ?_
              refine lv_iload_n hx hb dX11_addSource_77 rfl (lv_at hl 2 rfl) ?_
              have hPc := hP.sub (ws' := [(m0, .inr (11, [.ref mh, .ref mg, .ref ms, .ref md, .ref mc, .ref mr, .int (-1), .int 0, .int 0, .int 0, .long 0, .int 0, .int 0, .int 0])), (mh, .inr (1, [.int 0, .ref (g.2.2 1), .int 0]))]) [0, 1] rfl
              have hDc := hD.sub (ws' := [(m0, .inr (11, [.ref mh, .ref mg, .ref ms, .ref md, .ref mc, .ref mr, .int (-1), .int 0, .int 0, .int 0, .long 0, .int 0, .int 0, .int 0])), (mh, .inr (1, [.int 0, .ref (g.2.2 1), .int 0]))]) [0, 1] (by decide) rfl
              have hFc := va_free (wc := [(m0, .inr (11, [.ref mh, .ref mg, .ref ms, .ref md, .ref mc, .ref mr, .int (-1), .int 0, .int 0, .int 0, .long 0, .int 0, .int 0, .int 0])), (mh, .inr (1, [.int 0, .ref (g.2.2 1), .int 0]))]) hD hS hA [0, 1] rfl
              refine q_ci (wr := []) (va_runV (As := [.int n1]) (rest := [.ref m0]) ⟨hx, hb, hml, hown, htg⟩ (c_X11_isHero l hfl g m0 mh mg ms md mc mr n1  H.size) ⟨(qB htg k1640 k57 k1637 ok_X11_isHero rfl rfl ⟨Nat.le_of_ble_eq_true rfl, Nat.le_of_ble_eq_true rfl⟩), htg _ k1639, htg _ k23⟩ ⟨(q_pre [.ref m0, .int n1] hPc hDc hK hS hT hFc).1, va_recv hK hP (ci := 11) (q0 := 0) rfl rfl, (q_pre [.ref m0, .int n1] hPc hDc hK hS hT hFc).2⟩ rfl rfl hl.1 rfl (lv_room (Nat.le_of_ble_eq_true rfl)) dX11_addSource_78 ⟨Nat.le_of_ble_eq_true rfl, Nat.le_of_ble_eq_true rfl⟩) hP hD hS hFc [0, 1] [] rfl rfl (by decide) (by decide) (fun r9 u9 H locs hw hP hD hS => ?_)
              try dsimp only at hw
              rcases hw with ⟨rfl, rfl⟩
              have hP : va_P g.1 CLS [(m0, .inr (11, [.ref mh, .ref mg, .ref ms, .ref md, .ref mc, .ref mr, .int (-1), .int 0, .int 0, .int 0, .long 0, .int 0, .int 0, .int 0])), (mh, .inr (1, [.int 0, .ref (g.2.2 1), .int 0]))] H := hP
              have hD : va_D A [(m0, .inr (11, [.ref mh, .ref mg, .ref ms, .ref md, .ref mc, .ref mr, .int (-1), .int 0, .int 0, .int 0, .long 0, .int 0, .int 0, .int 0])), (mh, .inr (1, [.int 0, .ref (g.2.2 1), .int 0]))] := hD
              refine W.widen (k := 0) (n := 0) (Nat.le_of_ble_eq_true rfl) (Nat.le_of_ble_eq_true rfl) ?_
              refine lv_if_eq (tgt := 93) hx hb dX11_addSource_81 (by decide) (fun c_24 => ?_) (fun c_24 => absurd (by decide) c_24)
              refine lv_iconst (v := 1) hx hb dX11_addSource_93 (by decide) ?_
              refine lv_goto (tgt := 125) hx hb dX11_addSource_94 (by decide) ?_
              refine va_put (D := g.1) (ci := 11) (v := .int 1) (ty := .int) (C := RX11) (T := TX11) (N := 14) hx hb htg inG_X11 tyX11 tyX11_ok nmX11 hown hK hP hD hS 0 rfl rfl 13 (by decide) (htg _ k1353) (fun _ h9 => h9) rfl (by decide +kernel) rfl rfl (Nat.le_of_ble_eq_true rfl) dX11_addSource_125 (fun H locs hP hD hS => ?_)
              have hP : va_P g.1 CLS [(m0, .inr (11, [.ref mh, .ref mg, .ref ms, .ref md, .ref mc, .ref mr, .int (-1), .int 0, .int 0, .int 0, .long 0, .int 0, .int 0, .int 1])), (mh, .inr (1, [.int 0, .ref (g.2.2 1), .int 0]))] H := hP
              have hD : va_D A [(m0, .inr (11, [.ref mh, .ref mg, .ref ms, .ref md, .ref mc, .ref mr, .int (-1), .int 0, .int 0, .int 0, .long 0, .int 0, .int 0, .int 1])), (mh, .inr (1, [.int 0, .ref (g.2.2 1), .int 0]))] := hD
              refine lv_aload_n hx hb dX11_addSource_128 rfl (lv_at hl 1 rfl) ?_
              refine va_get (D := g.1) (ci := 11) (v := .int 1) (C := RX11) (T := TX11) (N := 14) hx hb htg inG_X11 hown hK hP 0 rfl rfl 13 (by decide) (htg _ k1353) (fun _ h9 => h9) rfl dX11_addSource_129 ?_
              refine lv_if_le (tgt := 137) hx hb dX11_addSource_132 (by decide) (fun c_25 => absurd c_25 (by decide)) (fun c_25 => ?_)
              refine lv_iconst (v := (-1)) hx hb dX11_addSource_135 (by decide) ?_
              have hP9 := hP.sub (ws' := [(m0, .inr (11, [.ref mh, .ref mg, .ref ms, .ref md, .ref mc, .ref mr, .int (-1), .int 0, .int 0, .int 0, .long 0, .int 0, .int 0, .int 1]))]) [0] rfl
              have hD9 := hD.sub (ws' := [(m0, .inr (11, [.ref mh, .ref mg, .ref ms, .ref md, .ref mc, .ref mr, .int (-1), .int 0, .int 0, .int 0, .long 0, .int 0, .int 0, .int 1]))]) [0] (by decide) rfl
              refine W.widen (k := 20) (n := 100) (Nat.le_of_ble_eq_true rfl) (Nat.le_of_ble_eq_true rfl) ?_
              exact W.iret (v := (-1)) hx hb hr (fun t ht hW => ⟨⟨(-1), [(m0, .inr (11, [.ref mh, .ref mg, .ref ms, .ref md, .ref mc, .ref mr, .int (-1), .int 0, .int 0, .int 0, .long 0, .int 0, .int 0, .int 1]))], rfl, ⟨rfl, rfl⟩, by rw [ht]; exact hP9, va_K.moved hW.alike hK, hD9⟩, hS.F ht⟩) hS.2.2 dX11_addSource_136
          · refine lv_iload hx hb dX11_addSource_24 (lv_at hl 4 rfl) ?_
            refine lv_i2l (v := n4.toInt64) hx hb dX11_addSource_26 rfl ?_
            refine lv_ldc2 (own := "HeroTableModel") (index := 125) (v := (-20)) hx hb hown (htg _ k1642) dX11_addSource_27 ?_
            refine lv_ldc2 (own := "HeroTableModel") (index := 127) (v := 40) hx hb hown (htg _ k1643) dX11_addSource_30 ?_
            have hPc := hP.sub (ws' := []) [] rfl
            have hDc := hD.sub (ws' := []) [] (by decide) rfl
            have hFc := va_free (wc := []) hD hS hA [] rfl
            refine q_ci (wr := [(m0, .inr (11, [.ref mh, .ref mg, .ref ms, .ref md, .ref mc, .ref mr, .int (-1), .int 0, .int 0, .int 0, .long 0, .int 0, .int 0, .int 0])), (mh, .inr (1, [.int 0, .ref (g.2.2 1), .int 0]))]) (va_runS (As := [.long n4.toInt64, .long (-20), .long 40]) (rest := []) ⟨hx, hb, hml, hown, htg⟩ (c_X11_in l hfl g n4.toInt64 (-20) 40  H.size) ⟨(qB htg k1393 k57 k1391 ok_X11_in rfl rfl ⟨Nat.le_of_ble_eq_true rfl, Nat.le_of_ble_eq_true rfl⟩), htg _ k1392⟩ (q_pre [.long n4.toInt64, .long (-20), .long 40] hPc hDc hK hS hT hFc) rfl rfl hl.1 rfl (lv_room (Nat.le_of_ble_eq_true rfl)) dX11_addSource_33 ⟨Nat.le_of_ble_eq_true rfl, Nat.le_of_ble_eq_true rfl⟩) hP hD hS hFc [] [0, 1] rfl rfl (by decide) (by decide) (fun r9 u9 H locs hw hP hD hS => ?_)
            try dsimp only at hw
            rcases hw with ⟨c_26, rfl, rfl⟩ | ⟨c_27, rfl, rfl⟩
            · have hP : va_P g.1 CLS [(m0, .inr (11, [.ref mh, .ref mg, .ref ms, .ref md, .ref mc, .ref mr, .int (-1), .int 0, .int 0, .int 0, .long 0, .int 0, .int 0, .int 0])), (mh, .inr (1, [.int 0, .ref (g.2.2 1), .int 0]))] H := hP
              have hD : va_D A [(m0, .inr (11, [.ref mh, .ref mg, .ref ms, .ref md, .ref mc, .ref mr, .int (-1), .int 0, .int 0, .int 0, .long 0, .int 0, .int 0, .int 0])), (mh, .inr (1, [.int 0, .ref (g.2.2 1), .int 0]))] := hD
              refine W.widen (k := 0) (n := 0) (Nat.le_of_ble_eq_true rfl) (Nat.le_of_ble_eq_true rfl) ?_
              refine lv_if_eq (tgt := 72) hx hb dX11_addSource_36 (by decide) (fun c_28 => absurd c_28 (by decide)) (fun c_28 => ?_)
              refine lv_goto (tgt := 55) hx hb dX11_addSource_39 (by decide) ?_
              refine lv_iload hx hb dX11_addSource_55 (lv_at hl 5 rfl) ?_
              refine lv_i2l (v := n5.toInt64) hx hb dX11_addSource_57 rfl ?_
              refine lv_lconst (v := 0) hx hb dX11_addSource_58 (by decide) ?_
              refine lv_ldc2 (own := "HeroTableModel") (index := 192) (v := 9) hx hb hown (htg _ k1718) dX11_addSource_59 ?_
              have hPc := hP.sub (ws' := []) [] rfl
              have hDc := hD.sub (ws' := []) [] (by decide) rfl
              have hFc := va_free (wc := []) hD hS hA [] rfl
              refine q_ci (wr := [(m0, .inr (11, [.ref mh, .ref mg, .ref ms, .ref md, .ref mc, .ref mr, .int (-1), .int 0, .int 0, .int 0, .long 0, .int 0, .int 0, .int 0])), (mh, .inr (1, [.int 0, .ref (g.2.2 1), .int 0]))]) (va_runS (As := [.long n5.toInt64, .long 0, .long 9]) (rest := []) ⟨hx, hb, hml, hown, htg⟩ (c_X11_in l hfl g n5.toInt64 0 9  H.size) ⟨(qB htg k1393 k57 k1391 ok_X11_in rfl rfl ⟨Nat.le_of_ble_eq_true rfl, Nat.le_of_ble_eq_true rfl⟩), htg _ k1392⟩ (q_pre [.long n5.toInt64, .long 0, .long 9] hPc hDc hK hS hT hFc) rfl rfl hl.1 rfl (lv_room (Nat.le_of_ble_eq_true rfl)) dX11_addSource_62 ⟨Nat.le_of_ble_eq_true rfl, Nat.le_of_ble_eq_true rfl⟩) hP hD hS hFc [] [0, 1] rfl rfl (by decide) (by decide) (fun r9 u9 H locs hw hP hD hS => ?_)
              try dsimp only at hw
              rcases hw with ⟨c_29, rfl, rfl⟩ | ⟨c_30, rfl, rfl⟩
              · have hP : va_P g.1 CLS [(m0, .inr (11, [.ref mh, .ref mg, .ref ms, .ref md, .ref mc, .ref mr, .int (-1), .int 0, .int 0, .int 0, .long 0, .int 0, .int 0, .int 0])), (mh, .inr (1, [.int 0, .ref (g.2.2 1), .int 0]))] H := hP
                have hD : va_D A [(m0, .inr (11, [.ref mh, .ref mg, .ref ms, .ref md, .ref mc, .ref mr, .int (-1), .int 0, .int 0, .int 0, .long 0, .int 0, .int 0, .int 0])), (mh, .inr (1, [.int 0, .ref (g.2.2 1), .int 0]))] := hD
                refine W.widen (k := 0) (n := 0) (Nat.le_of_ble_eq_true rfl) (Nat.le_of_ble_eq_true rfl) ?_
                refine lv_if_eq (tgt := 72) hx hb dX11_addSource_65 (by decide) (fun c_31 => absurd c_31 (by decide)) (fun c_31 => ?_)
                refine lv_iconst (v := 1) hx hb dX11_addSource_68 (by decide) ?_
                refine lv_goto (tgt := 73) hx hb dX11_addSource_69 (by decide) ?_
                refine lv_istore (lv' := [(7, .int 1), (0, .ref m0), (1, .int n1), (2, .int n2), (3, .int n3), (4, .int n4), (5, .int n5), (6, .int n6)]) hx hb dX11_addSource_73 hl (by decide) rfl (fun ls hl => ?_)
                refine lv_aload_n hx hb dX11_addSource_75 rfl (lv_at hl 1 rfl) ?_
                refine lv_aload_n hx hb dX11_addSource_76 rfl (lv_at hl 1 rfl) ?_
                refine lv_iload_n hx hb dX11_addSource_77 rfl (lv_at hl 2 rfl) ?_
                have hPc := hP.sub (ws' := [(m0, .inr (11, [.ref mh, .ref mg, .ref ms, .ref md, .ref mc, .ref mr, .int (-1), .int 0, .int 0, .int 0, .long 0, .int 0, .int 0, .int 0])), (mh, .inr (1, [.int 0, .ref (g.2.2 1), .int 0]))]) [0, 1] rfl
                have hDc := hD.sub (ws' := [(m0, .inr (11, [.ref mh, .ref mg, .ref ms, .ref md, .ref mc, .ref mr, .int (-1), .int 0, .int 0, .int 0, .long 0, .int 0, .int 0, .int 0])), (mh, .inr (1, [.int 0, .ref (g.2.2 1), .int 0]))]) [0, 1] (by decide) rfl
                have hFc := va_free (wc := [(m0, .inr (11, [.ref mh, .ref mg, .ref ms, .ref md, .ref mc, .ref mr, .int (-1), .int 0, .int 0, .int 0, .long 0, .int 0, .int 0, .int 0])), (mh, .inr (1, [.int 0, .ref (g.2.2 1), .int 0]))]) hD hS hA [0, 1] rfl
                refine q_ci (wr := []) (va_runV (As := [.int n1]) (rest := [.ref m0]) ⟨hx, hb, hml, hown, htg⟩ (c_X11_isHero l hfl g m0 mh mg ms md mc mr n1  H.size) ⟨(qB htg k1640 k57 k1637 ok_X11_isHero rfl rfl ⟨Nat.le_of_ble_eq_true rfl, Nat.le_of_ble_eq_true rfl⟩), htg _ k1639, htg _ k23⟩ ⟨(q_pre [.ref m0, .int n1] hPc hDc hK hS hT hFc).1, va_recv hK hP (ci := 11) (q0 := 0) rfl rfl, (q_pre [.ref m0, .int n1] hPc hDc hK hS hT hFc).2⟩ rfl rfl hl.1 rfl (lv_room (Nat.le_of_ble_eq_true rfl)) dX11_addSource_78 ⟨Nat.le_of_ble_eq_true rfl, Nat.le_of_ble_eq_true rfl⟩) hP hD hS hFc [0, 1] [] rfl rfl (by decide) (by decide) (fun r9 u9 H locs hw hP hD hS => ?_)
                try dsimp only at hw
                rcases hw with ⟨rfl, rfl⟩
                have hP : va_P g.1 CLS [(m0, .inr (11, [.ref mh, .ref mg, .ref ms, .ref md, .ref mc, .ref mr, .int (-1), .int 0, .int 0, .int 0, .long 0, .int 0, .int 0, .int 0])), (mh, .inr (1, [.int 0, .ref (g.2.2 1), .int 0]))] H := hP
                have hD : va_D A [(m0, .inr (11, [.ref mh, .ref mg, .ref ms, .ref md, .ref mc, .ref mr, .int (-1), .int 0, .int 0, .int 0, .long 0, .int 0, .int 0, .int 0])), (mh, .inr (1, [.int 0, .ref (g.2.2 1), .int 0]))] := hD
                refine W.widen (k := 0) (n := 0) (Nat.le_of_ble_eq_true rfl) (Nat.le_of_ble_eq_true rfl) ?_
                refine lv_if_eq (tgt := 93) hx hb dX11_addSource_81 (by decide) (fun c_32 => ?_) (fun c_32 => absurd (by decide) c_32)
                refine lv_iconst (v := 1) hx hb dX11_addSource_93 (by decide) ?_
                refine lv_goto (tgt := 125) hx hb dX11_addSource_94 (by decide) ?_
                refine va_put (D := g.1) (ci := 11) (v := .int 1) (ty := .int) (C := RX11) (T := TX11) (N := 14) hx hb htg inG_X11 tyX11 tyX11_ok nmX11 hown hK hP hD hS 0 rfl rfl 13 (by decide) (htg _ k1353) (fun _ h9 => h9) rfl (by decide +kernel) rfl rfl (Nat.le_of_ble_eq_true rfl) dX11_addSource_125 (fun H locs hP hD hS => ?_)
                have hP : va_P g.1 CLS [(m0, .inr (11, [.ref mh, .ref mg, .ref ms, .ref md, .ref mc, .ref mr, .int (-1), .int 0, .int 0, .int 0, .long 0, .int 0, .int 0, .int 1])), (mh, .inr (1, [.int 0, .ref (g.2.2 1), .int 0]))] H := hP
                have hD : va_D A [(m0, .inr (11, [.ref mh, .ref mg, .ref ms, .ref md, .ref mc, .ref mr, .int (-1), .int 0, .int 0, .int 0, .long 0, .int 0, .int 0, .int 1])), (mh, .inr (1, [.int 0, .ref (g.2.2 1), .int 0]))] := hD
                refine lv_aload_n hx hb dX11_addSource_128 rfl (lv_at hl 1 rfl) ?_
                refine va_get (D := g.1) (ci := 11) (v := .int 1) (C := RX11) (T := TX11) (N := 14) hx hb htg inG_X11 hown hK hP 0 rfl rfl 13 (by decide) (htg _ k1353) (fun _ h9 => h9) rfl dX11_addSource_129 ?_
                refine lv_if_le (tgt := 137) hx hb dX11_addSource_132 (by decide) (fun c_33 => absurd c_33 (by decide)) (fun c_33 => ?_)
                refine lv_iconst (v := (-1)) hx hb dX11_addSource_135 (by decide) ?_
                have hP9 := hP.sub (ws' := [(m0, .inr (11, [.ref mh, .ref mg, .ref ms, .ref md, .ref mc, .ref mr, .int (-1), .int 0, .int 0, .int 0, .long 0, .int 0, .int 0, .int 1]))]) [0] rfl
                have hD9 := hD.sub (ws' := [(m0, .inr (11, [.ref mh, .ref mg, .ref ms, .ref md, .ref mc, .ref mr, .int (-1), .int 0, .int 0, .int 0, .long 0, .int 0, .int 0, .int 1]))]) [0] (by decide) rfl
                refine W.widen (k := 20) (n := 100) (Nat.le_of_ble_eq_true rfl) (Nat.le_of_ble_eq_true rfl) ?_
                exact W.iret (v := (-1)) hx hb hr (fun t ht hW => ⟨⟨(-1), [(m0, .inr (11, [.ref mh, .ref mg, .ref ms, .ref md, .ref mc, .ref mr, .int (-1), .int 0, .int 0, .int 0, .long 0, .int 0, .int 0, .int 1]))], rfl, ⟨rfl, rfl⟩, by rw [ht]; exact hP9, va_K.moved hW.alike hK, hD9⟩, hS.F ht⟩) hS.2.2 dX11_addSource_136
              · have hP : va_P g.1 CLS [(m0, .inr (11, [.ref mh, .ref mg, .ref ms, .ref md, .ref mc, .ref mr, .int (-1), .int 0, .int 0, .int 0, .long 0, .int 0, .int 0, .int 0])), (mh, .inr (1, [.int 0, .ref (g.2.2 1), .int 0]))] H := hP
                have hD : va_D A [(m0, .inr (11, [.ref mh, .ref mg, .ref ms, .ref md, .ref mc, .ref mr, .int (-1), .int 0, .int 0, .int 0, .long 0, .int 0, .int 0, .int 0])), (mh, .inr (1, [.int 0, .ref (g.2.2 1), .int 0]))] := hD
                refine W.widen (k := 0) (n := 0) (Nat.le_of_ble_eq_true rfl) (Nat.le_of_ble_eq_true rfl) ?_
                refine lv_if_eq (tgt := 72) hx hb dX11_addSource_65 (by decide) (fun c_34 => ?_) (fun c_34 => absurd (by decide) c_34)
                refine lv_iconst (v := 0) hx hb dX11_addSource_72 (by decide) ?_
                refine lv_istore (lv' := [(7, .int 0), (0, .ref m0), (1, .int n1), (2, .int n2), (3, .int n3), (4, .int n4), (5, .int n5), (6, .int n6)]) hx hb dX11_addSource_73 hl (by decide) rfl (fun ls hl => ?_)
                refine lv_aload_n hx hb dX11_addSource_75 rfl (lv_at hl 1 rfl) ?_
                refine lv_aload_n hx hb dX11_addSource_76 rfl (lv_at hl 1 rfl) ?_
                refine lv_iload_n hx hb dX11_addSource_77 rfl (lv_at hl 2 rfl) ?_
                have hPc := hP.sub (ws' := [(m0, .inr (11, [.ref mh, .ref mg, .ref ms, .ref md, .ref mc, .ref mr, .int (-1), .int 0, .int 0, .int 0, .long 0, .int 0, .int 0, .int 0])), (mh, .inr (1, [.int 0, .ref (g.2.2 1), .int 0]))]) [0, 1] rfl
                have hDc := hD.sub (ws' := [(m0, .inr (11, [.ref mh, .ref mg, .ref ms, .ref md, .ref mc, .ref mr, .int (-1), .int 0, .int 0, .int 0, .long 0, .int 0, .int 0, .int 0])), (mh, .inr (1, [.int 0, .ref (g.2.2 1), .int 0]))]) [0, 1] (by decide) rfl
                have hFc := va_free (wc := [(m0, .inr (11, [.ref mh, .ref mg, .ref ms, .ref md, .ref mc, .ref mr, .int (-1), .int 0, .int 0, .int 0, .long 0, .int 0, .int 0, .int 0])), (mh, .inr (1, [.int 0, .ref (g.2.2 1), .int 0]))]) hD hS hA [0, 1] rfl
                refine q_ci (wr := []) (va_runV (As := [.int n1]) (rest := [.ref m0]) ⟨hx, hb, hml, hown, htg⟩ (c_X11_isHero l hfl g m0 mh mg ms md mc mr n1  H.size) ⟨(qB htg k1640 k57 k1637 ok_X11_isHero rfl rfl ⟨Nat.le_of_ble_eq_true rfl, Nat.le_of_ble_eq_true rfl⟩), htg _ k1639, htg _ k23⟩ ⟨(q_pre [.ref m0, .int n1] hPc hDc hK hS hT hFc).1, va_recv hK hP (ci := 11) (q0 := 0) rfl rfl, (q_pre [.ref m0, .int n1] hPc hDc hK hS hT hFc).2⟩ rfl rfl hl.1 rfl (lv_room (Nat.le_of_ble_eq_true rfl)) dX11_addSource_78 ⟨Nat.le_of_ble_eq_true rfl, Nat.le_of_ble_eq_true rfl⟩) hP hD hS hFc [0, 1] [] rfl rfl (by decide) (by decide) (fun r9 u9 H locs hw hP hD hS => ?_)
                try dsimp only at hw
                rcases hw with ⟨rfl, rfl⟩
                have hP : va_P g.1 CLS [(m0, .inr (11, [.ref mh, .ref mg, .ref ms, .ref md, .ref mc, .ref mr, .int (-1), .int 0, .int 0, .int 0, .long 0, .int 0, .int 0, .int 0])), (mh, .inr (1, [.int 0, .ref (g.2.2 1), .int 0]))] H := hP
                have hD : va_D A [(m0, .inr (11, [.ref mh, .ref mg, .ref ms, .ref md, .ref mc, .ref mr, .int (-1), .int 0, .int 0, .int 0, .long 0, .int 0, .int 0, .int 0])), (mh, .inr (1, [.int 0, .ref (g.2.2 1), .int 0]))] := hD
                refine W.widen (k := 0) (n := 0) (Nat.le_of_ble_eq_true rfl) (Nat.le_of_ble_eq_true rfl) ?_
                refine lv_if_eq (tgt := 93) hx hb dX11_addSource_81 (by decide) (fun c_35 => ?_) (fun c_35 => absurd (by decide) c_35)
                refine lv_iconst (v := 1) hx hb dX11_addSource_93 (by decide) ?_
                refine lv_goto (tgt := 125) hx hb dX11_addSource_94 (by decide) ?_
                refine va_put (D := g.1) (ci := 11) (v := .int 1) (ty := .int) (C := RX11) (T := TX11) (N := 14) hx hb htg inG_X11 tyX11 tyX11_ok nmX11 hown hK hP hD hS 0 rfl rfl 13 (by decide) (htg _ k1353) (fun _ h9 => h9) rfl (by decide +kernel) rfl rfl (Nat.le_of_ble_eq_true rfl) dX11_addSource_125 (fun H locs hP hD hS => ?_)
                have hP : va_P g.1 CLS [(m0, .inr (11, [.ref mh, .ref mg, .ref ms, .ref md, .ref mc, .ref mr, .int (-1), .int 0, .int 0, .int 0, .long 0, .int 0, .int 0, .int 1])), (mh, .inr (1, [.int 0, .ref (g.2.2 1), .int 0]))] H := hP
                have hD : va_D A [(m0, .inr (11, [.ref mh, .ref mg, .ref ms, .ref md, .ref mc, .ref mr, .int (-1), .int 0, .int 0, .int 0, .long 0, .int 0, .int 0, .int 1])), (mh, .inr (1, [.int 0, .ref (g.2.2 1), .int 0]))] := hD
                refine lv_aload_n hx hb dX11_addSource_128 rfl (lv_at hl 1 rfl) ?_
                refine va_get (D := g.1) (ci := 11) (v := .int 1) (C := RX11) (T := TX11) (N := 14) hx hb htg inG_X11 hown hK hP 0 rfl rfl 13 (by decide) (htg _ k1353) (fun _ h9 => h9) rfl dX11_addSource_129 ?_
                refine lv_if_le (tgt := 137) hx hb dX11_addSource_132 (by decide) (fun c_36 => absurd c_36 (by decide)) (fun c_36 => ?_)
                refine lv_iconst (v := (-1)) hx hb dX11_addSource_135 (by decide) ?_
                have hP9 := hP.sub (ws' := [(m0, .inr (11, [.ref mh, .ref mg, .ref ms, .ref md, .ref mc, .ref mr, .int (-1), .int 0, .int 0, .int 0, .long 0, .int 0, .int 0, .int 1]))]) [0] rfl
                have hD9 := hD.sub (ws' := [(m0, .inr (11, [.ref mh, .ref mg, .ref ms, .ref md, .ref mc, .ref mr, .int (-1), .int 0, .int 0, .int 0, .long 0, .int 0, .int 0, .int 1]))]) [0] (by decide) rfl
                refine W.widen (k := 20) (n := 100) (Nat.le_of_ble_eq_true rfl) (Nat.le_of_ble_eq_true rfl) ?_
                exact W.iret (v := (-1)) hx hb hr (fun t ht hW => ⟨⟨(-1), [(m0, .inr (11, [.ref mh, .ref mg, .ref ms, .ref md, .ref mc, .ref mr, .int (-1), .int 0, .int 0, .int 0, .long 0, .int 0, .int 0, .int 1]))], rfl, ⟨rfl, rfl⟩, by rw [ht]; exact hP9, va_K.moved hW.alike hK, hD9⟩, hS.F ht⟩) hS.2.2 dX11_addSource_136
            · have hP : va_P g.1 CLS [(m0, .inr (11, [.ref mh, .ref mg, .ref ms, .ref md, .ref mc, .ref mr, .int (-1), .int 0, .int 0, .int 0, .long 0, .int 0, .int 0, .int 0])), (mh, .inr (1, [.int 0, .ref (g.2.2 1), .int 0]))] H := hP
              have hD : va_D A [(m0, .inr (11, [.ref mh, .ref mg, .ref ms, .ref md, .ref mc, .ref mr, .int (-1), .int 0, .int 0, .int 0, .long 0, .int 0, .int 0, .int 0])), (mh, .inr (1, [.int 0, .ref (g.2.2 1), .int 0]))] := hD
              refine W.widen (k := 0) (n := 0) (Nat.le_of_ble_eq_true rfl) (Nat.le_of_ble_eq_true rfl) ?_
              refine lv_if_eq (tgt := 72) hx hb dX11_addSource_36 (by decide) (fun c_37 => ?_) (fun c_37 => absurd (by decide) c_37)
              refine lv_iconst (v := 0) hx hb dX11_addSource_72 (by decide) ?_
              refine lv_istore (lv' := [(7, .int 0), (0, .ref m0), (1, .int n1), (2, .int n2), (3, .int n3), (4, .int n4), (5, .int n5), (6, .int n6)]) hx hb dX11_addSource_73 hl (by decide) rfl (fun ls hl => ?_)
              refine lv_aload_n hx hb dX11_addSource_75 rfl (lv_at hl 1 rfl) ?_
              refine lv_aload_n hx hb dX11_addSource_76 rfl (lv_at hl 1 rfl) ?_
              refine lv_iload_n hx hb dX11_addSource_77 rfl (lv_at hl 2 rfl) ?_
              have hPc := hP.sub (ws' := [(m0, .inr (11, [.ref mh, .ref mg, .ref ms, .ref md, .ref mc, .ref mr, .int (-1), .int 0, .int 0, .int 0, .long 0, .int 0, .int 0, .int 0])), (mh, .inr (1, [.int 0, .ref (g.2.2 1), .int 0]))]) [0, 1] rfl
              have hDc := hD.sub (ws' := [(m0, .inr (11, [.ref mh, .ref mg, .ref ms, .ref md, .ref mc, .ref mr, .int (-1), .int 0, .int 0, .int 0, .long 0, .int 0, .int 0, .int 0])), (mh, .inr (1, [.int 0, .ref (g.2.2 1), .int 0]))]) [0, 1] (by decide) rfl
              have hFc := va_free (wc := [(m0, .inr (11, [.ref mh, .ref mg, .ref ms, .ref md, .ref mc, .ref mr, .int (-1), .int 0, .int 0, .int 0, .long 0, .int 0, .int 0, .int 0])), (mh, .inr (1, [.int 0, .ref (g.2.2 1), .int 0]))]) hD hS hA [0, 1] rfl
              refine q_ci (wr := []) (va_runV (As := [.int n1]) (rest := [.ref m0]) ⟨hx, hb, hml, hown, htg⟩ (c_X11_isHero l hfl g m0 mh mg ms md mc mr n1  H.size) ⟨(qB htg k1640 k57 k1637 ok_X11_isHero rfl rfl ⟨Nat.le_of_ble_eq_true rfl, Nat.le_of_ble_eq_true rfl⟩), htg _ k1639, htg _ k23⟩ ⟨(q_pre [.ref m0, .int n1] hPc hDc hK hS hT hFc).1, va_recv hK hP (ci := 11) (q0 := 0) rfl rfl, (q_pre [.ref m0, .int n1] hPc hDc hK hS hT hFc).2⟩ rfl rfl hl.1 rfl (lv_room (Nat.le_of_ble_eq_true rfl)) dX11_addSource_78 ⟨Nat.le_of_ble_eq_true rfl, Nat.le_of_ble_eq_true rfl⟩) hP hD hS hFc [0, 1] [] rfl rfl (by decide) (by decide) (fun r9 u9 H locs hw hP hD hS => ?_)
              try dsimp only at hw
              rcases hw with ⟨rfl, rfl⟩
              have hP : va_P g.1 CLS [(m0, .inr (11, [.ref mh, .ref mg, .ref ms, .ref md, .ref mc, .ref mr, .int (-1), .int 0, .int 0, .int 0, .long 0, .int 0, .int 0, .int 0])), (mh, .inr (1, [.int 0, .ref (g.2.2 1), .int 0]))] H := hP
              have hD : va_D A [(m0, .inr (11, [.ref mh, .ref mg, .ref ms, .ref md, .ref mc, .ref mr, .int (-1), .int 0, .int 0, .int 0, .long 0, .int 0, .int 0, .int 0])), (mh, .inr (1, [.int 0, .ref (g.2.2 1), .int 0]))] := hD
              refine W.widen (k := 0) (n := 0) (Nat.le_of_ble_eq_true rfl) (Nat.le_of_ble_eq_true rfl) ?_
              refine lv_if_eq (tgt := 93) hx hb dX11_addSource_81 (by decide) (fun c_38 => ?_) (fun c_38 => absurd (by decide) c_38)
              refine lv_iconst (v := 1) hx hb dX11_addSource_93 (by decide) ?_
              refine lv_goto (tgt := 125) hx hb dX11_addSource_94 (by decide) ?_
              refine va_put (D := g.1) (ci := 11) (v := .int 1) (ty := .int) (C := RX11) (T := TX11) (N := 14) hx hb htg inG_X11 tyX11 tyX11_ok nmX11 hown hK hP hD hS 0 rfl rfl 13 (by decide) (htg _ k1353) (fun _ h9 => h9) rfl (by decide +kernel) rfl rfl (Nat.le_of_ble_eq_true rfl) dX11_addSource_125 (fun H locs hP hD hS => ?_)
              have hP : va_P g.1 CLS [(m0, .inr (11, [.ref mh, .ref mg, .ref ms, .ref md, .ref mc, .ref mr, .int (-1), .int 0, .int 0, .int 0, .long 0, .int 0, .int 0, .int 1])), (mh, .inr (1, [.int 0, .ref (g.2.2 1), .int 0]))] H := hP
              have hD : va_D A [(m0, .inr (11, [.ref mh, .ref mg, .ref ms, .ref md, .ref mc, .ref mr, .int (-1), .int 0, .int 0, .int 0, .long 0, .int 0, .int 0, .int 1])), (mh, .inr (1, [.int 0, .ref (g.2.2 1), .int 0]))] := hD
              refine lv_aload_n hx hb dX11_addSource_128 rfl (lv_at hl 1 rfl) ?_
              refine va_get (D := g.1) (ci := 11) (v := .int 1) (C := RX11) (T := TX11) (N := 14) hx hb htg inG_X11 hown hK hP 0 rfl rfl 13 (by decide) (htg _ k1353) (fun _ h9 => h9) rfl dX11_addSource_129 ?_
              refine lv_if_le (tgt := 137) hx hb dX11_addSource_132 (by decide) (fun c_39 => absurd c_39 (by decide)) (fun c_39 => ?_)
              refine lv_iconst (v := (-1)) hx hb dX11_addSource_135 (by decide) ?_
              have hP9 := hP.sub (ws' := [(m0, .inr (11, [.ref mh, .ref mg, .ref ms, .ref md, .ref mc, .ref mr, .int (-1), .int 0, .int 0, .int 0, .long 0, .int 0, .int 0, .int 1]))]) [0] rfl
              have hD9 := hD.sub (ws' := [(m0, .inr (11, [.ref mh, .ref mg, .ref ms, .ref md, .ref mc, .ref mr, .int (-1), .int 0, .int 0, .int 0, .long 0, .int 0, .int 0, .int 1]))]) [0] (by decide) rfl
              refine W.widen (k := 20) (n := 100) (Nat.le_of_ble_eq_true rfl) (Nat.le_of_ble_eq_true rfl) ?_
              exact W.iret (v := (-1)) hx hb hr (fun t ht hW => ⟨⟨(-1), [(m0, .inr (11, [.ref mh, .ref mg, .ref ms, .ref md, .ref mc, .ref mr, .int (-1), .int 0, .int 0, .int 0, .long 0, .int 0, .int 0, .int 1]))], rfl, ⟨rfl, rfl⟩, by rw [ht]; exact hP9, va_K.moved hW.alike hK, hD9⟩, hS.F ht⟩) hS.2.2 dX11_addSource_136
      · have hP : va_P g.1 CLS [(m0, .inr (11, [.ref mh, .ref mg, .ref ms, .ref md, .ref mc, .ref mr, .int (-1), .int 0, .int 0, .int 0, .long 0, .int 0, .int 0, .int 0])), (mh, .inr (1, [.int 0, .ref (g.2.2 1), .int 0]))] H := hP
        have hD : va_D A [(m0, .inr (11, [.ref mh, .ref mg, .ref ms, .ref md, .ref mc, .ref mr, .int (-1), .int 0, .int 0, .int 0, .long 0, .int 0, .int 0, .int 0])), (mh, .inr (1, [.int 0, .ref (g.2.2 1), .int 0]))] := hD
        refine W.widen (k := 0) (n := 0) (Nat.le_of_ble_eq_true rfl) (Nat.le_of_ble_eq_true rfl) ?_
        refine lv_if_lt (tgt := 72) hx hb dX11_addSource_15 (by decide) (fun c_40 => ?_) (fun c_40 => absurd (by decide) c_40)
        refine lv_iconst (v := 0) hx hb dX11_addSource_72 (by decide) ?_
        refine lv_istore (lv' := [(7, .int 0), (0, .ref m0), (1, .int n1), (2, .int n2), (3, .int n3), (4, .int n4), (5, .int n5), (6, .int n6)]) hx hb dX11_addSource_73 hl (by decide) rfl (fun ls hl => ?_)
        refine lv_aload_n hx hb dX11_addSource_75 rfl (lv_at hl 1 rfl) ?_
        refine lv_aload_n hx hb dX11_addSource_76 rfl (lv_at hl 1 rfl) ?_
        refine lv_iload_n hx hb dX11_addSource_77 rfl (lv_at hl 2 rfl) ?_
        have hPc := hP.sub (ws' := [(m0, .inr (11, [.ref mh, .ref mg, .ref ms, .ref md, .ref mc, .ref mr, .int (-1), .int 0, .int 0, .int 0, .long 0, .int 0, .int 0, .int 0])), (mh, .inr (1, [.int 0, .ref (g.2.2 1), .int 0]))]) [0, 1] rfl
        have hDc := hD.sub (ws' := [(m0, .inr (11, [.ref mh, .ref mg, .ref ms, .ref md, .ref mc, .ref mr, .int (-1), .int 0, .int 0, .int 0, .long 0, .int 0, .int 0, .int 0])), (mh, .inr (1, [.int 0, .ref (g.2.2 1), .int 0]))]) [0, 1] (by decide) rfl
        have hFc := va_free (wc := [(m0, .inr (11, [.ref mh, .ref mg, .ref ms, .ref md, .ref mc, .ref mr, .int (-1), .int 0, .int 0, .int 0, .long 0, .int 0, .int 0, .int 0])), (mh, .inr (1, [.int 0, .ref (g.2.2 1), .int 0]))]) hD hS hA [0, 1] rfl
        refine q_ci (wr := []) (va_runV (As := [.int n1]) (rest := [.ref m0]) ⟨hx, hb, hml, hown, htg⟩ (c_X11_isHero l hfl g m0 mh mg ms md mc mr n1  H.size) ⟨(qB htg k1640 k57 k1637 ok_X11_isHero rfl rfl ⟨Nat.le_of_ble_eq_true rfl, Nat.le_of_ble_eq_true rfl⟩), htg _ k1639, htg _ k23⟩ ⟨(q_pre [.ref m0, .int n1] hPc hDc hK hS hT hFc).1, va_recv hK hP (ci := 11) (q0 := 0) rfl rfl, (q_pre [.ref m0, .int n1] hPc hDc hK hS hT hFc).2⟩ rfl rfl hl.1 rfl (lv_room (Nat.le_of_ble_eq_true rfl)) dX11_addSource_78 ⟨Nat.le_of_ble_eq_true rfl, Nat.le_of_ble_eq_true rfl⟩) hP hD hS hFc [0, 1] [] rfl rfl (by decide) (by decide) (fun r9 u9 H locs hw hP hD hS => ?_)
        try dsimp only at hw
        rcases hw with ⟨rfl, rfl⟩
        have hP : va_P g.1 CLS [(m0, .inr (11, [.ref mh, .ref mg, .ref ms, .ref md, .ref mc, .ref mr, .int (-1), .int 0, .int 0, .int 0, .long 0, .int 0, .int 0, .int 0])), (mh, .inr (1, [.int 0, .ref (g.2.2 1), .int 0]))] H := hP
        have hD : va_D A [(m0, .inr (11, [.ref mh, .ref mg, .ref ms, .ref md, .ref mc, .ref mr, .int (-1), .int 0, .int 0, .int 0, .long 0, .int 0, .int 0, .int 0])), (mh, .inr (1, [.int 0, .ref (g.2.2 1), .int 0]))] := hD
        refine W.widen (k := 0) (n := 0) (Nat.le_of_ble_eq_true rfl) (Nat.le_of_ble_eq_true rfl) ?_
        refine lv_if_eq (tgt := 93) hx hb dX11_addSource_81 (by decide) (fun c_41 => ?_) (fun c_41 => absurd (by decide) c_41)
        refine lv_iconst (v := 1) hx hb dX11_addSource_93 (by decide) ?_
        refine lv_goto (tgt := 125) hx hb dX11_addSource_94 (by decide) ?_
        refine va_put (D := g.1) (ci := 11) (v := .int 1) (ty := .int) (C := RX11) (T := TX11) (N := 14) hx hb htg inG_X11 tyX11 tyX11_ok nmX11 hown hK hP hD hS 0 rfl rfl 13 (by decide) (htg _ k1353) (fun _ h9 => h9) rfl (by decide +kernel) rfl rfl (Nat.le_of_ble_eq_true rfl) dX11_addSource_125 (fun H locs hP hD hS => ?_)
        have hP : va_P g.1 CLS [(m0, .inr (11, [.ref mh, .ref mg, .ref ms, .ref md, .ref mc, .ref mr, .int (-1), .int 0, .int 0, .int 0, .long 0, .int 0, .int 0, .int 1])), (mh, .inr (1, [.int 0, .ref (g.2.2 1), .int 0]))] H := hP
        have hD : va_D A [(m0, .inr (11, [.ref mh, .ref mg, .ref ms, .ref md, .ref mc, .ref mr, .int (-1), .int 0, .int 0, .int 0, .long 0, .int 0, .int 0, .int 1])), (mh, .inr (1, [.int 0, .ref (g.2.2 1), .int 0]))] := hD
        refine lv_aload_n hx hb dX11_addSource_128 rfl (lv_at hl 1 rfl) ?_
        refine va_get (D := g.1) (ci := 11) (v := .int 1) (C := RX11) (T := TX11) (N := 14) hx hb htg inG_X11 hown hK hP 0 rfl rfl 13 (by decide) (htg _ k1353) (fun _ h9 => h9) rfl dX11_addSource_129 ?_
        refine lv_if_le (tgt := 137) hx hb dX11_addSource_132 (by decide) (fun c_42 => absurd c_42 (by decide)) (fun c_42 => ?_)
        refine lv_iconst (v := (-1)) hx hb dX11_addSource_135 (by decide) ?_
        have hP9 := hP.sub (ws' := [(m0, .inr (11, [.ref mh, .ref mg, .ref ms, .ref md, .ref mc, .ref mr, .int (-1), .int 0, .int 0, .int 0, .long 0, .int 0, .int 0, .int 1]))]) [0] rfl
        have hD9 := hD.sub (ws' := [(m0, .inr (11, [.ref mh, .ref mg, .ref ms, .ref md, .ref mc, .ref mr, .int (-1), .int 0, .int 0, .int 0, .long 0, .int 0, .int 0, .int 1]))]) [0] (by decide) rfl
        refine W.widen (k := 20) (n := 100) (Nat.le_of_ble_eq_true rfl) (Nat.le_of_ble_eq_true rfl) ?_
        exact W.iret (v := (-1)) hx hb hr (fun t ht hW => ⟨⟨(-1), [(m0, .inr (11, [.ref mh, .ref mg, .ref ms, .ref md, .ref mc, .ref mr, .int (-1), .int 0, .int 0, .int 0, .long 0, .int 0, .int 0, .int 1]))], rfl, ⟨rfl, rfl⟩, by rw [ht]; exact hP9, va_K.moved hW.alike hK, hD9⟩, hS.F ht⟩) hS.2.2 dX11_addSource_136
  · have hP : va_P g.1 CLS [(m0, .inr (11, [.ref mh, .ref mg, .ref ms, .ref md, .ref mc, .ref mr, .int (-1), .int 0, .int 0, .int 0, .long 0, .int 0, .int 0, .int 0])), (mh, .inr (1, [.int 0, .ref (g.2.2 1), .int 0]))] H := hP
    have hD : va_D A [(m0, .inr (11, [.ref mh, .ref mg, .ref ms, .ref md, .ref mc, .ref mr, .int (-1), .int 0, .int 0, .int 0, .long 0, .int 0, .int 0, .int 0])), (mh, .inr (1, [.int 0, .ref (g.2.2 1), .int 0]))] := hD
    refine W.widen (k := 0) (n := 0) (Nat.le_of_ble_eq_true rfl) (Nat.le_of_ble_eq_true rfl) ?_
    refine lv_if_lt (tgt := 72) hx hb dX11_addSource_6 (by decide) (fun c_43 => ?_) (fun c_43 => absurd (by decide) c_43)
    refine lv_iconst (v := 0) hx hb dX11_addSource_72 (by decide) ?_
    refine lv_istore (lv' := [(7, .int 0), (0, .ref m0), (1, .int n1), (2, .int n2), (3, .int n3), (4, .int n4), (5, .int n5), (6, .int n6)]) hx hb dX11_addSource_73 hl (by decide) rfl (fun ls hl => ?_)
    refine lv_aload_n hx hb dX11_addSource_75 rfl (lv_at hl 1 rfl) ?_
    refine lv_aload_n hx hb dX11_addSource_76 rfl (lv_at hl 1 rfl) ?_
    refine lv_iload_n hx hb dX11_addSource_77 rfl (lv_at hl 2 rfl) ?_
    have hPc := hP.sub (ws' := [(m0, .inr (11, [.ref mh, .ref mg, .ref ms, .ref md, .ref mc, .ref mr, .int (-1), .int 0, .int 0, .int 0, .long 0, .int 0, .int 0, .int 0])), (mh, .inr (1, [.int 0, .ref (g.2.2 1), .int 0]))]) [0, 1] rfl
    have hDc := hD.sub (ws' := [(m0, .inr (11, [.ref mh, .ref mg, .ref ms, .ref md, .ref mc, .ref mr, .int (-1), .int 0, .int 0, .int 0, .long 0, .int 0, .int 0, .int 0])), (mh, .inr (1, [.int 0, .ref (g.2.2 1), .int 0]))]) [0, 1] (by decide) rfl
    have hFc := va_free (wc := [(m0, .inr (11, [.ref mh, .ref mg, .ref ms, .ref md, .ref mc, .ref mr, .int (-1), .int 0, .int 0, .int 0, .long 0, .int 0, .int 0, .int 0])), (mh, .inr (1, [.int 0, .ref (g.2.2 1), .int 0]))]) hD hS hA [0, 1] rfl
    refine q_ci (wr := []) (va_runV (As := [.int n1]) (rest := [.ref m0]) ⟨hx, hb, hml, hown, htg⟩ (c_X11_isHero l hfl g m0 mh mg ms md mc mr n1  H.size) ⟨(qB htg k1640 k57 k1637 ok_X11_isHero rfl rfl ⟨Nat.le_of_ble_eq_true rfl, Nat.le_of_ble_eq_true rfl⟩), htg _ k1639, htg _ k23⟩ ⟨(q_pre [.ref m0, .int n1] hPc hDc hK hS hT hFc).1, va_recv hK hP (ci := 11) (q0 := 0) rfl rfl, (q_pre [.ref m0, .int n1] hPc hDc hK hS hT hFc).2⟩ rfl rfl hl.1 rfl (lv_room (Nat.le_of_ble_eq_true rfl)) dX11_addSource_78 ⟨Nat.le_of_ble_eq_true rfl, Nat.le_of_ble_eq_true rfl⟩) hP hD hS hFc [0, 1] [] rfl rfl (by decide) (by decide) (fun r9 u9 H locs hw hP hD hS => ?_)
    try dsimp only at hw
    rcases hw with ⟨rfl, rfl⟩
    have hP : va_P g.1 CLS [(m0, .inr (11, [.ref mh, .ref mg, .ref ms, .ref md, .ref mc, .ref mr, .int (-1), .int 0, .int 0, .int 0, .long 0, .int 0, .int 0, .int 0])), (mh, .inr (1, [.int 0, .ref (g.2.2 1), .int 0]))] H := hP
    have hD : va_D A [(m0, .inr (11, [.ref mh, .ref mg, .ref ms, .ref md, .ref mc, .ref mr, .int (-1), .int 0, .int 0, .int 0, .long 0, .int 0, .int 0, .int 0])), (mh, .inr (1, [.int 0, .ref (g.2.2 1), .int 0]))] := hD
    refine W.widen (k := 0) (n := 0) (Nat.le_of_ble_eq_true rfl) (Nat.le_of_ble_eq_true rfl) ?_
    refine lv_if_eq (tgt := 93) hx hb dX11_addSource_81 (by decide) (fun c_44 => ?_) (fun c_44 => absurd (by decide) c_44)
    refine lv_iconst (v := 1) hx hb dX11_addSource_93 (by decide) ?_
    refine lv_goto (tgt := 125) hx hb dX11_addSource_94 (by decide) ?_
    refine va_put (D := g.1) (ci := 11) (v := .int 1) (ty := .int) (C := RX11) (T := TX11) (N := 14) hx hb htg inG_X11 tyX11 tyX11_ok nmX11 hown hK hP hD hS 0 rfl rfl 13 (by decide) (htg _ k1353) (fun _ h9 => h9) rfl (by decide +kernel) rfl rfl (Nat.le_of_ble_eq_true rfl) dX11_addSource_125 (fun H locs hP hD hS => ?_)
    have hP : va_P g.1 CLS [(m0, .inr (11, [.ref mh, .ref mg, .ref ms, .ref md, .ref mc, .ref mr, .int (-1), .int 0, .int 0, .int 0, .long 0, .int 0, .int 0, .int 1])), (mh, .inr (1, [.int 0, .ref (g.2.2 1), .int 0]))] H := hP
    have hD : va_D A [(m0, .inr (11, [.ref mh, .ref mg, .ref ms, .ref md, .ref mc, .ref mr, .int (-1), .int 0, .int 0, .int 0, .long 0, .int 0, .int 0, .int 1])), (mh, .inr (1, [.int 0, .ref (g.2.2 1), .int 0]))] := hD
    refine lv_aload_n hx hb dX11_addSource_128 rfl (lv_at hl 1 rfl) ?_
    refine va_get (D := g.1) (ci := 11) (v := .int 1) (C := RX11) (T := TX11) (N := 14) hx hb htg inG_X11 hown hK hP 0 rfl rfl 13 (by decide) (htg _ k1353) (fun _ h9 => h9) rfl dX11_addSource_129 ?_
    refine lv_if_le (tgt := 137) hx hb dX11_addSource_132 (by decide) (fun c_45 => absurd c_45 (by decide)) (fun c_45 => ?_)
    refine lv_iconst (v := (-1)) hx hb dX11_addSource_135 (by decide) ?_
    have hP9 := hP.sub (ws' := [(m0, .inr (11, [.ref mh, .ref mg, .ref ms, .ref md, .ref mc, .ref mr, .int (-1), .int 0, .int 0, .int 0, .long 0, .int 0, .int 0, .int 1]))]) [0] rfl
    have hD9 := hD.sub (ws' := [(m0, .inr (11, [.ref mh, .ref mg, .ref ms, .ref md, .ref mc, .ref mr, .int (-1), .int 0, .int 0, .int 0, .long 0, .int 0, .int 0, .int 1]))]) [0] (by decide) rfl
    refine W.widen (k := 20) (n := 100) (Nat.le_of_ble_eq_true rfl) (Nat.le_of_ble_eq_true rfl) ?_
    exact W.iret (v := (-1)) hx hb hr (fun t ht hW => ⟨⟨(-1), [(m0, .inr (11, [.ref mh, .ref mg, .ref ms, .ref md, .ref mc, .ref mr, .int (-1), .int 0, .int 0, .int 0, .long 0, .int 0, .int 0, .int 1]))], rfl, ⟨rfl, rfl⟩, by rw [ht]; exact hP9, va_K.moved hW.alike hK, hD9⟩, hS.F ht⟩) hS.2.2 dX11_addSource_136

set_option maxHeartbeats 4000000 in
set_option maxRecDepth 100000 in
theorem c_m_afflict (l : Launch) (hfl : l.stackTraces = false) (g : GP) (m0 : Nat) (mh : Nat) (mg : Nat) (ms : Nat) (md : Nat) (mc : Nat) (mr : Nat) (n1 : Int32) (n2 : Int32) (n3 : Int32) (n4 : Int32) (n5 : Int32)  : CI l yX11_afflict (wG yX11_afflict cX11_afflict 7 (Option.some Jvm.ClassFile.FieldType.int)) (LV 6 20 100) g [.ref m0, .int n1, .int n2, .int n3, .int n4, .int n5] ([(m0, .inr (11, [.ref mh, .ref mg, .ref ms, .ref md, .ref mc, .ref mr, .int (-1), .int 0, .int 0, .int 0, .long 0, .int 0, .int 0, .int 0])), (mh, .inr (1, [.int 0, .ref (g.2.2 1), .int 0]))]) (fun (r : Int32) (u : va_W) => r = (-1) ∧ u = [(m0, .inr (11, [.ref mh, .ref mg, .ref ms, .ref md, .ref mc, .ref mr, .int (-1), .int 0, .int 0, .int 0, .long 0, .int 0, .int 0, .int 1]))]) := by
  intro sz
  refine Met.ofW (cc := cX11_afflict) (maxL := 7) (ret := (Option.some Jvm.ClassFile.FieldType.int)) (by decide) rfl ?_
  intro p e s m args below meth c s₁ B hml hv
  obtain ⟨rfl, hsz, hP, hK, hD0, hT0⟩ := hv
  have hx := B.exec
  have hb := B.bytes
  have hr := B.returns
  have hts := atoms_spec (ws := (wG yX11_afflict cX11_afflict 7 (Option.some Jvm.ClassFile.FieldType.int))) B.pre
  have htg : ∀ w ∈ G9, w.before _ s = true := fun w h => hts w (List.mem_cons_of_mem _ h)
  have hown : s.vm.findClass "HeroTableModel" = some m.cls := findClass_of_methodNamed B.named
  have hlocks := B.notSynchronized
  subst hsz
  have hD := hD0.self (sz := s.heap.size)
  have hT := hT0
  clear hT0
  generalize hAe : va_A [(m0, .inr (11, [.ref mh, .ref mg, .ref ms, .ref md, .ref mc, .ref mr, .int (-1), .int 0, .int 0, .int 0, .long 0, .int 0, .int 0, .int 0])), (mh, .inr (1, [.int 0, .ref (g.2.2 1), .int 0]))] s.heap.size = A at hD hT ⊢
  have hA : ∀ q : Nat, s.heap.size ≤ q → A q := fun q h => by rw [← hAe]; exact Or.inr h
  obtain ⟨H, hH0⟩ : ∃ H, H = s.heap := ⟨_, rfl⟩
  have hS : va_S A s.heap H [] := by rw [hH0]; exact va_S.rf
  have hP : va_P g.1 CLS [(m0, .inr (11, [.ref mh, .ref mg, .ref ms, .ref md, .ref mc, .ref mr, .int (-1), .int 0, .int 0, .int 0, .long 0, .int 0, .int 0, .int 0])), (mh, .inr (1, [.int 0, .ref (g.2.2 1), .int 0]))] H := by rw [hH0]; exact hP
  rw [← hH0]
  have hl := lv_entry ([.ref m0, .int n1, .int n2, .int n3, .int n4, .int n5]) (n := 7) (Nat.le_of_ble_eq_true rfl)
  rw [lg_entry_eq]
  generalize (lg_sl ([.ref m0, .int n1, .int n2, .int n3, .int n4, .int n5]) ++ List.replicate (7 - (lg_sl ([.ref m0, .int n1, .int n2, .int n3, .int n4, .int n5])).length) Slot.unset).toArray = ls at hl ⊢
  have hl : lv_has ls 7 [(0, .ref m0), (1, .int n1), (2, .int n2), (3, .int n3), (4, .int n4), (5, .int n5)] := hl
  refine va_ldcS hx hb hown (hT.2.1 _ (List.mem_of_getElem? (i := 5) rfl)) dX11_afflict_0 ?_
  refine lv_iload_n hx hb dX11_afflict_2 rfl (lv_at hl 2 rfl) ?_
  have hPc := hP.sub (ws' := []) [] rfl
  have hDc := hD.sub (ws' := []) [] (by decide) rfl
  have hFc := va_free (wc := []) hD hS hA [] rfl
  refine q_ci (wr := [(m0, .inr (11, [.ref mh, .ref mg, .ref ms, .ref md, .ref mc, .ref mr, .int (-1), .int 0, .int 0, .int 0, .long 0, .int 0, .int 0, .int 0])), (mh, .inr (1, [.int 0, .ref (g.2.2 1), .int 0]))]) (va_runV (As := [.int n2]) (rest := []) ⟨hx, hb, hml, hown, htg⟩ (c_J0_indexOf_5 l hfl g n2  H.size) ⟨(qB htg k428 k77 k1632 ok_J0_indexOf_0f7a4 rfl rfl ⟨Nat.le_of_ble_eq_true rfl, Nat.le_of_ble_eq_true rfl⟩), htg _ k426, htg _ k427⟩ ⟨(q_pre [.ref (g.2.2 15), .int n2] hPc hDc hK hS hT hFc).1, q_recvS hT hS (i := 5) (by decide), (q_pre [.ref (g.2.2 15), .int n2] hPc hDc hK hS hT hFc).2⟩ rfl rfl hl.1 rfl (lv_room (Nat.le_of_ble_eq_true rfl)) dX11_afflict_3 ⟨Nat.le_of_ble_eq_true rfl, Nat.le_of_ble_eq_true rfl⟩) hP hD hS hFc [] [0, 1] rfl rfl (by decide) (by decide) (fun r9 u9 H locs hw hP hD hS => ?_)
  try dsimp only at hw
  rcases hw with ⟨c_1, rfl, rfl⟩ | ⟨c_2, rfl, rfl⟩
  · have hP : va_P g.1 CLS [(m0, .inr (11, [.ref mh, .ref mg, .ref ms, .ref md, .ref mc, .ref mr, .int (-1), .int 0, .int 0, .int 0, .long 0, .int 0, .int 0, .int 0])), (mh, .inr (1, [.int 0, .ref (g.2.2 1), .int 0]))] H := hP
    have hD : va_D A [(m0, .inr (11, [.ref mh, .ref mg, .ref ms, .ref md, .ref mc, .ref mr, .int (-1), .int 0, .int 0, .int 0, .long 0, .int 0, .int 0, .int 0])), (mh, .inr (1, [.int 0, .ref (g.2.2 1), .int 0]))] := hD
    refine W.widen (k := 0) (n := 0) (Nat.le_of_ble_eq_true rfl) (Nat.le_of_ble_eq_true rfl) ?_
    refine lv_if_lt (tgt := 38) hx hb dX11_afflict_6 (by decide) (fun c_3 => ?_) (fun c_3 => ?_)
    · refine lv_iconst (v := 0) hx hb dX11_afflict_38 (by decide) ?_
      refine lv_istore (lv' := [(6, .int 0), (0, .ref m0), (1, .int n1), (2, .int n2), (3, .int n3), (4, .int n4), (5, .int n5)]) hx hb dX11_afflict_39 hl (by decide) rfl (fun ls hl => ?_)
      refine lv_aload_n hx hb dX11_afflict_41 rfl (lv_at hl 1 rfl) ?_
      refine lv_aload_n hx hb dX11_afflict_42 rfl (lv_at hl 1 rfl) ?_
      refine lv_iload_n hx hb dX11_afflict_43 rfl (lv_at hl 2 rfl) ?_
      have hPc := hP.sub (ws' := [(m0, .inr (11, [.ref mh, .ref mg, .ref ms, .ref md, .ref mc, .ref mr, .int (-1), .int 0, .int 0, .int 0, .long 0, .int 0, .int 0, .int 0])), (mh, .inr (1, [.int 0, .ref (g.2.2 1), .int 0]))]) [0, 1] rfl
      have hDc := hD.sub (ws' := [(m0, .inr (11, [.ref mh, .ref mg, .ref ms, .ref md, .ref mc, .ref mr, .int (-1), .int 0, .int 0, .int 0, .long 0, .int 0, .int 0, .int 0])), (mh, .inr (1, [.int 0, .ref (g.2.2 1), .int 0]))]) [0, 1] (by decide) rfl
      have hFc := va_free (wc := [(m0, .inr (11, [.ref mh, .ref mg, .ref ms, .ref md, .ref mc, .ref mr, .int (-1), .int 0, .int 0, .int 0, .long 0, .int 0, .int 0, .int 0])), (mh, .inr (1, [.int 0, .ref (g.2.2 1), .int 0]))]) hD hS hA [0, 1] rfl
      refine q_ci (wr := []) (va_runV (As := [.int n1]) (rest := [.ref m0]) ⟨hx, hb, hml, hown, htg⟩ (c_X11_isHero l hfl g m0 mh mg ms md mc mr n1  H.size) ⟨(qB htg k1640 k57 k1637 ok_X11_isHero rfl rfl ⟨Nat.le_of_ble_eq_true rfl, Nat.le_of_ble_eq_true rfl⟩), htg _ k1639, htg _ k23⟩ ⟨(q_pre [.ref m0, .int n1] hPc hDc hK hS hT hFc).1, va_recv hK hP (ci := 11) (q0 := 0) rfl rfl, (q_pre [.ref m0, .int n1] hPc hDc hK hS hT hFc).2⟩ rfl rfl hl.1 rfl (lv_room (Nat.le_of_ble_eq_true rfl)) dX11_afflict_44 ⟨Nat.le_of_ble_eq_true rfl, Nat.le_of_ble_eq_true rfl⟩) hP hD hS hFc [0, 1] [] rfl rfl (by decide) (by decide) (fun r9 u9 H locs hw hP hD hS => ?_)
      try dsimp only at hw
      rcases hw with ⟨rfl, rfl⟩
      have hP : va_P g.1 CLS [(m0, .inr (11, [.ref mh, .ref mg, .ref ms, .ref md, .ref mc, .ref mr, .int (-1), .int 0, .int 0, .int 0, .long 0, .int 0, .int 0, .int 0])), (mh, .inr (1, [.int 0, .ref (g.2.2 1), .int 0]))] H := hP
      have hD : va_D A [(m0, .inr (11, [.ref mh, .ref mg, .ref ms, .ref md, .ref mc, .ref mr, .int (-1), .int 0, .int 0, .int 0, .long 0, .int 0, .int 0, .int 0])), (mh, .inr (1, [.int 0, .ref (g.2.2 1), .int 0]))] := hD
      refine W.widen (k := 0) (n := 0) (Nat.le_of_ble_eq_true rfl) (Nat.le_of_ble_eq_true rfl) ?_
      refine lv_if_eq (tgt := 59) hx hb dX11_afflict_47 (by decide) (fun c_4 => ?_) (fun c_4 => absurd (by decide) c_4)
      refine lv_iconst (v := 1) hx hb dX11_afflict_59 (by decide) ?_
      refine lv_goto (tgt := 91) hx hb dX11_afflict_60 (by decide) ?_
      refine va_put (D := g.1) (ci := 11) (v := .int 1) (ty := .int) (C := RX11) (T := TX11) (N := 14) hx hb htg inG_X11 tyX11 tyX11_ok nmX11 hown hK hP hD hS 0 rfl rfl 13 (by decide) (htg _ k1353) (fun _ h9 => h9) rfl (by decide +kernel) rfl rfl (Nat.le_of_ble_eq_true rfl) dX11_afflict_91 (fun H locs hP hD hS => ?_)
      have hP : va_P g.1 CLS [(m0, .inr (11, [.ref mh, .ref mg, .ref ms, .ref md, .ref mc, .ref mr, .int (-1), .int 0, .int 0, .int 0, .long 0, .int 0, .int 0, .int 1])), (mh, .inr (1, [.int 0, .ref (g.2.2 1), .int 0]))] H := hP
      have hD : va_D A [(m0, .inr (11, [.ref mh, .ref mg, .ref ms, .ref md, .ref mc, .ref mr, .int (-1), .int 0, .int 0, .int 0, .long 0, .int 0, .int 0, .int 1])), (mh, .inr (1, [.int 0, .ref (g.2.2 1), .int 0]))] := hD
      refine lv_aload_n hx hb dX11_afflict_94 rfl (lv_at hl 1 rfl) ?_
      refine va_get (D := g.1) (ci := 11) (v := .int 1) (C := RX11) (T := TX11) (N := 14) hx hb htg inG_X11 hown hK hP 0 rfl rfl 13 (by decide) (htg _ k1353) (fun _ h9 => h9) rfl dX11_afflict_95 ?_
      refine lv_if_le (tgt := 103) hx hb dX11_afflict_98 (by decide) (fun c_5 => absurd c_5 (by decide)) (fun c_5 => ?_)
      refine lv_iconst (v := (-1)) hx hb dX11_afflict_101 (by decide) ?_
      have hP9 := hP.sub (ws' := [(m0, .inr (11, [.ref mh, .ref mg, .ref ms, .ref md, .ref mc, .ref mr, .int (-1), .int 0, .int 0, .int 0, .long 0, .int 0, .int 0, .int 1]))]) [0] rfl
      have hD9 := hD.sub (ws' := [(m0, .inr (11, [.ref mh, .ref mg, .ref ms, .ref md, .ref mc, .ref mr, .int (-1), .int 0, .int 0, .int 0, .long 0, .int 0, .int 0, .int 1]))]) [0] (by decide) rfl
      refine W.widen (k := 20) (n := 100) (Nat.le_of_ble_eq_true rfl) (Nat.le_of_ble_eq_true rfl) ?_
      exact W.iret (v := (-1)) hx hb hr (fun t ht hW => ⟨⟨(-1), [(m0, .inr (11, [.ref mh, .ref mg, .ref ms, .ref md, .ref mc, .ref mr, .int (-1), .int 0, .int 0, .int 0, .long 0, .int 0, .int 0, .int 1]))], rfl, ⟨rfl, rfl⟩, by rw [ht]; exact hP9, va_K.moved hW.alike hK, hD9⟩, hS.F ht⟩) hS.2.2 dX11_afflict_102
    · refine lv_iload_n hx hb dX11_afflict_9 rfl (lv_at hl 3 rfl) ?_
      refine lv_i2l (v := n3.toInt64) hx hb dX11_afflict_10 rfl ?_
      refine lv_lconst (v := 0) hx hb dX11_afflict_11 (by decide) ?_
      refine lv_ldc2 (own := "HeroTableModel") (index := 92) (v := 30) hx hb hown (htg _ k1395) dX11_afflict_12 ?_
      have hPc := hP.sub (ws' := []) [] rfl
      have hDc := hD.sub (ws' := []) [] (by decide) rfl
      have hFc := va_free (wc := []) hD hS hA [] rfl
      refine q_ci (wr := [(m0, .inr (11, [.ref mh, .ref mg, .ref ms, .ref md, .ref mc, .ref mr, .int (-1), .int 0, .int 0, .int 0, .long 0, .int 0, .int 0, .int 0])), (mh, .inr (1, [.int 0, .ref (g.2.2 1), .int 0]))]) (va_runS (As := [.long n3.toInt64, .long 0, .long 30]) (rest := []) ⟨hx, hb, hml, hown, htg⟩ (c_X11_in l hfl g n3.toInt64 0 30  H.size) ⟨(qB htg k1393 k57 k1391 ok_X11_in rfl rfl ⟨Nat.le_of_ble_eq_true rfl, Nat.le_of_ble_eq_true rfl⟩), htg _ k1392⟩ (q_pre [.long n3.toInt64, .long 0, .long 30] hPc hDc hK hS hT hFc) rfl rfl hl.1 rfl (lv_room (Nat.le_of_ble_eq_true rfl)) dX11_afflict_15 ⟨Nat.le_of_ble_eq_true rfl, Nat.le_of_ble_eq_true rfl⟩) hP hD hS hFc [] [0, 1] rfl rfl (by decide) (by decide) (fun r9 u9 H locs hw hP hD hS => ?_)
      try dsimp only at hw
      rcases hw with ⟨c_6, rfl, rfl⟩ | ⟨c_7, rfl, rfl⟩
      · have hP : va_P g.1 CLS [(m0, .inr (11, [.ref mh, .ref mg, .ref ms, .ref md, .ref mc, .ref mr, .int (-1), .int 0, .int 0, .int 0, .long 0, .int 0, .int 0, .int 0])), (mh, .inr (1, [.int 0, .ref (g.2.2 1), .int 0]))] H := hP
        have hD : va_D A [(m0, .inr (11, [.ref mh, .ref mg, .ref ms, .ref md, .ref mc, .ref mr, .int (-1), .int 0, .int 0, .int 0, .long 0, .int 0, .int 0, .int 0])), (mh, .inr (1, [.int 0, .ref (g.2.2 1), .int 0]))] := hD
        refine W.widen (k := 0) (n := 0) (Nat.le_of_ble_eq_true rfl) (Nat.le_of_ble_eq_true rfl) ?_
        refine lv_if_eq (tgt := 38) hx hb dX11_afflict_18 (by decide) (fun c_8 => absurd c_8 (by decide)) (fun c_8 => ?_)
        refine lv_iload hx hb dX11_afflict_21 (lv_at hl 4 rfl) ?_
        refine lv_i2l (v := n4.toInt64) hx hb dX11_afflict_23 rfl ?_
        refine lv_lconst (v := 0) hx hb dX11_afflict_24 (by decide) ?_
        refine lv_ldc2 (own := "HeroTableModel") (index := 192) (v := 9) hx hb hown (htg _ k1718) dX11_afflict_25 ?_
        have hPc := hP.sub (ws' := []) [] rfl
        have hDc := hD.sub (ws' := []) [] (by decide) rfl
        have hFc := va_free (wc := []) hD hS hA [] rfl
        refine q_ci (wr := [(m0, .inr (11, [.ref mh, .ref mg, .ref ms, .ref md, .ref mc, .ref mr, .int (-1), .int 0, .int 0, .int 0, .long 0, .int 0, .int 0, .int 0])), (mh, .inr (1, [.int 0, .ref (g.2.2 1), .int 0]))]) (va_runS (As := [.long n4.toInt64, .long 0, .long 9]) (rest := []) ⟨hx, hb, hml, hown, htg⟩ (c_X11_in l hfl g n4.toInt64 0 9  H.size) ⟨(qB htg k1393 k57 k1391 ok_X11_in rfl rfl ⟨Nat.le_of_ble_eq_true rfl, Nat.le_of_ble_eq_true rfl⟩), htg _ k1392⟩ (q_pre [.long n4.toInt64, .long 0, .long 9] hPc hDc hK hS hT hFc) rfl rfl hl.1 rfl (lv_room (Nat.le_of_ble_eq_true rfl)) dX11_afflict_28 ⟨Nat.le_of_ble_eq_true rfl, Nat.le_of_ble_eq_true rfl⟩) hP hD hS hFc [] [0, 1] rfl rfl (by decide) (by decide) (fun r9 u9 H locs hw hP hD hS => ?_)
        try dsimp only at hw
        rcases hw with ⟨c_9, rfl, rfl⟩ | ⟨c_10, rfl, rfl⟩
        · have hP : va_P g.1 CLS [(m0, .inr (11, [.ref mh, .ref mg, .ref ms, .ref md, .ref mc, .ref mr, .int (-1), .int 0, .int 0, .int 0, .long 0, .int 0, .int 0, .int 0])), (mh, .inr (1, [.int 0, .ref (g.2.2 1), .int 0]))] H := hP
          have hD : va_D A [(m0, .inr (11, [.ref mh, .ref mg, .ref ms, .ref md, .ref mc, .ref mr, .int (-1), .int 0, .int 0, .int 0, .long 0, .int 0, .int 0, .int 0])), (mh, .inr (1, [.int 0, .ref (g.2.2 1), .int 0]))] := hD
          refine W.widen (k := 0) (n := 0) (Nat.le_of_ble_eq_true rfl) (Nat.le_of_ble_eq_true rfl) ?_
          refine lv_if_eq (tgt := 38) hx hb dX11_afflict_31 (by decide) (fun c_11 => absurd c_11 (by decide)) (fun c_11 => ?_)
          refine lv_iconst (v := 1) hx hb dX11_afflict_34 (by decide) ?_
          refine lv_goto (tgt := 39) hx hb dX11_afflict_35 (by decide) ?_
          refine lv_istore (lv' := [(6, .int 1), (0, .ref m0), (1, .int n1), (2, .int n2), (3, .int n3), (4, .int n4), (5, .int n5)]) hx hb dX11_afflict_39 hl (by decide) rfl (fun ls hl => ?_)
          refine lv_aload_n hx hb dX11_afflict_41 rfl (lv_at hl 1 rfl) ?_
          refine lv_aload_n hx hb dX11_afflict_42 rfl (lv_at hl 1 rfl) ?_
          refine lv_iload_n hx hb dX11_afflict_43 rfl (lv_at hl 2 rfl) ?_
          have hPc := hP.sub (ws' := [(m0, .inr (11, [.ref mh, .ref mg, .ref ms, .ref md, .ref mc, .ref mr, .int (-1), .int 0, .int 0, .int 0, .long 0, .int 0, .int 0, .int 0])), (mh, .inr (1, [.int 0, .ref (g.2.2 1), .int 0]))]) [0, 1] rfl
          have hDc := hD.sub (ws' := [(m0, .inr (11, [.ref mh, .ref mg, .ref ms, .ref md, .ref mc, .ref mr, .int (-1), .int 0, .int 0, .int 0, .long 0, .int 0, .int 0, .int 0])), (mh, .inr (1, [.int 0, .ref (g.2.2 1), .int 0]))]) [0, 1] (by decide) rfl
          have hFc := va_free (wc := [(m0, .inr (11, [.ref mh, .ref mg, .ref ms, .ref md, .ref mc, .ref mr, .int (-1), .int 0, .int 0, .int 0, .long 0, .int 0, .int 0, .int 0])), (mh, .inr (1, [.int 0, .ref (g.2.2 1), .int 0]))]) hD hS hA [0, 1] rfl
          refine q_ci (wr := []) (va_runV (As := [.int n1]) (rest := [.ref m0]) ⟨hx, hb, hml, hown, htg⟩ (c_X11_isHero l hfl g m0 mh mg ms md mc mr n1  H.size) ⟨(qB htg k1640 k57 k1637 ok_X11_isHero rfl rfl ⟨Nat.le_of_ble_eq_true rfl, Nat.le_of_ble_eq_true rfl⟩), htg _ k1639, htg _ k23⟩ ⟨(q_pre [.ref m0, .int n1] hPc hDc hK hS hT hFc).1, va_recv hK hP (ci := 11) (q0 := 0) rfl rfl, (q_pre [.ref m0, .int n1] hPc hDc hK hS hT hFc).2⟩ rfl rfl hl.1 rfl (lv_room (Nat.le_of_ble_eq_true rfl)) dX11_afflict_44 ⟨Nat.le_of_ble_eq_true rfl, Nat.le_of_ble_eq_true rfl⟩) hP hD hS hFc [0, 1] [] rfl rfl (by decide) (by decide) (fun r9 u9 H locs hw hP hD hS => ?_)
          try dsimp only at hw
          rcases hw with ⟨rfl, rfl⟩
          have hP : va_P g.1 CLS [(m0, .inr (11, [.ref mh, .ref mg, .ref ms, .ref md, .ref mc, .ref mr, .int (-1), .int 0, .int 0, .int 0, .long 0, .int 0, .int 0, .int 0])), (mh, .inr (1, [.int 0, .ref (g.2.2 1), .int 0]))] H := hP
          have hD : va_D A [(m0, .inr (11, [.ref mh, .ref mg, .ref ms, .ref md, .ref mc, .ref mr, .int (-1), .int 0, .int 0, .int 0, .long 0, .int 0, .int 0, .int 0])), (mh, .inr (1, [.int 0, .ref (g.2.2 1), .int 0]))] := hD
          refine W.widen (k := 0) (n := 0) (Nat.le_of_ble_eq_true rfl) (Nat.le_of_ble_eq_true rfl) ?_
          refine lv_if_eq (tgt := 59) hx hb dX11_afflict_47 (by decide) (fun c_12 => ?_) (fun c_12 => absurd (by decide) c_12)
          refine lv_iconst (v := 1) hx hb dX11_afflict_59 (by decide) ?_
          refine lv_goto (tgt := 91) hx hb dX11_afflict_60 (by decide) ?_
          refine va_put (D := g.1) (ci := 11) (v := .int 1) (ty := .int) (C := RX11) (T := TX11) (N := 14) hx hb htg inG_X11 tyX11 tyX11_ok nmX11 hown hK hP hD hS 0 rfl rfl 13 (by decide) (htg _ k1353) (fun _ h9 => h9) rfl (by decide +kernel) rfl rfl (Nat.le_of_ble_eq_true rfl) dX11_afflict_91 (fun H locs hP hD hS => ?_)
          have hP : va_P g.1 CLS [(m0, .inr (11, [.ref mh, .ref mg, .ref ms, .ref md, .ref mc, .ref mr, .int (-1), .int 0, .int 0, .int 0, .long 0, .int 0, .int 0, .int 1])), (mh, .inr (1, [.int 0, .ref (g.2.2 1), .int 0]))] H := hP
          have hD : va_D A [(m0, .inr (11, [.ref mh, .ref mg, .ref ms, .ref md, .ref mc, .ref mr, .int (-1), .int 0, .int 0, .int 0, .long 0, .int 0, .int 0, .int 1])), (mh, .inr (1, [.int 0, .ref (g.2.2 1), .int 0]))] := hD
          refine lv_aload_n hx hb dX11_afflict_94 rfl (lv_at hl 1 rfl) ?_
          refine va_get (D := g.1) (ci := 11) (v := .int 1) (C := RX11) (T := TX11) (N := 14) hx hb htg inG_X11 hown hK hP 0 rfl rfl 13 (by decide) (htg _ k1353) (fun _ h9 => h9) rfl dX11_afflict_95 ?_
          refine lv_if_le (tgt := 103) hx hb dX11_afflict_98 (by decide) (fun c_13 => absurd c_13 (by decide)) (fun c_13 => ?_)
          refine lv_iconst (v := (-1)) hx hb dX11_afflict_101 (by decide) ?_
          have hP9 := hP.sub (ws' := [(m0, .inr (11, [.ref mh, .ref mg, .ref ms, .ref md, .ref mc, .ref mr, .int (-1), .int 0, .int 0, .int 0, .long 0, .int 0, .int 0, .int 1]))]) [0] rfl
          have hD9 := hD.sub (ws' := [(m0, .inr (11, [.ref mh, .ref mg, .ref ms, .ref md, .ref mc, .ref mr, .int (-1), .int 0, .int 0, .int 0, .long 0, .int 0, .int 0, .int 1]))]) [0] (by decide) rfl
          refine W.widen (k := 20) (n := 100) (Nat.le_of_ble_eq_true rfl) (Nat.le_of_ble_eq_true rfl) ?_
          exact W.iret (v := (-1)) hx hb hr (fun t ht hW => ⟨⟨(-1), [(m0, .inr (11, [.ref mh, .ref mg, .ref ms, .ref md, .ref mc, .ref mr, .int (-1), .int 0, .int 0, .int 0, .long 0, .int 0, .int 0, .int 1]))], rfl, ⟨rfl, rfl⟩, by rw [ht]; exact hP9, va_K.moved hW.alike hK, hD9⟩, hS.F ht⟩) hS.2.2 dX11_afflict_102
        · have hP : va_P g.1 CLS [(m0, .inr (11, [.ref mh, .ref mg, .ref ms, .ref md, .ref mc, .ref mr, .int (-1), .int 0, .int 0, .int 0, .long 0, .int 0, .int 0, .int 0])), (mh, .inr (1, [.int 0, .ref (g.2.2 1), .int 0]))] H := hP
          have hD : va_D A [(m0, .inr (11, [.ref mh, .ref mg, .ref ms, .ref md, .ref mc, .ref mr, .int (-1), .int 0, .int 0, .int 0, .long 0, .int 0, .int 0, .int 0])), (mh, .inr (1, [.int 0, .ref (g.2.2 1), .int 0]))] := hD
          refine W.widen (k := 0) (n := 0) (Nat.le_of_ble_eq_true rfl) (Nat.le_of_ble_eq_true rfl) ?_
          refine lv_if_eq (tgt := 38) hx hb dX11_afflict_31 (by decide) (fun c_14 => ?_) (fun c_14 => absurd (by decide) c_14)
          refine lv_iconst (v := 0) hx hb dX11_afflict_38 (by decide) ?_
          refine lv_istore (lv' := [(6, .int 0), (0, .ref m0), (1, .int n1), (2, .int n2), (3, .int n3), (4, .int n4), (5, .int n5)]) hx hb dX11_afflict_39 hl (by decide) rfl (fun ls hl => ?_)
          refine lv_aload_n hx hb dX11_afflict_41 rfl (lv_at hl 1 rfl) ?_
          refine lv_aload_n hx hb dX11_afflict_42 rfl (lv_at hl 1 rfl) ?_
          refine lv_iload_n hx hb dX11_afflict_43 rfl (lv_at hl 2 rfl) ?_
          have hPc := hP.sub (ws' := [(m0, .inr (11, [.ref mh, .ref mg, .ref ms, .ref md, .ref mc, .ref mr, .int (-1), .int 0, .int 0, .int 0, .long 0, .int 0, .int 0, .int 0])), (mh, .inr (1, [.int 0, .ref (g.2.2 1), .int 0]))]) [0, 1] rfl
          have hDc := hD.sub (ws' := [(m0, .inr (11, [.ref mh, .ref mg, .ref ms, .ref md, .ref mc, .ref mr, .int (-1), .int 0, .int 0, .int 0, .long 0, .int 0, .int 0, .int 0])), (mh, .inr (1, [.int 0, .ref (g.2.2 1), .int 0]))]) [0, 1] (by decide) rfl
          have hFc := va_free (wc := [(m0, .inr (11, [.ref mh, .ref mg, .ref ms, .ref md, .ref mc, .ref mr, .int (-1), .int 0, .int 0, .int 0, .long 0, .int 0, .int 0, .int 0])), (mh, .inr (1, [.int 0, .ref (g.2.2 1), .int 0]))]) hD hS hA [0, 1] rfl
          refine q_ci (wr := []) (va_runV (As := [.int n1]) (rest := [.ref m0]) ⟨hx, hb, hml, hown, htg⟩ (c_X11_isHero l hfl g m0 mh mg ms md mc mr n1  H.size) ⟨(qB htg k1640 k57 k1637 ok_X11_isHero rfl rfl ⟨Nat.le_of_ble_eq_true rfl, Nat.le_of_ble_eq_true rfl⟩), htg _ k1639, htg _ k23⟩ ⟨(q_pre [.ref m0, .int n1] hPc hDc hK hS hT hFc).1, va_recv hK hP (ci := 11) (q0 := 0) rfl rfl, (q_pre [.ref m0, .int n1] hPc hDc hK hS hT hFc).2⟩ rfl rfl hl.1 rfl (lv_room (Nat.le_of_ble_eq_true rfl)) dX11_afflict_44 ⟨Nat.le_of_ble_eq_true rfl, Nat.le_of_ble_eq_true rfl⟩) hP hD hS hFc [0, 1] [] rfl rfl (by decide) (by decide) (fun r9 u9 H locs hw hP hD hS => ?_)
          try dsimp only at hw
          rcases hw with ⟨rfl, rfl⟩
          have hP : va_P g.1 CLS [(m0, .inr (11, [.ref mh, .ref mg, .ref ms, .ref md, .ref mc, .ref mr, .int (-1), .int 0, .int 0, .int 0, .long 0, .int 0, .int 0, .int 0])), (mh, .inr (1, [.int 0, .ref (g.2.2 1), .int 0]))] H := hP
          have hD : va_D A [(m0, .inr (11, [.ref mh, .ref mg, .ref ms, .ref md, .ref mc, .ref mr, .int (-1), .int 0, .int 0, .int 0, .long 0, .int 0, .int 0, .int 0])), (mh, .inr (1, [.int 0, .ref (g.2.2 1), .int 0]))] := hD
          refine W.widen (k := 0) (n := 0) (Nat.le_of_ble_eq_true rfl) (Nat.le_of_ble_eq_true rfl) ?_
          refine lv_if_eq (tgt := 59) hx hb dX11_afflict_47 (by decide) (fun c_15 => ?_) (fun c_15 => absurd (by decide) c_15)
          refine lv_iconst (v := 1) hx hb dX11_afflict_59 (by decide) ?_
          refine lv_goto (tgt := 91) hx hb dX11_afflict_60 (by decide) ?_
          refine va_put (D := g.1) (ci := 11) (v := .int 1) (ty := .int) (C := RX11) (T := TX11) (N := 14) hx hb htg inG_X11 tyX11 tyX11_ok nmX11 hown hK hP hD hS 0 rfl rfl 13 (by decide) (htg _ k1353) (fun _ h9 => h9) rfl (by decide +kernel) rfl rfl (Nat.le_of_ble_eq_true rfl) dX11_afflict_91 (fun H locs hP hD hS => ?_)
          have hP : va_P g.1 CLS [(m0, .inr (11, [.ref mh, .ref mg, .ref ms, .ref md, .ref mc, .ref mr, .int (-1), .int 0, .int 0, .int 0, .long 0, .int 0, .int 0, .int 1])), (mh, .inr (1, [.int 0, .ref (g.2.2 1), .int 0]))] H := hP
          have hD : va_D A [(m0, .inr (11, [.ref mh, .ref mg, .ref ms, .ref md, .ref mc, .ref mr, .int (-1), .int 0, .int 0, .int 0, .long 0, .int 0, .int 0, .int 1])), (mh, .inr (1, [.int 0, .ref (g.2.2 1), .int 0]))] := hD
          refine lv_aload_n hx hb dX11_afflict_94 rfl (lv_at hl 1 rfl) ?_
          refine va_get (D := g.1) (ci := 11) (v := .int 1) (C := RX11) (T := TX11) (N := 14) hx hb htg inG_X11 hown hK hP 0 rfl rfl 13 (by decide) (htg _ k1353) (fun _ h9 => h9) rfl dX11_afflict_95 ?_
          refine lv_if_le (tgt := 103) hx hb dX11_afflict_98 (by decide) (fun c_16 => absurd c_16 (by decide)) (fun c_16 => ?_)
          refine lv_iconst (v := (-1)) hx hb dX11_afflict_101 (by decide) ?_
          have hP9 := hP.sub (ws' := [(m0, .inr (11, [.ref mh, .ref mg, .ref ms, .ref md, .ref mc, .ref mr, .int (-1), .int 0, .int 0, .int 0, .long 0, .int 0, .int 0, .int 1]))]) [0] rfl
          have hD9 := hD.sub (ws' := [(m0, .inr (11, [.ref mh, .ref mg, .ref ms, .ref md, .ref mc, .ref mr, .int (-1), .int 0, .int 0, .int 0, .long 0, .int 0, .int 0, .int 1]))]) [0] (by decide) rfl
          refine W.widen (k := 20) (n := 100) (Nat.le_of_ble_eq_true rfl) (Nat.le_of_ble_eq_true rfl) ?_
          exact W.iret (v := (-1)) hx hb hr (fun t ht hW => ⟨⟨(-1), [(m0, .inr (11, [.ref mh, .ref mg, .ref ms, .ref md, .ref mc, .ref mr, .int (-1), .int 0, .int 0, .int 0, .long 0, .int 0, .int 0, .int 1]))], rfl, ⟨rfl, rfl⟩, by rw [ht]; exact hP9, va_K.moved hW.alike hK, hD9⟩, hS.F ht⟩) hS.2.2 dX11_afflict_102
      · have hP : va_P g.1 CLS [(m0, .inr (11, [.ref mh, .ref mg, .ref ms, .ref md, .ref mc, .ref mr, .int (-1), .int 0, .int 0, .int 0, .long 0, .int 0, .int 0, .int 0])), (mh, .inr (1, [.int 0, .ref (g.2.2 1), .int 0]))] H := hP
        have hD : va_D A [(m0, .inr (11, [.ref mh, .ref mg, .ref ms, .ref md, .ref mc, .ref mr, .int (-1), .int 0, .int 0, .int 0, .long 0, .int 0, .int 0, .int 0])), (mh, .inr (1, [.int 0, .ref (g.2.2 1), .int 0]))] := hD
        refine W.widen (k := 0) (n := 0) (Nat.le_of_ble_eq_true rfl) (Nat.le_of_ble_eq_true rfl) ?_
        refine lv_if_eq (tgt := 38) hx hb dX11_afflict_18 (by decide) (fun c_17 => ?_) (fun c_17 => absurd (by decide) c_17)
        refine lv_iconst (v := 0) hx hb dX11_afflict_38 (by decide) ?_
        refine lv_istore (lv' := [(6, .int 0), (0, .ref m0), (1, .int n1), (2, .int n2), (3, .int n3), (4, .int n4), (5, .int n5)]) hx hb dX11_afflict_39 hl (by decide) rfl (fun ls hl => ?_)
        refine lv_aload_n hx hb dX11_afflict_41 rfl (lv_at hl 1 rfl) ?_
        refine lv_aload_n hx hb dX11_afflict_42 rfl (lv_at hl 1 rfl) ?_
        refine lv_iload_n hx hb dX11_afflict_43 rfl (lv_at hl 2 rfl) ?_
        have hPc := hP.sub (ws' := [(m0, .inr (11, [.ref mh, .ref mg, .ref ms, .ref md, .ref mc, .ref mr, .int (-1), .int 0, .int 0, .int 0, .long 0, .int 0, .int 0, .int 0])), (mh, .inr (1, [.int 0, .ref (g.2.2 1), .int 0]))]) [0, 1] rfl
        have hDc := hD.sub (ws' := [(m0, .inr (11, [.ref mh, .ref mg, .ref ms, .ref md, .ref mc, .ref mr, .int (-1), .int 0, .int 0, .int 0, .long 0, .int 0, .int 0, .int 0])), (mh, .inr (1, [.int 0, .ref (g.2.2 1), .int 0]))]) [0, 1] (by decide) rfl
        have hFc := va_free (wc := [(m0, .inr (11, [.ref mh, .ref mg, .ref ms, .ref md, .ref mc, .ref mr, .int (-1), .int 0, .int 0, .int 0, .long 0, .int 0, .int 0, .int 0])), (mh, .inr (1, [.int 0, .ref (g.2.2 1), .int 0]))]) hD hS hA [0, 1] rfl
        refine q_ci (wr := []) (va_runV (As := [.int n1]) (rest := [.ref m0]) ⟨hx, hb, hml, hown, htg⟩ (c_X11_isHero l hfl g m0 mh mg ms md mc mr n1  H.size) ⟨(qB htg k1640 k57 k1637 ok_X11_isHero rfl rfl ⟨Nat.le_of_ble_eq_true rfl, Nat.le_of_ble_eq_true rfl⟩), htg _ k1639, htg _ k23⟩ ⟨(q_pre [.ref m0, .int n1] hPc hDc hK hS hT hFc).1, va_recv hK hP (ci := 11) (q0 := 0) rfl rfl, (q_pre [.ref m0, .int n1] hPc hDc hK hS hT hFc).2⟩ rfl rfl hl.1 rfl (lv_room (Nat.le_of_ble_eq_true rfl)) dX11_afflict_44 ⟨Nat.le_of_ble_eq_true rfl, Nat.le_of_ble_eq_true rfl⟩) hP hD hS hFc [0, 1] [] rfl rfl (by decide) (by decide) (fun r9 u9 H locs hw hP hD hS => ?_)
        try dsimp only at hw
        rcases hw with ⟨rfl, rfl⟩
        have hP : va_P g.1 CLS [(m0, .inr (11, [.ref mh, .ref mg, .ref ms, .ref md, .ref mc, .ref mr, .int (-1), .int 0, .int 0, .int 0, .long 0, .int 0, .int 0, .int 0])), (mh, .inr (1, [.int 0, .ref (g.2.2 1), .int 0]))] H := hP
        have hD : va_D A [(m0, .inr (11, [.ref mh, .ref mg, .ref ms, .ref md, .ref mc, .ref mr, .int (-1), .int 0, .int 0, .int 0, .long 0, .int 0, .int 0, .int 0])), (mh, .inr (1, [.int 0, .ref (g.2.2 1), .int 0]))] := hD
        refine W.widen (k := 0) (n := 0) (Nat.le_of_ble_eq_true rfl) (Nat.le_of_ble_eq_true rfl) ?_
        refine lv_if_eq (tgt := 59) hx hb dX11_afflict_47 (by decide) (fun c_18 => ?_) (fun c_18 => absurd (by decide) c_18)
        refine lv_iconst (v := 1) hx hb dX11_afflict_59 (by decide) ?_
        refine lv_goto (tgt := 91) hx hb dX11_afflict_60 (by decide) ?_
        refine va_put (D := g.1) (ci := 11) (v := .int 1) (ty := .int) (C := RX11) (T := TX11) (N := 14) hx hb htg inG_X11 tyX11 tyX11_ok nmX11 hown hK hP hD hS 0 rfl rfl 13 (by decide) (htg _ k1353) (fun _ h9 => h9) rfl (by decide +kernel) rfl rfl (Nat.le_of_ble_eq_true rfl) dX11_afflict_91 (fun H locs hP hD hS => ?_)
        have hP : va_P g.1 CLS [(m0, .inr (11, [.ref mh, .ref mg, .ref ms, .ref md, .ref mc, .ref mr, .int (-1), .int 0, .int 0, .int 0, .long 0, .int 0, .int 0, .int 1])), (mh, .inr (1, [.int 0, .ref (g.2.2 1), .int 0]))] H := hP
        have hD : va_D A [(m0, .inr (11, [.ref mh, .ref mg, .ref ms, .ref md, .ref mc, .ref mr, .int (-1), .int 0, .int 0, .int 0, .long 0, .int 0, .int 0, .int 1])), (mh, .inr (1, [.int 0, .ref (g.2.2 1), .int 0]))] := hD
        refine lv_aload_n hx hb dX11_afflict_94 rfl (lv_at hl 1 rfl) ?_
        refine va_get (D := g.1) (ci := 11) (v := .int 1) (C := RX11) (T := TX11) (N := 14) hx hb htg inG_X11 hown hK hP 0 rfl rfl 13 (by decide) (htg _ k1353) (fun _ h9 => h9) rfl dX11_afflict_95 ?_
        refine lv_if_le (tgt := 103) hx hb dX11_afflict_98 (by decide) (fun c_19 => absurd c_19 (by decide)) (fun c_19 => ?_)
        refine lv_iconst (v := (-1)) hx hb dX11_afflict_101 (by decide) ?_
        have hP9 := hP.sub (ws' := [(m0, .inr (11, [.ref mh, .ref mg, .ref ms, .ref md, .ref mc, .ref mr, .int (-1), .int 0, .int 0, .int 0, .long 0, .int 0, .int 0, .int 1]))]) [0] rfl
        have hD9 := hD.sub (ws' := [(m0, .inr (11, [.ref mh, .ref mg, .ref ms, .ref md, .ref mc, .ref mr, .int (-1), .int 0, .int 0, .int 0, .long 0, .int 0, .int 0, .int 1]))]) [0] (by decide) rfl
        refine W.widen (k := 20) (n := 100) (Nat.le_of_ble_eq_true rfl) (Nat.le_of_ble_eq_true rfl) ?_
        exact W.iret (v := (-1)) hx hb hr (fun t ht hW => ⟨⟨(-1), [(m0, .inr (11, [.ref mh, .ref mg, .ref ms, .ref md, .ref mc, .ref mr, .int (-1), .int 0, .int 0, .int 0, .long 0, .int 0, .int 0, .int 1]))], rfl, ⟨rfl, rfl⟩, by rw [ht]; exact hP9, va_K.moved hW.alike hK, hD9⟩, hS.F ht⟩) hS.2.2 dX11_afflict_102
  · have hP : va_P g.1 CLS [(m0, .inr (11, [.ref mh, .ref mg, .ref ms, .ref md, .ref mc, .ref mr, .int (-1), .int 0, .int 0, .int 0, .long 0, .int 0, .int 0, .int 0])), (mh, .inr (1, [.int 0, .ref (g.2.2 1), .int 0]))] H := hP
    have hD : va_D A [(m0, .inr (11, [.ref mh, .ref mg, .ref ms, .ref md, .ref mc, .ref mr, .int (-1), .int 0, .int 0, .int 0, .long 0, .int 0, .int 0, .int 0])), (mh, .inr (1, [.int 0, .ref (g.2.2 1), .int 0]))] := hD
    refine W.widen (k := 0) (n := 0) (Nat.le_of_ble_eq_true rfl) (Nat.le_of_ble_eq_true rfl) ?_
    refine lv_if_lt (tgt := 38) hx hb dX11_afflict_6 (by decide) (fun c_20 => ?_) (fun c_20 => absurd (by decide) c_20)
    refine lv_iconst (v := 0) hx hb dX11_afflict_38 (by decide) ?_
    refine lv_istore (lv' := [(6, .int 0), (0, .ref m0), (1, .int n1), (2, .int n2), (3, .int n3), (4, .int n4), (5, .int n5)]) hx hb dX11_afflict_39 hl (by decide) rfl (fun ls hl => ?_)
    refine lv_aload_n hx hb dX11_afflict_41 rfl (lv_at hl 1 rfl) ?_
    refine lv_aload_n hx hb dX11_afflict_42 rfl (lv_at hl 1 rfl) ?_
    refine lv_iload_n hx hb dX11_afflict_43 rfl (lv_at hl 2 rfl) ?_
    have hPc := hP.sub (ws' := [(m0, .inr (11, [.ref mh, .ref mg, .ref ms, .ref md, .ref mc, .ref mr, .int (-1), .int 0, .int 0, .int 0, .long 0, .int 0, .int 0, .int 0])), (mh, .inr (1, [.int 0, .ref (g.2.2 1), .int 0]))]) [0, 1] rfl
    have hDc := hD.sub (ws' := [(m0, .inr (11, [.ref mh, .ref mg, .ref ms, .ref md, .ref mc, .ref mr, .int (-1), .int 0, .int 0, .int 0, .long 0, .int 0, .int 0, .int 0])), (mh, .inr (1, [.int 0, .ref (g.2.2 1), .int 0]))]) [0, 1] (by decide) rfl
    have hFc := va_free (wc := [(m0, .inr (11, [.ref mh, .ref mg, .ref ms, .ref md, .ref mc, .ref mr, .int (-1), .int 0, .int 0, .int 0, .long 0, .int 0, .int 0, .int 0])), (mh, .inr (1, [.int 0, .ref (g.2.2 1), .int 0]))]) hD hS hA [0, 1] rfl
    refine q_ci (wr := []) (va_runV (As := [.int n1]) (rest := [.ref m0]) ⟨hx, hb, hml, hown, htg⟩ (c_X11_isHero l hfl g m0 mh mg ms md mc mr n1  H.size) ⟨(qB htg k1640 k57 k1637 ok_X11_isHero rfl rfl ⟨Nat.le_of_ble_eq_true rfl, Nat.le_of_ble_eq_true rfl⟩), htg _ k1639, htg _ k23⟩ ⟨(q_pre [.ref m0, .int n1] hPc hDc hK hS hT hFc).1, va_recv hK hP (ci := 11) (q0 := 0) rfl rfl, (q_pre [.ref m0, .int n1] hPc hDc hK hS hT hFc).2⟩ rfl rfl hl.1 rfl (lv_room (Nat.le_of_ble_eq_true rfl)) dX11_afflict_44 ⟨Nat.le_of_ble_eq_true rfl, Nat.le_of_ble_eq_true rfl⟩) hP hD hS hFc [0, 1] [] rfl rfl (by decide) (by decide) (fun r9 u9 H locs hw hP hD hS => ?_)
    try dsimp only at hw
    rcases hw with ⟨rfl, rfl⟩
    have hP : va_P g.1 CLS [(m0, .inr (11, [.ref mh, .ref mg, .ref ms, .ref md, .ref mc, .ref mr, .int (-1), .int 0, .int 0, .int 0, .long 0, .int 0, .int 0, .int 0])), (mh, .inr (1, [.int 0, .ref (g.2.2 1), .int 0]))] H := hP
    have hD : va_D A [(m0, .inr (11, [.ref mh, .ref mg, .ref ms, .ref md, .ref mc, .ref mr, .int (-1), .int 0, .int 0, .int 0, .long 0, .int 0, .int 0, .int 0])), (mh, .inr (1, [.int 0, .ref (g.2.2 1), .int 0]))] := hD
    refine W.widen (k := 0) (n := 0) (Nat.le_of_ble_eq_true rfl) (Nat.le_of_ble_eq_true rfl) ?_
    refine lv_if_eq (tgt := 59) hx hb dX11_afflict_47 (by decide) (fun c_21 => ?_) (fun c_21 => absurd (by decide) c_21)
    refine lv_iconst (v := 1) hx hb dX11_afflict_59 (by decide) ?_
    refine lv_goto (tgt := 91) hx hb dX11_afflict_60 (by decide) ?_
    refine va_put (D := g.1) (ci := 11) (v := .int 1) (ty := .int) (C := RX11) (T := TX11) (N := 14) hx hb htg inG_X11 tyX11 tyX11_ok nmX11 hown hK hP hD hS 0 rfl rfl 13 (by decide) (htg _ k1353) (fun _ h9 => h9) rfl (by decide +kernel) rfl rfl (Nat.le_of_ble_eq_true rfl) dX11_afflict_91 (fun H locs hP hD hS => ?_)
    have hP : va_P g.1 CLS [(m0, .inr (11, [.ref mh, .ref mg, .ref ms, .ref md, .ref mc, .ref mr, .int (-1), .int 0, .int 0, .int 0, .long 0, .int 0, .int 0, .int 1])), (mh, .inr (1, [.int 0, .ref (g.2.2 1), .int 0]))] H := hP
    have hD : va_D A [(m0, .inr (11, [.ref mh, .ref mg, .ref ms, .ref md, .ref mc, .ref mr, .int (-1), .int 0, .int 0, .int 0, .long 0, .int 0, .int 0, .int 1])), (mh, .inr (1, [.int 0, .ref (g.2.2 1), .int 0]))] := hD
    refine lv_aload_n hx hb dX11_afflict_94 rfl (lv_at hl 1 rfl) ?_
    refine va_get (D := g.1) (ci := 11) (v := .int 1) (C := RX11) (T := TX11) (N := 14) hx hb htg inG_X11 hown hK hP 0 rfl rfl 13 (by decide) (htg _ k1353) (fun _ h9 => h9) rfl dX11_afflict_95 ?_
    refine lv_if_le (tgt := 103) hx hb dX11_afflict_98 (by decide) (fun c_22 => absurd c_22 (by decide)) (fun c_22 => ?_)
    refine lv_iconst (v := (-1)) hx hb dX11_afflict_101 (by decide) ?_
    have hP9 := hP.sub (ws' := [(m0, .inr (11, [.ref mh, .ref mg, .ref ms, .ref md, .ref mc, .ref mr, .int (-1), .int 0, .int 0, .int 0, .long 0, .int 0, .int 0, .int 1]))]) [0] rfl
    have hD9 := hD.sub (ws' := [(m0, .inr (11, [.ref mh, .ref mg, .ref ms, .ref md, .ref mc, .ref mr, .int (-1), .int 0, .int 0, .int 0, .long 0, .int 0, .int 0, .int 1]))]) [0] (by decide) rfl
    refine W.widen (k := 20) (n := 100) (Nat.le_of_ble_eq_true rfl) (Nat.le_of_ble_eq_true rfl) ?_
    exact W.iret (v := (-1)) hx hb hr (fun t ht hW => ⟨⟨(-1), [(m0, .inr (11, [.ref mh, .ref mg, .ref ms, .ref md, .ref mc, .ref mr, .int (-1), .int 0, .int 0, .int 0, .long 0, .int 0, .int 0, .int 1]))], rfl, ⟨rfl, rfl⟩, by rw [ht]; exact hP9, va_K.moved hW.alike hK, hD9⟩, hS.F ht⟩) hS.2.2 dX11_afflict_102

set_option maxHeartbeats 4000000 in
set_option maxRecDepth 100000 in
theorem c_m_endSource (l : Launch) (hfl : l.stackTraces = false) (g : GP) (m0 : Nat) (mh : Nat) (mg : Nat) (ms : Nat) (md : Nat) (mc : Nat) (mr : Nat) (n1 : Int32)  : CI l yX11_endSource (wG yX11_endSource cX11_endSource 3 (Option.some Jvm.ClassFile.FieldType.boolean)) (LV 4 20 100) g [.ref m0, .int n1] ([(m0, .inr (11, [.ref mh, .ref mg, .ref ms, .ref md, .ref mc, .ref mr, .int (-1), .int 0, .int 0, .int 0, .long 0, .int 0, .int 0, .int 0])), (ms, .inr (1, [.int 0, .ref (g.2.2 1), .int 0]))]) (fun (r : Int32) (u : va_W) => r = 0 ∧ u = [(m0, .inr (11, [.ref mh, .ref mg, .ref ms, .ref md, .ref mc, .ref mr, .int (-1), .int 0, .int 0, .int 0, .long 0, .int 0, .int 0, .int 1]))]) := by
  intro sz
  refine Met.ofW (cc := cX11_endSource) (maxL := 3) (ret := (Option.some Jvm.ClassFile.FieldType.boolean)) (by decide) rfl ?_
  intro p e s m args below meth c s₁ B hml hv
  obtain ⟨rfl, hsz, hP, hK, hD0, hT0⟩ := hv
  have hx := B.exec
  have hb := B.bytes
  have hr := B.returns
  have hts := atoms_spec (ws := (wG yX11_endSource cX11_endSource 3 (Option.some Jvm.ClassFile.FieldType.boolean))) B.pre
  have htg : ∀ w ∈ G9, w.before _ s = true := fun w h => hts w (List.mem_cons_of_mem _ h)
  have hown : s.vm.findClass "HeroTableModel" = some m.cls := findClass_of_methodNamed B.named
  have hlocks := B.notSynchronized
  subst hsz
  have hD := hD0.self (sz := s.heap.size)
  have hT := hT0
  clear hT0
  generalize hAe : va_A [(m0, .inr (11, [.ref mh, .ref mg, .ref ms, .ref md, .ref mc, .ref mr, .int (-1), .int 0, .int 0, .int 0, .long 0, .int 0, .int 0, .int 0])), (ms, .inr (1, [.int 0, .ref (g.2.2 1), .int 0]))] s.heap.size = A at hD hT ⊢
  have hA : ∀ q : Nat, s.heap.size ≤ q → A q := fun q h => by rw [← hAe]; exact Or.inr h
  obtain ⟨H, hH0⟩ : ∃ H, H = s.heap := ⟨_, rfl⟩
  have hS : va_S A s.heap H [] := by rw [hH0]; exact va_S.rf
  have hP : va_P g.1 CLS [(m0, .inr (11, [.ref mh, .ref mg, .ref ms, .ref md, .ref mc, .ref mr, .int (-1), .int 0, .int 0, .int 0, .long 0, .int 0, .int 0, .int 0])), (ms, .inr (1, [.int 0, .ref (g.2.2 1), .int 0]))] H := by rw [hH0]; exact hP
  rw [← hH0]
  have hl := lv_entry ([.ref m0, .int n1]) (n := 3) (Nat.le_of_ble_eq_true rfl)
  rw [lg_entry_eq]
  generalize (lg_sl ([.ref m0, .int n1]) ++ List.replicate (3 - (lg_sl ([.ref m0, .int n1])).length) Slot.unset).toArray = ls at hl ⊢
  have hl : lv_has ls 3 [(0, .ref m0), (1, .int n1)] := hl
  refine lv_aload_n hx hb dX11_endSource_0 rfl (lv_at hl 0 rfl) ?_
  refine lv_iload_n hx hb dX11_endSource_1 rfl (lv_at hl 1 rfl) ?_
  refine lv_i2l (v := n1.toInt64) hx hb dX11_endSource_2 rfl ?_
  refine lv_lconst (v := 0) hx hb dX11_endSource_3 (by decide) ?_
  refine lv_aload_n hx hb dX11_endSource_4 rfl (lv_at hl 0 rfl) ?_
  refine va_get (D := g.1) (ci := 11) (v := .ref ms) (C := RX11) (T := TX11) (N := 14) hx hb htg inG_X11 hown hK hP 0 rfl rfl 2 (by decide) (htg _ k1342) (fun _ h9 => h9) rfl dX11_endSource_5 ?_
  have hPc := hP.sub (ws' := [(ms, .inr (1, [.int 0, .ref (g.2.2 1), .int 0]))]) [1] rfl
  have hDc := hD.sub (ws' := [(ms, .inr (1, [.int 0, .ref (g.2.2 1), .int 0]))]) [1] (by decide) rfl
  have hFc := va_free (wc := [(ms, .inr (1, [.int 0, .ref (g.2.2 1), .int 0]))]) hD hS hA [1] rfl
  refine q_cFi (wr := [(m0, .inr (11, [.ref mh, .ref mg, .ref ms, .ref md, .ref mc, .ref mr, .int (-1), .int 0, .int 0, .int 0, .long 0, .int 0, .int 0, .int 0]))]) (va_runF (As := []) (rest := [.long 0, .long n1.toInt64, .ref m0]) (hK.1 1 _ rfl).2 ⟨hx, hb, hml, hown, htg⟩ (c_L_size l hfl g ms (g.2.2 1) 0 0  H.size) (qI5 htg k1409 k60 k1401 k1405 k1407 (hT.1.2.2.1.1) okx_size rfl rfl ⟨Nat.le_of_ble_eq_true rfl, Nat.le_of_ble_eq_true rfl⟩) ⟨(q_pre [.ref ms] hPc hDc hK hS hT hFc).1, va_recv hK hP (ci := 1) (q0 := 1) rfl rfl, (q_pre [.ref ms] hPc hDc hK hS hT hFc).2⟩ rfl rfl hl.1 rfl (lv_room (Nat.le_of_ble_eq_true rfl)) dX11_endSource_8 ⟨Nat.le_of_ble_eq_true rfl, Nat.le_of_ble_eq_true rfl⟩) hP hD hS hFc [1] [0] rfl rfl (by decide) (by decide) (fun r9 u9 H locs hw hP hD hS => ?_)
  try dsimp only at hw
  rcases hw with ⟨rfl, rfl⟩
  have hP : va_P g.1 CLS [(m0, .inr (11, [.ref mh, .ref mg, .ref ms, .ref md, .ref mc, .ref mr, .int (-1), .int 0, .int 0, .int 0, .long 0, .int 0, .int 0, .int 0])), (ms, .inr (1, [.int 0, .ref (g.2.2 1), .int 0]))] H := hP
  have hD : va_D A [(m0, .inr (11, [.ref mh, .ref mg, .ref ms, .ref md, .ref mc, .ref mr, .int (-1), .int 0, .int 0, .int 0, .long 0, .int 0, .int 0, .int 0])), (ms, .inr (1, [.int 0, .ref (g.2.2 1), .int 0]))] := hD
  refine W.widen (k := 0) (n := 0) (Nat.le_of_ble_eq_true rfl) (Nat.le_of_ble_eq_true rfl) ?_
  refine lv_iconst (v := 1) hx hb dX11_endSource_13 (by decide) ?_
  refine lv_isub hx hb dX11_endSource_14 ?_
  refine lv_topi (fun x_1 ex_1 => ?_)
  obtain rfl : x_1 = (-1) := ex_1.trans (by decide)
  refine lv_i2l (v := (-1)) hx hb dX11_endSource_15 (by decide) ?_
  have hPc := hP.sub (ws' := []) [] rfl
  have hDc := hD.sub (ws' := []) [] (by decide) rfl
  have hFc := va_free (wc := []) hD hS hA [] rfl
  refine q_ci (wr := [(m0, .inr (11, [.ref mh, .ref mg, .ref ms, .ref md, .ref mc, .ref mr, .int (-1), .int 0, .int 0, .int 0, .long 0, .int 0, .int 0, .int 0])), (ms, .inr (1, [.int 0, .ref (g.2.2 1), .int 0]))]) (va_runS (As := [.long n1.toInt64, .long 0, .long (-1)]) (rest := [.ref m0]) ⟨hx, hb, hml, hown, htg⟩ (c_X11_in l hfl g n1.toInt64 0 (-1)  H.size) ⟨(qB htg k1393 k57 k1391 ok_X11_in rfl rfl ⟨Nat.le_of_ble_eq_true rfl, Nat.le_of_ble_eq_true rfl⟩), htg _ k1392⟩ (q_pre [.long n1.toInt64, .long 0, .long (-1)] hPc hDc hK hS hT hFc) rfl rfl hl.1 rfl (lv_room (Nat.le_of_ble_eq_true rfl)) dX11_endSource_16 ⟨Nat.le_of_ble_eq_true rfl, Nat.le_of_ble_eq_true rfl⟩) hP hD hS hFc [] [0, 1] rfl rfl (by decide) (by decide) (fun r9 u9 H locs hw hP hD hS => ?_)
  try dsimp only at hw
  rcases hw with ⟨c_2, rfl, rfl⟩ | ⟨c_3, rfl, rfl⟩
  · exact absurd c_2 inNo
  · have hP : va_P g.1 CLS [(m0, .inr (11, [.ref mh, .ref mg, .ref ms, .ref md, .ref mc, .ref mr, .int (-1), .int 0, .int 0, .int 0, .long 0, .int 0, .int 0, .int 0])), (ms, .inr (1, [.int 0, .ref (g.2.2 1), .int 0]))] H := hP
    have hD : va_D A [(m0, .inr (11, [.ref mh, .ref mg, .ref ms, .ref md, .ref mc, .ref mr, .int (-1), .int 0, .int 0, .int 0, .long 0, .int 0, .int 0, .int 0])), (ms, .inr (1, [.int 0, .ref (g.2.2 1), .int 0]))] := hD
    refine W.widen (k := 0) (n := 0) (Nat.le_of_ble_eq_true rfl) (Nat.le_of_ble_eq_true rfl) ?_
    refine lv_if_eq (tgt := 26) hx hb dX11_endSource_19 (by decide) (fun c_4 => ?_) (fun c_4 => absurd (by decide) c_4)
    refine lv_iconst (v := 1) hx hb dX11_endSource_26 (by decide) ?_
    refine va_put (D := g.1) (ci := 11) (v := .int 1) (ty := .int) (C := RX11) (T := TX11) (N := 14) hx hb htg inG_X11 tyX11 tyX11_ok nmX11 hown hK hP hD hS 0 rfl rfl 13 (by decide) (htg _ k1353) (fun _ h9 => h9) rfl (by decide +kernel) rfl rfl (Nat.le_of_ble_eq_true rfl) dX11_endSource_27 (fun H locs hP hD hS => ?_)
    have hP : va_P g.1 CLS [(m0, .inr (11, [.ref mh, .ref mg, .ref ms, .ref md, .ref mc, .ref mr, .int (-1), .int 0, .int 0, .int 0, .long 0, .int 0, .int 0, .int 1])), (ms, .inr (1, [.int 0, .ref (g.2.2 1), .int 0]))] H := hP
    have hD : va_D A [(m0, .inr (11, [.ref mh, .ref mg, .ref ms, .ref md, .ref mc, .ref mr, .int (-1), .int 0, .int 0, .int 0, .long 0, .int 0, .int 0, .int 1])), (ms, .inr (1, [.int 0, .ref (g.2.2 1), .int 0]))] := hD
    refine lv_aload_n hx hb dX11_endSource_30 rfl (lv_at hl 0 rfl) ?_
    refine va_get (D := g.1) (ci := 11) (v := .int 1) (C := RX11) (T := TX11) (N := 14) hx hb htg inG_X11 hown hK hP 0 rfl rfl 13 (by decide) (htg _ k1353) (fun _ h9 => h9) rfl dX11_endSource_31 ?_
    refine lv_if_le (tgt := 39) hx hb dX11_endSource_34 (by decide) (fun c_5 => absurd c_5 (by decide)) (fun c_5 => ?_)
    refine lv_iconst (v := 0) hx hb dX11_endSource_37 (by decide) ?_
    have hP9 := hP.sub (ws' := [(m0, .inr (11, [.ref mh, .ref mg, .ref ms, .ref md, .ref mc, .ref mr, .int (-1), .int 0, .int 0, .int 0, .long 0, .int 0, .int 0, .int 1]))]) [0] rfl
    have hD9 := hD.sub (ws' := [(m0, .inr (11, [.ref mh, .ref mg, .ref ms, .ref md, .ref mc, .ref mr, .int (-1), .int 0, .int 0, .int 0, .long 0, .int 0, .int 0, .int 1]))]) [0] (by decide) rfl
    refine W.widen (k := 20) (n := 100) (Nat.le_of_ble_eq_true rfl) (Nat.le_of_ble_eq_true rfl) ?_
    exact W.zret (v := 0) hx hb hr rfl (fun t ht hW => ⟨⟨0, [(m0, .inr (11, [.ref mh, .ref mg, .ref ms, .ref md, .ref mc, .ref mr, .int (-1), .int 0, .int 0, .int 0, .long 0, .int 0, .int 0, .int 1]))], rfl, ⟨rfl, rfl⟩, by rw [ht]; exact hP9, va_K.moved hW.alike hK, hD9⟩, hS.F ht⟩) hS.2.2 dX11_endSource_38

set_option maxHeartbeats 4000000 in
set_option maxRecDepth 100000 in
theorem c_m_isLive (l : Launch) (hfl : l.stackTraces = false) (g : GP) (m0 : Nat) (mh : Nat) (mg : Nat) (ms : Nat) (md : Nat) (mc : Nat) (mr : Nat) (n1 : Int32)  : CI l yX11_isLive (wG yX11_isLive cX11_isLive 2 (Option.some Jvm.ClassFile.FieldType.boolean)) (LV 4 20 100) g [.ref m0, .int n1] ([(m0, .inr (11, [.ref mh, .ref mg, .ref ms, .ref md, .ref mc, .ref mr, .int (-1), .int 0, .int 0, .int 0, .long 0, .int 0, .int 0, .int 0])), (ms, .inr (1, [.int 0, .ref (g.2.2 1), .int 0]))]) (fun (r : Int32) (u : va_W) => r = 0 ∧ u = [(m0, .inr (11, [.ref mh, .ref mg, .ref ms, .ref md, .ref mc, .ref mr, .int (-1), .int 0, .int 0, .int 0, .long 0, .int 0, .int 0, .int 1]))]) := by
  intro sz
  refine Met.ofW (cc := cX11_isLive) (maxL := 2) (ret := (Option.some Jvm.ClassFile.FieldType.boolean)) (by decide) rfl ?_
  intro p e s m args below meth c s₁ B hml hv
  obtain ⟨rfl, hsz, hP, hK, hD0, hT0⟩ := hv
  have hx := B.exec
  have hb := B.bytes
  have hr := B.returns
  have hts := atoms_spec (ws := (wG yX11_isLive cX11_isLive 2 (Option.some Jvm.ClassFile.FieldType.boolean))) B.pre
  have htg : ∀ w ∈ G9, w.before _ s = true := fun w h => hts w (List.mem_cons_of_mem _ h)
  have hown : s.vm.findClass "HeroTableModel" = some m.cls := findClass_of_methodNamed B.named
  have hlocks := B.notSynchronized
  subst hsz
  have hD := hD0.self (sz := s.heap.size)
  have hT := hT0
  clear hT0
  generalize hAe : va_A [(m0, .inr (11, [.ref mh, .ref mg, .ref ms, .ref md, .ref mc, .ref mr, .int (-1), .int 0, .int 0, .int 0, .long 0, .int 0, .int 0, .int 0])), (ms, .inr (1, [.int 0, .ref (g.2.2 1), .int 0]))] s.heap.size = A at hD hT ⊢
  have hA : ∀ q : Nat, s.heap.size ≤ q → A q := fun q h => by rw [← hAe]; exact Or.inr h
  obtain ⟨H, hH0⟩ : ∃ H, H = s.heap := ⟨_, rfl⟩
  have hS : va_S A s.heap H [] := by rw [hH0]; exact va_S.rf
  have hP : va_P g.1 CLS [(m0, .inr (11, [.ref mh, .ref mg, .ref ms, .ref md, .ref mc, .ref mr, .int (-1), .int 0, .int 0, .int 0, .long 0, .int 0, .int 0, .int 0])), (ms, .inr (1, [.int 0, .ref (g.2.2 1), .int 0]))] H := by rw [hH0]; exact hP
  rw [← hH0]
  have hl := lv_entry ([.ref m0, .int n1]) (n := 2) (Nat.le_of_ble_eq_true rfl)
  rw [lg_entry_eq]
  generalize (lg_sl ([.ref m0, .int n1]) ++ List.replicate (2 - (lg_sl ([.ref m0, .int n1])).length) Slot.unset).toArray = ls at hl ⊢
  have hl : lv_has ls 2 [(0, .ref m0), (1, .int n1)] := hl
  refine lv_aload_n hx hb dX11_isLive_0 rfl (lv_at hl 0 rfl) ?_
  refine lv_iload_n hx hb dX11_isLive_1 rfl (lv_at hl 1 rfl) ?_
  refine lv_i2l (v := n1.toInt64) hx hb dX11_isLive_2 rfl ?_
  refine lv_lconst (v := 0) hx hb dX11_isLive_3 (by decide) ?_
  refine lv_aload_n hx hb dX11_isLive_4 rfl (lv_at hl 0 rfl) ?_
  refine va_get (D := g.1) (ci := 11) (v := .ref ms) (C := RX11) (T := TX11) (N := 14) hx hb htg inG_X11 hown hK hP 0 rfl rfl 2 (by decide) (htg _ k1342) (fun _ h9 => h9) rfl dX11_isLive_5 ?_
  have hPc := hP.sub (ws' := [(ms, .inr (1, [.int 0, .ref (g.2.2 1), .int 0]))]) [1] rfl
  have hDc := hD.sub (ws' := [(ms, .inr (1, [.int 0, .ref (g.2.2 1), .int 0]))]) [1] (by decide) rfl
  have hFc := va_free (wc := [(ms, .inr (1, [.int 0, .ref (g.2.2 1), .int 0]))]) hD hS hA [1] rfl
  refine q_cFi (wr := [(m0, .inr (11, [.ref mh, .ref mg, .ref ms, .ref md, .ref mc, .ref mr, .int (-1), .int 0, .int 0, .int 0, .long 0, .int 0, .int 0, .int 0]))]) (va_runF (As := []) (rest := [.long 0, .long n1.toInt64, .ref m0]) (hK.1 1 _ rfl).2 ⟨hx, hb, hml, hown, htg⟩ (c_L_size l hfl g ms (g.2.2 1) 0 0  H.size) (qI5 htg k1409 k60 k1401 k1405 k1407 (hT.1.2.2.1.1) okx_size rfl rfl ⟨Nat.le_of_ble_eq_true rfl, Nat.le_of_ble_eq_true rfl⟩) ⟨(q_pre [.ref ms] hPc hDc hK hS hT hFc).1, va_recv hK hP (ci := 1) (q0 := 1) rfl rfl, (q_pre [.ref ms] hPc hDc hK hS hT hFc).2⟩ rfl rfl hl.1 rfl (lv_room (Nat.le_of_ble_eq_true rfl)) dX11_isLive_8 ⟨Nat.le_of_ble_eq_true rfl, Nat.le_of_ble_eq_true rfl⟩) hP hD hS hFc [1] [0] rfl rfl (by decide) (by decide) (fun r9 u9 H locs hw hP hD hS => ?_)
  try dsimp only at hw
  rcases hw with ⟨rfl, rfl⟩
  have hP : va_P g.1 CLS [(m0, .inr (11, [.ref mh, .ref mg, .ref ms, .ref md, .ref mc, .ref mr, .int (-1), .int 0, .int 0, .int 0, .long 0, .int 0, .int 0, .int 0])), (ms, .inr (1, [.int 0, .ref (g.2.2 1), .int 0]))] H := hP
  have hD : va_D A [(m0, .inr (11, [.ref mh, .ref mg, .ref ms, .ref md, .ref mc, .ref mr, .int (-1), .int 0, .int 0, .int 0, .long 0, .int 0, .int 0, .int 0])), (ms, .inr (1, [.int 0, .ref (g.2.2 1), .int 0]))] := hD
  refine W.widen (k := 0) (n := 0) (Nat.le_of_ble_eq_true rfl) (Nat.le_of_ble_eq_true rfl) ?_
  refine lv_iconst (v := 1) hx hb dX11_isLive_13 (by decide) ?_
  refine lv_isub hx hb dX11_isLive_14 ?_
  refine lv_topi (fun x_1 ex_1 => ?_)
  obtain rfl : x_1 = (-1) := ex_1.trans (by decide)
  refine lv_i2l (v := (-1)) hx hb dX11_isLive_15 (by decide) ?_
  have hPc := hP.sub (ws' := []) [] rfl
  have hDc := hD.sub (ws' := []) [] (by decide) rfl
  have hFc := va_free (wc := []) hD hS hA [] rfl
  refine q_ci (wr := [(m0, .inr (11, [.ref mh, .ref mg, .ref ms, .ref md, .ref mc, .ref mr, .int (-1), .int 0, .int 0, .int 0, .long 0, .int 0, .int 0, .int 0])), (ms, .inr (1, [.int 0, .ref (g.2.2 1), .int 0]))]) (va_runS (As := [.long n1.toInt64, .long 0, .long (-1)]) (rest := [.ref m0]) ⟨hx, hb, hml, hown, htg⟩ (c_X11_in l hfl g n1.toInt64 0 (-1)  H.size) ⟨(qB htg k1393 k57 k1391 ok_X11_in rfl rfl ⟨Nat.le_of_ble_eq_true rfl, Nat.le_of_ble_eq_true rfl⟩), htg _ k1392⟩ (q_pre [.long n1.toInt64, .long 0, .long (-1)] hPc hDc hK hS hT hFc) rfl rfl hl.1 rfl (lv_room (Nat.le_of_ble_eq_true rfl)) dX11_isLive_16 ⟨Nat.le_of_ble_eq_true rfl, Nat.le_of_ble_eq_true rfl⟩) hP hD hS hFc [] [0, 1] rfl rfl (by decide) (by decide) (fun r9 u9 H locs hw hP hD hS => ?_)
  try dsimp only at hw
  rcases hw with ⟨c_2, rfl, rfl⟩ | ⟨c_3, rfl, rfl⟩
  · exact absurd c_2 inNo
  · have hP : va_P g.1 CLS [(m0, .inr (11, [.ref mh, .ref mg, .ref ms, .ref md, .ref mc, .ref mr, .int (-1), .int 0, .int 0, .int 0, .long 0, .int 0, .int 0, .int 0])), (ms, .inr (1, [.int 0, .ref (g.2.2 1), .int 0]))] H := hP
    have hD : va_D A [(m0, .inr (11, [.ref mh, .ref mg, .ref ms, .ref md, .ref mc, .ref mr, .int (-1), .int 0, .int 0, .int 0, .long 0, .int 0, .int 0, .int 0])), (ms, .inr (1, [.int 0, .ref (g.2.2 1), .int 0]))] := hD
    refine W.widen (k := 0) (n := 0) (Nat.le_of_ble_eq_true rfl) (Nat.le_of_ble_eq_true rfl) ?_
    refine lv_if_eq (tgt := 26) hx hb dX11_isLive_19 (by decide) (fun c_4 => ?_) (fun c_4 => absurd (by decide) c_4)
    refine lv_iconst (v := 1) hx hb dX11_isLive_26 (by decide) ?_
    refine va_put (D := g.1) (ci := 11) (v := .int 1) (ty := .int) (C := RX11) (T := TX11) (N := 14) hx hb htg inG_X11 tyX11 tyX11_ok nmX11 hown hK hP hD hS 0 rfl rfl 13 (by decide) (htg _ k1353) (fun _ h9 => h9) rfl (by decide +kernel) rfl rfl (Nat.le_of_ble_eq_true rfl) dX11_isLive_27 (fun H locs hP hD hS => ?_)
    have hP : va_P g.1 CLS [(m0, .inr (11, [.ref mh, .ref mg, .ref ms, .ref md, .ref mc, .ref mr, .int (-1), .int 0, .int 0, .int 0, .long 0, .int 0, .int 0, .int 1])), (ms, .inr (1, [.int 0, .ref (g.2.2 1), .int 0]))] H := hP
    have hD : va_D A [(m0, .inr (11, [.ref mh, .ref mg, .ref ms, .ref md, .ref mc, .ref mr, .int (-1), .int 0, .int 0, .int 0, .long 0, .int 0, .int 0, .int 1])), (ms, .inr (1, [.int 0, .ref (g.2.2 1), .int 0]))] := hD
    refine lv_aload_n hx hb dX11_isLive_30 rfl (lv_at hl 0 rfl) ?_
    refine va_get (D := g.1) (ci := 11) (v := .int 1) (C := RX11) (T := TX11) (N := 14) hx hb htg inG_X11 hown hK hP 0 rfl rfl 13 (by decide) (htg _ k1353) (fun _ h9 => h9) rfl dX11_isLive_31 ?_
    refine lv_if_ne (tgt := 60) hx hb dX11_isLive_34 (by decide) (fun c_5 => ?_) (fun c_5 => absurd c_5 (by decide))
    refine lv_iconst (v := 0) hx hb dX11_isLive_60 (by decide) ?_
    have hP9 := hP.sub (ws' := [(m0, .inr (11, [.ref mh, .ref mg, .ref ms, .ref md, .ref mc, .ref mr, .int (-1), .int 0, .int 0, .int 0, .long 0, .int 0, .int 0, .int 1]))]) [0] rfl
    have hD9 := hD.sub (ws' := [(m0, .inr (11, [.ref mh, .ref mg, .ref ms, .ref md, .ref mc, .ref mr, .int (-1), .int 0, .int 0, .int 0, .long 0, .int 0, .int 0, .int 1]))]) [0] (by decide) rfl
    refine W.widen (k := 20) (n := 100) (Nat.le_of_ble_eq_true rfl) (Nat.le_of_ble_eq_true rfl) ?_
    exact W.zret (v := 0) hx hb hr rfl (fun t ht hW => ⟨⟨0, [(m0, .inr (11, [.ref mh, .ref mg, .ref ms, .ref md, .ref mc, .ref mr, .int (-1), .int 0, .int 0, .int 0, .long 0, .int 0, .int 0, .int 1]))], rfl, ⟨rfl, rfl⟩, by rw [ht]; exact hP9, va_K.moved hW.alike hK, hD9⟩, hS.F ht⟩) hS.2.2 dX11_isLive_61

set_option maxHeartbeats 4000000 in
set_option maxRecDepth 100000 in
theorem c_m_sources (l : Launch) (hfl : l.stackTraces = false) (g : GP) (m0 : Nat) (mh : Nat) (mg : Nat) (ms : Nat) (md : Nat) (mc : Nat) (mr : Nat)  : CI l yX11_sources (wG yX11_sources cX11_sources 1 (Option.some Jvm.ClassFile.FieldType.int)) (LV 3 20 100) g [.ref m0] ([(m0, .inr (11, [.ref mh, .ref mg, .ref ms, .ref md, .ref mc, .ref mr, .int (-1), .int 0, .int 0, .int 0, .long 0, .int 0, .int 0, .int 0])), (ms, .inr (1, [.int 0, .ref (g.2.2 1), .int 0]))]) (fun (r : Int32) (u : va_W) => r = 0 ∧ u = [(m0, .inr (11, [.ref mh, .ref mg, .ref ms, .ref md, .ref mc, .ref mr, .int (-1), .int 0, .int 0, .int 0, .long 0, .int 0, .int 0, .int 0]))]) := by
  intro sz
  refine Met.ofW (cc := cX11_sources) (maxL := 1) (ret := (Option.some Jvm.ClassFile.FieldType.int)) (by decide) rfl ?_
  intro p e s m args below meth c s₁ B hml hv
  obtain ⟨rfl, hsz, hP, hK, hD0, hT0⟩ := hv
  have hx := B.exec
  have hb := B.bytes
  have hr := B.returns
  have hts := atoms_spec (ws := (wG yX11_sources cX11_sources 1 (Option.some Jvm.ClassFile.FieldType.int))) B.pre
  have htg : ∀ w ∈ G9, w.before _ s = true := fun w h => hts w (List.mem_cons_of_mem _ h)
  have hown : s.vm.findClass "HeroTableModel" = some m.cls := findClass_of_methodNamed B.named
  have hlocks := B.notSynchronized
  subst hsz
  have hD := hD0.self (sz := s.heap.size)
  have hT := hT0
  clear hT0
  generalize hAe : va_A [(m0, .inr (11, [.ref mh, .ref mg, .ref ms, .ref md, .ref mc, .ref mr, .int (-1), .int 0, .int 0, .int 0, .long 0, .int 0, .int 0, .int 0])), (ms, .inr (1, [.int 0, .ref (g.2.2 1), .int 0]))] s.heap.size = A at hD hT ⊢
  have hA : ∀ q : Nat, s.heap.size ≤ q → A q := fun q h => by rw [← hAe]; exact Or.inr h
  obtain ⟨H, hH0⟩ : ∃ H, H = s.heap := ⟨_, rfl⟩
  have hS : va_S A s.heap H [] := by rw [hH0]; exact va_S.rf
  have hP : va_P g.1 CLS [(m0, .inr (11, [.ref mh, .ref mg, .ref ms, .ref md, .ref mc, .ref mr, .int (-1), .int 0, .int 0, .int 0, .long 0, .int 0, .int 0, .int 0])), (ms, .inr (1, [.int 0, .ref (g.2.2 1), .int 0]))] H := by rw [hH0]; exact hP
  rw [← hH0]
  have hl := lv_entry ([.ref m0]) (n := 1) (Nat.le_of_ble_eq_true rfl)
  rw [lg_entry_eq]
  generalize (lg_sl ([.ref m0]) ++ List.replicate (1 - (lg_sl ([.ref m0])).length) Slot.unset).toArray = ls at hl ⊢
  have hl : lv_has ls 1 [(0, .ref m0)] := hl
  refine lv_aload_n hx hb dX11_sources_0 rfl (lv_at hl 0 rfl) ?_
  refine lv_iconst (v := 0) hx hb dX11_sources_1 (by decide) ?_
  refine va_put (D := g.1) (ci := 11) (v := .int 0) (ty := .int) (C := RX11) (T := TX11) (N := 14) hx hb htg inG_X11 tyX11 tyX11_ok nmX11 hown hK hP hD hS 0 rfl rfl 13 (by decide) (htg _ k1353) (fun _ h9 => h9) rfl (by decide +kernel) rfl rfl (Nat.le_of_ble_eq_true rfl) dX11_sources_2 (fun H locs hP hD hS => ?_)
  have hP : va_P g.1 CLS [(m0, .inr (11, [.ref mh, .ref mg, .ref ms, .ref md, .ref mc, .ref mr, .int (-1), .int 0, .int 0, .int 0, .long 0, .int 0, .int 0, .int 0])), (ms, .inr (1, [.int 0, .ref (g.2.2 1), .int 0]))] H := hP
  have hD : va_D A [(m0, .inr (11, [.ref mh, .ref mg, .ref ms, .ref md, .ref mc, .ref mr, .int (-1), .int 0, .int 0, .int 0, .long 0, .int 0, .int 0, .int 0])), (ms, .inr (1, [.int 0, .ref (g.2.2 1), .int 0]))] := hD
  refine lv_aload_n hx hb dX11_sources_5 rfl (lv_at hl 0 rfl) ?_
  refine va_get (D := g.1) (ci := 11) (v := .ref ms) (C := RX11) (T := TX11) (N := 14) hx hb htg inG_X11 hown hK hP 0 rfl rfl 2 (by decide) (htg _ k1342) (fun _ h9 => h9) rfl dX11_sources_6 ?_
  have hPc := hP.sub (ws' := [(ms, .inr (1, [.int 0, .ref (g.2.2 1), .int 0]))]) [1] rfl
  have hDc := hD.sub (ws' := [(ms, .inr (1, [.int 0, .ref (g.2.2 1), .int 0]))]) [1] (by decide) rfl
  have hFc := va_free (wc := [(ms, .inr (1, [.int 0, .ref (g.2.2 1), .int 0]))]) hD hS hA [1] rfl
  refine q_cFi (wr := [(m0, .inr (11, [.ref mh, .ref mg, .ref ms, .ref md, .ref mc, .ref mr, .int (-1), .int 0, .int 0, .int 0, .long 0, .int 0, .int 0, .int 0]))]) (va_runF (As := []) (rest := []) (hK.1 1 _ rfl).2 ⟨hx, hb, hml, hown, htg⟩ (c_L_size l hfl g ms (g.2.2 1) 0 0  H.size) (qI5 htg k1409 k60 k1401 k1405 k1407 (hT.1.2.2.1.1) okx_size rfl rfl ⟨Nat.le_of_ble_eq_true rfl, Nat.le_of_ble_eq_true rfl⟩) ⟨(q_pre [.ref ms] hPc hDc hK hS hT hFc).1, va_recv hK hP (ci := 1) (q0 := 1) rfl rfl, (q_pre [.ref ms] hPc hDc hK hS hT hFc).2⟩ rfl rfl hl.1 rfl (lv_room (Nat.le_of_ble_eq_true rfl)) dX11_sources_9 ⟨Nat.le_of_ble_eq_true rfl, Nat.le_of_ble_eq_true rfl⟩) hP hD hS hFc [1] [0] rfl rfl (by decide) (by decide) (fun r9 u9 H locs hw hP hD hS => ?_)
  try dsimp only at hw
  rcases hw with ⟨rfl, rfl⟩
  have hP : va_P g.1 CLS [(m0, .inr (11, [.ref mh, .ref mg, .ref ms, .ref md, .ref mc, .ref mr, .int (-1), .int 0, .int 0, .int 0, .long 0, .int 0, .int 0, .int 0])), (ms, .inr (1, [.int 0, .ref (g.2.2 1), .int 0]))] H := hP
  have hD : va_D A [(m0, .inr (11, [.ref mh, .ref mg, .ref ms, .ref md, .ref mc, .ref mr, .int (-1), .int 0, .int 0, .int 0, .long 0, .int 0, .int 0, .int 0])), (ms, .inr (1, [.int 0, .ref (g.2.2 1), .int 0]))] := hD
  refine W.widen (k := 0) (n := 0) (Nat.le_of_ble_eq_true rfl) (Nat.le_of_ble_eq_true rfl) ?_
  have hP9 := hP.sub (ws' := [(m0, .inr (11, [.ref mh, .ref mg, .ref ms, .ref md, .ref mc, .ref mr, .int (-1), .int 0, .int 0, .int 0, .long 0, .int 0, .int 0, .int 0]))]) [0] rfl
  have hD9 := hD.sub (ws' := [(m0, .inr (11, [.ref mh, .ref mg, .ref ms, .ref md, .ref mc, .ref mr, .int (-1), .int 0, .int 0, .int 0, .long 0, .int 0, .int 0, .int 0]))]) [0] (by decide) rfl
  refine W.widen (k := 20) (n := 100) (Nat.le_of_ble_eq_true rfl) (Nat.le_of_ble_eq_true rfl) ?_
  exact W.iret (v := 0) hx hb hr (fun t ht hW => ⟨⟨0, [(m0, .inr (11, [.ref mh, .ref mg, .ref ms, .ref md, .ref mc, .ref mr, .int (-1), .int 0, .int 0, .int 0, .long 0, .int 0, .int 0, .int 0]))], rfl, ⟨rfl, rfl⟩, by rw [ht]; exact hP9, va_K.moved hW.alike hK, hD9⟩, hS.F ht⟩) hS.2.2 dX11_sources_14

set_option maxHeartbeats 4000000 in
set_option maxRecDepth 100000 in
theorem c_m_kept (l : Launch) (hfl : l.stackTraces = false) (g : GP) (m0 : Nat) (mh : Nat) (mg : Nat) (ms : Nat) (md : Nat) (mc : Nat) (mr : Nat)  : CI l yX11_kept (wG yX11_kept cX11_kept 1 (Option.some Jvm.ClassFile.FieldType.int)) (LV 3 20 100) g [.ref m0] ([(m0, .inr (11, [.ref mh, .ref mg, .ref ms, .ref md, .ref mc, .ref mr, .int (-1), .int 0, .int 0, .int 0, .long 0, .int 0, .int 0, .int 0])), (mc, .inr (1, [.int 0, .ref (g.2.2 1), .int 0]))]) (fun (r : Int32) (u : va_W) => r = 0 ∧ u = [(m0, .inr (11, [.ref mh, .ref mg, .ref ms, .ref md, .ref mc, .ref mr, .int (-1), .int 0, .int 0, .int 0, .long 0, .int 0, .int 0, .int 0]))]) := by
  intro sz
  refine Met.ofW (cc := cX11_kept) (maxL := 1) (ret := (Option.some Jvm.ClassFile.FieldType.int)) (by decide) rfl ?_
  intro p e s m args below meth c s₁ B hml hv
  obtain ⟨rfl, hsz, hP, hK, hD0, hT0⟩ := hv
  have hx := B.exec
  have hb := B.bytes
  have hr := B.returns
  have hts := atoms_spec (ws := (wG yX11_kept cX11_kept 1 (Option.some Jvm.ClassFile.FieldType.int))) B.pre
  have htg : ∀ w ∈ G9, w.before _ s = true := fun w h => hts w (List.mem_cons_of_mem _ h)
  have hown : s.vm.findClass "HeroTableModel" = some m.cls := findClass_of_methodNamed B.named
  have hlocks := B.notSynchronized
  subst hsz
  have hD := hD0.self (sz := s.heap.size)
  have hT := hT0
  clear hT0
  generalize hAe : va_A [(m0, .inr (11, [.ref mh, .ref mg, .ref ms, .ref md, .ref mc, .ref mr, .int (-1), .int 0, .int 0, .int 0, .long 0, .int 0, .int 0, .int 0])), (mc, .inr (1, [.int 0, .ref (g.2.2 1), .int 0]))] s.heap.size = A at hD hT ⊢
  have hA : ∀ q : Nat, s.heap.size ≤ q → A q := fun q h => by rw [← hAe]; exact Or.inr h
  obtain ⟨H, hH0⟩ : ∃ H, H = s.heap := ⟨_, rfl⟩
  have hS : va_S A s.heap H [] := by rw [hH0]; exact va_S.rf
  have hP : va_P g.1 CLS [(m0, .inr (11, [.ref mh, .ref mg, .ref ms, .ref md, .ref mc, .ref mr, .int (-1), .int 0, .int 0, .int 0, .long 0, .int 0, .int 0, .int 0])), (mc, .inr (1, [.int 0, .ref (g.2.2 1), .int 0]))] H := by rw [hH0]; exact hP
  rw [← hH0]
  have hl := lv_entry ([.ref m0]) (n := 1) (Nat.le_of_ble_eq_true rfl)
  rw [lg_entry_eq]
  generalize (lg_sl ([.ref m0]) ++ List.replicate (1 - (lg_sl ([.ref m0])).length) Slot.unset).toArray = ls at hl ⊢
  have hl : lv_has ls 1 [(0, .ref m0)] := hl
  refine lv_aload_n hx hb dX11_kept_0 rfl (lv_at hl 0 rfl) ?_
  refine lv_iconst (v := 0) hx hb dX11_kept_1 (by decide) ?_
  refine va_put (D := g.1) (ci := 11) (v := .int 0) (ty := .int) (C := RX11) (T := TX11) (N := 14) hx hb htg inG_X11 tyX11 tyX11_ok nmX11 hown hK hP hD hS 0 rfl rfl 13 (by decide) (htg _ k1353) (fun _ h9 => h9) rfl (by decide +kernel) rfl rfl (Nat.le_of_ble_eq_true rfl) dX11_kept_2 (fun H locs hP hD hS => ?_)
  have hP : va_P g.1 CLS [(m0, .inr (11, [.ref mh, .ref mg, .ref ms, .ref md, .ref mc, .ref mr, .int (-1), .int 0, .int 0, .int 0, .long 0, .int 0, .int 0, .int 0])), (mc, .inr (1, [.int 0, .ref (g.2.2 1), .int 0]))] H := hP
  have hD : va_D A [(m0, .inr (11, [.ref mh, .ref mg, .ref ms, .ref md, .ref mc, .ref mr, .int (-1), .int 0, .int 0, .int 0, .long 0, .int 0, .int 0, .int 0])), (mc, .inr (1, [.int 0, .ref (g.2.2 1), .int 0]))] := hD
  refine lv_aload_n hx hb dX11_kept_5 rfl (lv_at hl 0 rfl) ?_
  refine va_get (D := g.1) (ci := 11) (v := .ref mc) (C := RX11) (T := TX11) (N := 14) hx hb htg inG_X11 hown hK hP 0 rfl rfl 4 (by decide) (htg _ k1344) (fun _ h9 => h9) rfl dX11_kept_6 ?_
  have hPc := hP.sub (ws' := [(mc, .inr (1, [.int 0, .ref (g.2.2 1), .int 0]))]) [1] rfl
  have hDc := hD.sub (ws' := [(mc, .inr (1, [.int 0, .ref (g.2.2 1), .int 0]))]) [1] (by decide) rfl
  have hFc := va_free (wc := [(mc, .inr (1, [.int 0, .ref (g.2.2 1), .int 0]))]) hD hS hA [1] rfl
  refine q_cFi (wr := [(m0, .inr (11, [.ref mh, .ref mg, .ref ms, .ref md, .ref mc, .ref mr, .int (-1), .int 0, .int 0, .int 0, .long 0, .int 0, .int 0, .int 0]))]) (va_runF (As := []) (rest := []) (hK.1 1 _ rfl).2 ⟨hx, hb, hml, hown, htg⟩ (c_L_size l hfl g mc (g.2.2 1) 0 0  H.size) (qI5 htg k1409 k60 k1401 k1405 k1407 (hT.1.2.2.1.1) okx_size rfl rfl ⟨Nat.le_of_ble_eq_true rfl, Nat.le_of_ble_eq_true rfl⟩) ⟨(q_pre [.ref mc] hPc hDc hK hS hT hFc).1, va_recv hK hP (ci := 1) (q0 := 1) rfl rfl, (q_pre [.ref mc] hPc hDc hK hS hT hFc).2⟩ rfl rfl hl.1 rfl (lv_room (Nat.le_of_ble_eq_true rfl)) dX11_kept_9 ⟨Nat.le_of_ble_eq_true rfl, Nat.le_of_ble_eq_true rfl⟩) hP hD hS hFc [1] [0] rfl rfl (by decide) (by decide) (fun r9 u9 H locs hw hP hD hS => ?_)
  try dsimp only at hw
  rcases hw with ⟨rfl, rfl⟩
  have hP : va_P g.1 CLS [(m0, .inr (11, [.ref mh, .ref mg, .ref ms, .ref md, .ref mc, .ref mr, .int (-1), .int 0, .int 0, .int 0, .long 0, .int 0, .int 0, .int 0])), (mc, .inr (1, [.int 0, .ref (g.2.2 1), .int 0]))] H := hP
  have hD : va_D A [(m0, .inr (11, [.ref mh, .ref mg, .ref ms, .ref md, .ref mc, .ref mr, .int (-1), .int 0, .int 0, .int 0, .long 0, .int 0, .int 0, .int 0])), (mc, .inr (1, [.int 0, .ref (g.2.2 1), .int 0]))] := hD
  refine W.widen (k := 0) (n := 0) (Nat.le_of_ble_eq_true rfl) (Nat.le_of_ble_eq_true rfl) ?_
  have hP9 := hP.sub (ws' := [(m0, .inr (11, [.ref mh, .ref mg, .ref ms, .ref md, .ref mc, .ref mr, .int (-1), .int 0, .int 0, .int 0, .long 0, .int 0, .int 0, .int 0]))]) [0] rfl
  have hD9 := hD.sub (ws' := [(m0, .inr (11, [.ref mh, .ref mg, .ref ms, .ref md, .ref mc, .ref mr, .int (-1), .int 0, .int 0, .int 0, .long 0, .int 0, .int 0, .int 0]))]) [0] (by decide) rfl
  refine W.widen (k := 20) (n := 100) (Nat.le_of_ble_eq_true rfl) (Nat.le_of_ble_eq_true rfl) ?_
  exact W.iret (v := 0) hx hb hr (fun t ht hW => ⟨⟨0, [(m0, .inr (11, [.ref mh, .ref mg, .ref ms, .ref md, .ref mc, .ref mr, .int (-1), .int 0, .int 0, .int 0, .long 0, .int 0, .int 0, .int 0]))], rfl, ⟨rfl, rfl⟩, by rw [ht]; exact hP9, va_K.moved hW.alike hK, hD9⟩, hS.F ht⟩) hS.2.2 dX11_kept_14

set_option maxHeartbeats 4000000 in
set_option maxRecDepth 100000 in
theorem c_m_dice (l : Launch) (hfl : l.stackTraces = false) (g : GP) (m0 : Nat) (mh : Nat) (mg : Nat) (ms : Nat) (md : Nat) (mc : Nat) (mr : Nat) (me : Nat) (fe : Nat → Option Nat)  : CI l yX11_dice (wG yX11_dice cX11_dice 1 (Option.some Jvm.ClassFile.FieldType.int)) (LV 4 20 100) g [.ref m0] ([(m0, .inr (11, [.ref mh, .ref mg, .ref ms, .ref md, .ref mc, .ref mr, .int (-1), .int 0, .int 0, .int 0, .long 0, .int 0, .int 0, .int 0])), (md, .inr (12, [.ref me, .int 0, .int 0])), (me, .inl (g.2.1 5, 17, .inr (.inr (.inr (.inr fe)))))]) (fun (r : Int32) (u : va_W) => r = 0 ∧ u = [(m0, .inr (11, [.ref mh, .ref mg, .ref ms, .ref md, .ref mc, .ref mr, .int (-1), .int 0, .int 0, .int 0, .long 0, .int 0, .int 0, .int 0]))]) := by
  intro sz
  refine Met.ofW (cc := cX11_dice) (maxL := 1) (ret := (Option.some Jvm.ClassFile.FieldType.int)) (by decide) rfl ?_
  intro p e s m args below meth c s₁ B hml hv
  obtain ⟨rfl, hsz, hP, hK, hD0, hT0⟩ := hv
  have hx := B.exec
  have hb := B.bytes
  have hr := B.returns
  have hts := atoms_spec (ws := (wG yX11_dice cX11_dice 1 (Option.some Jvm.ClassFile.FieldType.int))) B.pre
  have htg : ∀ w ∈ G9, w.before _ s = true := fun w h => hts w (List.mem_cons_of_mem _ h)
  have hown : s.vm.findClass "HeroTableModel" = some m.cls := findClass_of_methodNamed B.named
  have hlocks := B.notSynchronized
  subst hsz
  have hD := hD0.self (sz := s.heap.size)
  have hT := hT0
  clear hT0
  generalize hAe : va_A [(m0, .inr (11, [.ref mh, .ref mg, .ref ms, .ref md, .ref mc, .ref mr, .int (-1), .int 0, .int 0, .int 0, .long 0, .int 0, .int 0, .int 0])), (md, .inr (12, [.ref me, .int 0, .int 0])), (me, .inl (g.2.1 5, 17, .inr (.inr (.inr (.inr fe)))))] s.heap.size = A at hD hT ⊢
  have hA : ∀ q : Nat, s.heap.size ≤ q → A q := fun q h => by rw [← hAe]; exact Or.inr h
  obtain ⟨H, hH0⟩ : ∃ H, H = s.heap := ⟨_, rfl⟩
  have hS : va_S A s.heap H [] := by rw [hH0]; exact va_S.rf
  have hP : va_P g.1 CLS [(m0, .inr (11, [.ref mh, .ref mg, .ref ms, .ref md, .ref mc, .ref mr, .int (-1), .int 0, .int 0, .int 0, .long 0, .int 0, .int 0, .int 0])), (md, .inr (12, [.ref me, .int 0, .int 0])), (me, .inl (g.2.1 5, 17, .inr (.inr (.inr (.inr fe)))))] H := by rw [hH0]; exact hP
  rw [← hH0]
  have hl := lv_entry ([.ref m0]) (n := 1) (Nat.le_of_ble_eq_true rfl)
  rw [lg_entry_eq]
  generalize (lg_sl ([.ref m0]) ++ List.replicate (1 - (lg_sl ([.ref m0])).length) Slot.unset).toArray = ls at hl ⊢
  have hl : lv_has ls 1 [(0, .ref m0)] := hl
  refine lv_aload_n hx hb dX11_dice_0 rfl (lv_at hl 0 rfl) ?_
  refine lv_iconst (v := 0) hx hb dX11_dice_1 (by decide) ?_
  refine va_put (D := g.1) (ci := 11) (v := .int 0) (ty := .int) (C := RX11) (T := TX11) (N := 14) hx hb htg inG_X11 tyX11 tyX11_ok nmX11 hown hK hP hD hS 0 rfl rfl 13 (by decide) (htg _ k1353) (fun _ h9 => h9) rfl (by decide +kernel) rfl rfl (Nat.le_of_ble_eq_true rfl) dX11_dice_2 (fun H locs hP hD hS => ?_)
  have hP : va_P g.1 CLS [(m0, .inr (11, [.ref mh, .ref mg, .ref ms, .ref md, .ref mc, .ref mr, .int (-1), .int 0, .int 0, .int 0, .long 0, .int 0, .int 0, .int 0])), (md, .inr (12, [.ref me, .int 0, .int 0])), (me, .inl (g.2.1 5, 17, .inr (.inr (.inr (.inr fe)))))] H := hP
  have hD : va_D A [(m0, .inr (11, [.ref mh, .ref mg, .ref ms, .ref md, .ref mc, .ref mr, .int (-1), .int 0, .int 0, .int 0, .long 0, .int 0, .int 0, .int 0])), (md, .inr (12, [.ref me, .int 0, .int 0])), (me, .inl (g.2.1 5, 17, .inr (.inr (.inr (.inr fe)))))] := hD
  refine lv_aload_n hx hb dX11_dice_5 rfl (lv_at hl 0 rfl) ?_
  refine va_get (D := g.1) (ci := 11) (v := .ref md) (C := RX11) (T := TX11) (N := 14) hx hb htg inG_X11 hown hK hP 0 rfl rfl 3 (by decide) (htg _ k1343) (fun _ h9 => h9) rfl dX11_dice_6 ?_
  have hPc := hP.sub (ws' := [(md, .inr (12, [.ref me, .int 0, .int 0])), (me, .inl (g.2.1 5, 17, .inr (.inr (.inr (.inr fe)))))]) [1, 2] rfl
  have hDc := hD.sub (ws' := [(md, .inr (12, [.ref me, .int 0, .int 0])), (me, .inl (g.2.1 5, 17, .inr (.inr (.inr (.inr fe)))))]) [1, 2] (by decide) rfl
  have hFc := va_free (wc := [(md, .inr (12, [.ref me, .int 0, .int 0])), (me, .inl (g.2.1 5, 17, .inr (.inr (.inr (.inr fe)))))]) hD hS hA [1, 2] rfl
  refine q_ci (wr := [(m0, .inr (11, [.ref mh, .ref mg, .ref ms, .ref md, .ref mc, .ref mr, .int (-1), .int 0, .int 0, .int 0, .long 0, .int 0, .int 0, .int 0]))]) (va_runV (As := []) (rest := []) ⟨hx, hb, hml, hown, htg⟩ (c_X12_size0 l hfl g md me fe  H.size) ⟨(qB htg k1856 k61 k1853 ok_X12_size rfl rfl ⟨Nat.le_of_ble_eq_true rfl, Nat.le_of_ble_eq_true rfl⟩), htg _ k1854, htg _ k1855⟩ ⟨(q_pre [.ref md] hPc hDc hK hS hT hFc).1, va_recv hK hP (ci := 12) (q0 := 1) rfl rfl, (q_pre [.ref md] hPc hDc hK hS hT hFc).2⟩ rfl rfl hl.1 rfl (lv_room (Nat.le_of_ble_eq_true rfl)) dX11_dice_9 ⟨Nat.le_of_ble_eq_true rfl, Nat.le_of_ble_eq_true rfl⟩) hP hD hS hFc [1, 2] [0] rfl rfl (by decide) (by decide) (fun r9 u9 H locs hw hP hD hS => ?_)
  try dsimp only at hw
  rcases hw with ⟨rfl, rfl⟩
  have hP : va_P g.1 CLS [(m0, .inr (11, [.ref mh, .ref mg, .ref ms, .ref md, .ref mc, .ref mr, .int (-1), .int 0, .int 0, .int 0, .long 0, .int 0, .int 0, .int 0])), (md, .inr (12, [.ref me, .int 0, .int 0]))] H := hP
  have hD : va_D A [(m0, .inr (11, [.ref mh, .ref mg, .ref ms, .ref md, .ref mc, .ref mr, .int (-1), .int 0, .int 0, .int 0, .long 0, .int 0, .int 0, .int 0])), (md, .inr (12, [.ref me, .int 0, .int 0]))] := hD
  refine W.widen (k := 0) (n := 0) (Nat.le_of_ble_eq_true rfl) (Nat.le_of_ble_eq_true rfl) ?_
  have hP9 := hP.sub (ws' := [(m0, .inr (11, [.ref mh, .ref mg, .ref ms, .ref md, .ref mc, .ref mr, .int (-1), .int 0, .int 0, .int 0, .long 0, .int 0, .int 0, .int 0]))]) [0] rfl
  have hD9 := hD.sub (ws' := [(m0, .inr (11, [.ref mh, .ref mg, .ref ms, .ref md, .ref mc, .ref mr, .int (-1), .int 0, .int 0, .int 0, .long 0, .int 0, .int 0, .int 0]))]) [0] (by decide) rfl
  refine W.widen (k := 20) (n := 100) (Nat.le_of_ble_eq_true rfl) (Nat.le_of_ble_eq_true rfl) ?_
  exact W.iret (v := 0) hx hb hr (fun t ht hW => ⟨⟨0, [(m0, .inr (11, [.ref mh, .ref mg, .ref ms, .ref md, .ref mc, .ref mr, .int (-1), .int 0, .int 0, .int 0, .long 0, .int 0, .int 0, .int 0]))], rfl, ⟨rfl, rfl⟩, by rw [ht]; exact hP9, va_K.moved hW.alike hK, hD9⟩, hS.F ht⟩) hS.2.2 dX11_dice_12

set_option maxHeartbeats 4000000 in
set_option maxRecDepth 100000 in
theorem c_m_round (l : Launch) (hfl : l.stackTraces = false) (g : GP) (m0 : Nat) (mh : Nat) (mg : Nat) (ms : Nat) (md : Nat) (mc : Nat) (mr : Nat)  : CI l yX11_round (wG yX11_round cX11_round 1 (Option.some Jvm.ClassFile.FieldType.int)) (LV 1 0 0) g [.ref m0] ([(m0, .inr (11, [.ref mh, .ref mg, .ref ms, .ref md, .ref mc, .ref mr, .int (-1), .int 0, .int 0, .int 0, .long 0, .int 0, .int 0, .int 0]))]) (fun (r : Int32) (u : va_W) => r = 0 ∧ u = [(m0, .inr (11, [.ref mh, .ref mg, .ref ms, .ref md, .ref mc, .ref mr, .int (-1), .int 0, .int 0, .int 0, .long 0, .int 0, .int 0, .int 0]))]) := by
  intro sz
  refine Met.ofW (cc := cX11_round) (maxL := 1) (ret := (Option.some Jvm.ClassFile.FieldType.int)) (by decide) rfl ?_
  intro p e s m args below meth c s₁ B hml hv
  obtain ⟨rfl, hsz, hP, hK, hD0, hT0⟩ := hv
  have hx := B.exec
  have hb := B.bytes
  have hr := B.returns
  have hts := atoms_spec (ws := (wG yX11_round cX11_round 1 (Option.some Jvm.ClassFile.FieldType.int))) B.pre
  have htg : ∀ w ∈ G9, w.before _ s = true := fun w h => hts w (List.mem_cons_of_mem _ h)
  have hown : s.vm.findClass "HeroTableModel" = some m.cls := findClass_of_methodNamed B.named
  have hlocks := B.notSynchronized
  subst hsz
  have hD := hD0.self (sz := s.heap.size)
  have hT := hT0
  clear hT0
  generalize hAe : va_A [(m0, .inr (11, [.ref mh, .ref mg, .ref ms, .ref md, .ref mc, .ref mr, .int (-1), .int 0, .int 0, .int 0, .long 0, .int 0, .int 0, .int 0]))] s.heap.size = A at hD hT ⊢
  have hA : ∀ q : Nat, s.heap.size ≤ q → A q := fun q h => by rw [← hAe]; exact Or.inr h
  obtain ⟨H, hH0⟩ : ∃ H, H = s.heap := ⟨_, rfl⟩
  have hS : va_S A s.heap H [] := by rw [hH0]; exact va_S.rf
  have hP : va_P g.1 CLS [(m0, .inr (11, [.ref mh, .ref mg, .ref ms, .ref md, .ref mc, .ref mr, .int (-1), .int 0, .int 0, .int 0, .long 0, .int 0, .int 0, .int 0]))] H := by rw [hH0]; exact hP
  rw [← hH0]
  have hl := lv_entry ([.ref m0]) (n := 1) (Nat.le_of_ble_eq_true rfl)
  rw [lg_entry_eq]
  generalize (lg_sl ([.ref m0]) ++ List.replicate (1 - (lg_sl ([.ref m0])).length) Slot.unset).toArray = ls at hl ⊢
  have hl : lv_has ls 1 [(0, .ref m0)] := hl
  refine lv_aload_n hx hb dX11_round_0 rfl (lv_at hl 0 rfl) ?_
  refine lv_iconst (v := 0) hx hb dX11_round_1 (by decide) ?_
  refine va_put (D := g.1) (ci := 11) (v := .int 0) (ty := .int) (C := RX11) (T := TX11) (N := 14) hx hb htg inG_X11 tyX11 tyX11_ok nmX11 hown hK hP hD hS 0 rfl rfl 13 (by decide) (htg _ k1353) (fun _ h9 => h9) rfl (by decide +kernel) rfl rfl (Nat.le_of_ble_eq_true rfl) dX11_round_2 (fun H locs hP hD hS => ?_)
  have hP : va_P g.1 CLS [(m0, .inr (11, [.ref mh, .ref mg, .ref ms, .ref md, .ref mc, .ref mr, .int (-1), .int 0, .int 0, .int 0, .long 0, .int 0, .int 0, .int 0]))] H := hP
  have hD : va_D A [(m0, .inr (11, [.ref mh, .ref mg, .ref ms, .ref md, .ref mc, .ref mr, .int (-1), .int 0, .int 0, .int 0, .long 0, .int 0, .int 0, .int 0]))] := hD
  refine lv_aload_n hx hb dX11_round_5 rfl (lv_at hl 0 rfl) ?_
  refine va_get (D := g.1) (ci := 11) (v := .int 0) (C := RX11) (T := TX11) (N := 14) hx hb htg inG_X11 hown hK hP 0 rfl rfl 7 (by decide) (htg _ k1347) (fun _ h9 => h9) rfl dX11_round_6 ?_
  have hP9 := hP.sub (ws' := [(m0, .inr (11, [.ref mh, .ref mg, .ref ms, .ref md, .ref mc, .ref mr, .int (-1), .int 0, .int 0, .int 0, .long 0, .int 0, .int 0, .int 0]))]) [0] rfl
  have hD9 := hD.sub (ws' := [(m0, .inr (11, [.ref mh, .ref mg, .ref ms, .ref md, .ref mc, .ref mr, .int (-1), .int 0, .int 0, .int 0, .long 0, .int 0, .int 0, .int 0]))]) [0] (by decide) rfl
  refine W.widen (k := 0) (n := 0) (Nat.le_of_ble_eq_true rfl) (Nat.le_of_ble_eq_true rfl) ?_
  exact W.iret (v := 0) hx hb hr (fun t ht hW => ⟨⟨0, [(m0, .inr (11, [.ref mh, .ref mg, .ref ms, .ref md, .ref mc, .ref mr, .int (-1), .int 0, .int 0, .int 0, .long 0, .int 0, .int 0, .int 0]))], rfl, ⟨rfl, rfl⟩, by rw [ht]; exact hP9, va_K.moved hW.alike hK, hD9⟩, hS.F ht⟩) hS.2.2 dX11_round_9

set_option maxHeartbeats 4000000 in
set_option maxRecDepth 100000 in
theorem c_m_harmDone (l : Launch) (hfl : l.stackTraces = false) (g : GP) (m0 : Nat) (mh : Nat) (mg : Nat) (ms : Nat) (md : Nat) (mc : Nat) (mr : Nat)  : CL l yX11_harmDone (wG yX11_harmDone cX11_harmDone 1 (Option.some Jvm.ClassFile.FieldType.long)) (LV 1 0 0) g [.ref m0] ([(m0, .inr (11, [.ref mh, .ref mg, .ref ms, .ref md, .ref mc, .ref mr, .int (-1), .int 0, .int 0, .int 0, .long 0, .int 0, .int 0, .int 0]))]) (fun (r : Int64) (u : va_W) => r = 0 ∧ u = [(m0, .inr (11, [.ref mh, .ref mg, .ref ms, .ref md, .ref mc, .ref mr, .int (-1), .int 0, .int 0, .int 0, .long 0, .int 0, .int 0, .int 0]))]) := by
  intro sz
  refine Met.ofW (cc := cX11_harmDone) (maxL := 1) (ret := (Option.some Jvm.ClassFile.FieldType.long)) (by decide) rfl ?_
  intro p e s m args below meth c s₁ B hml hv
  obtain ⟨rfl, hsz, hP, hK, hD0, hT0⟩ := hv
  have hx := B.exec
  have hb := B.bytes
  have hr := B.returns
  have hts := atoms_spec (ws := (wG yX11_harmDone cX11_harmDone 1 (Option.some Jvm.ClassFile.FieldType.long))) B.pre
  have htg : ∀ w ∈ G9, w.before _ s = true := fun w h => hts w (List.mem_cons_of_mem _ h)
  have hown : s.vm.findClass "HeroTableModel" = some m.cls := findClass_of_methodNamed B.named
  have hlocks := B.notSynchronized
  subst hsz
  have hD := hD0.self (sz := s.heap.size)
  have hT := hT0
  clear hT0
  generalize hAe : va_A [(m0, .inr (11, [.ref mh, .ref mg, .ref ms, .ref md, .ref mc, .ref mr, .int (-1), .int 0, .int 0, .int 0, .long 0, .int 0, .int 0, .int 0]))] s.heap.size = A at hD hT ⊢
  have hA : ∀ q : Nat, s.heap.size ≤ q → A q := fun q h => by rw [← hAe]; exact Or.inr h
  obtain ⟨H, hH0⟩ : ∃ H, H = s.heap := ⟨_, rfl⟩
  have hS : va_S A s.heap H [] := by rw [hH0]; exact va_S.rf
  have hP : va_P g.1 CLS [(m0, .inr (11, [.ref mh, .ref mg, .ref ms, .ref md, .ref mc, .ref mr, .int (-1), .int 0, .int 0, .int 0, .long 0, .int 0, .int 0, .int 0]))] H := by rw [hH0]; exact hP
  rw [← hH0]
  have hl := lv_entry ([.ref m0]) (n := 1) (Nat.le_of_ble_eq_true rfl)
  rw [lg_entry_eq]
  generalize (lg_sl ([.ref m0]) ++ List.replicate (1 - (lg_sl ([.ref m0])).length) Slot.unset).toArray = ls at hl ⊢
  have hl : lv_has ls 1 [(0, .ref m0)] := hl
  refine lv_aload_n hx hb dX11_harmDone_0 rfl (lv_at hl 0 rfl) ?_
  refine lv_iconst (v := 0) hx hb dX11_harmDone_1 (by decide) ?_
  refine va_put (D := g.1) (ci := 11) (v := .int 0) (ty := .int) (C := RX11) (T := TX11) (N := 14) hx hb htg inG_X11 tyX11 tyX11_ok nmX11 hown hK hP hD hS 0 rfl rfl 13 (by decide) (htg _ k1353) (fun _ h9 => h9) rfl (by decide +kernel) rfl rfl (Nat.le_of_ble_eq_true rfl) dX11_harmDone_2 (fun H locs hP hD hS => ?_)
  have hP : va_P g.1 CLS [(m0, .inr (11, [.ref mh, .ref mg, .ref ms, .ref md, .ref mc, .ref mr, .int (-1), .int 0, .int 0, .int 0, .long 0, .int 0, .int 0, .int 0]))] H := hP
  have hD : va_D A [(m0, .inr (11, [.ref mh, .ref mg, .ref ms, .ref md, .ref mc, .ref mr, .int (-1), .int 0, .int 0, .int 0, .long 0, .int 0, .int 0, .int 0]))] := hD
  refine lv_aload_n hx hb dX11_harmDone_5 rfl (lv_at hl 0 rfl) ?_
  refine va_get (D := g.1) (ci := 11) (v := .long 0) (C := RX11) (T := TX11) (N := 14) hx hb htg inG_X11 hown hK hP 0 rfl rfl 10 (by decide) (htg _ k1350) (fun _ h9 => h9) rfl dX11_harmDone_6 ?_
  have hP9 := hP.sub (ws' := [(m0, .inr (11, [.ref mh, .ref mg, .ref ms, .ref md, .ref mc, .ref mr, .int (-1), .int 0, .int 0, .int 0, .long 0, .int 0, .int 0, .int 0]))]) [0] rfl
  have hD9 := hD.sub (ws' := [(m0, .inr (11, [.ref mh, .ref mg, .ref ms, .ref md, .ref mc, .ref mr, .int (-1), .int 0, .int 0, .int 0, .long 0, .int 0, .int 0, .int 0]))]) [0] (by decide) rfl
  refine W.widen (k := 0) (n := 0) (Nat.le_of_ble_eq_true rfl) (Nat.le_of_ble_eq_true rfl) ?_
  exact W.lret (v := 0) hx hb hr (fun t ht hW => ⟨⟨0, [(m0, .inr (11, [.ref mh, .ref mg, .ref ms, .ref md, .ref mc, .ref mr, .int (-1), .int 0, .int 0, .int 0, .long 0, .int 0, .int 0, .int 0]))], rfl, ⟨rfl, rfl⟩, by rw [ht]; exact hP9, va_K.moved hW.alike hK, hD9⟩, hS.F ht⟩) hS.2.2 dX11_harmDone_9

set_option maxHeartbeats 4000000 in
set_option maxRecDepth 100000 in
theorem c_m_tellDie (l : Launch) (hfl : l.stackTraces = false) (g : GP) (m0 : Nat) (mh : Nat) (mg : Nat) (ms : Nat) (md : Nat) (mc : Nat) (mr : Nat) (me : Nat) (fe : Nat → Option Nat) (n1 : Int32)  : CI l yX11_tellDie (wG yX11_tellDie cX11_tellDie 2 (Option.some Jvm.ClassFile.FieldType.int)) (LV 8 20 100) g [.ref m0, .int n1] ([(m0, .inr (11, [.ref mh, .ref mg, .ref ms, .ref md, .ref mc, .ref mr, .int (-1), .int 0, .int 0, .int 0, .long 0, .int 0, .int 0, .int 0])), (mc, .inr (1, [.int 0, .ref (g.2.2 1), .int 0])), (md, .inr (12, [.ref me, .int 0, .int 0])), (me, .inl (g.2.1 5, 17, .inr (.inr (.inr (.inr fe)))))]) (fun (r : Int32) (u : va_W) => ((okDie n1) ∧ r = 1 ∧ u = [(m0, .inr (11, [.ref mh, .ref mg, .ref ms, .ref md, .ref mc, .ref mr, .int (-1), .int 0, .int 0, .int 0, .long 0, .int 0, .int 0, .int 0]))]) ∨ ((¬ okDie n1) ∧ r = (-1) ∧ u = [(m0, .inr (11, [.ref mh, .ref mg, .ref ms, .ref md, .ref mc, .ref mr, .int (-1), .int 0, .int 0, .int 0, .long 0, .int 0, .int 0, .int 1]))])) := by
  intro sz
  refine Met.ofW (cc := cX11_tellDie) (maxL := 2) (ret := (Option.some Jvm.ClassFile.FieldType.int)) (by decide) rfl ?_
  intro p e s m args below meth c s₁ B hml hv
  obtain ⟨rfl, hsz, hP, hK, hD0, hT0⟩ := hv
  have hx := B.exec
  have hb := B.bytes
  have hr := B.returns
  have hts := atoms_spec (ws := (wG yX11_tellDie cX11_tellDie 2 (Option.some Jvm.ClassFile.FieldType.int))) B.pre
  have htg : ∀ w ∈ G9, w.before _ s = true := fun w h => hts w (List.mem_cons_of_mem _ h)
  have hown : s.vm.findClass "HeroTableModel" = some m.cls := findClass_of_methodNamed B.named
  have hlocks := B.notSynchronized
  subst hsz
  have hD := hD0.self (sz := s.heap.size)
  have hT := hT0
  clear hT0
  generalize hAe : va_A [(m0, .inr (11, [.ref mh, .ref mg, .ref ms, .ref md, .ref mc, .ref mr, .int (-1), .int 0, .int 0, .int 0, .long 0, .int 0, .int 0, .int 0])), (mc, .inr (1, [.int 0, .ref (g.2.2 1), .int 0])), (md, .inr (12, [.ref me, .int 0, .int 0])), (me, .inl (g.2.1 5, 17, .inr (.inr (.inr (.inr fe)))))] s.heap.size = A at hD hT ⊢
  have hA : ∀ q : Nat, s.heap.size ≤ q → A q := fun q h => by rw [← hAe]; exact Or.inr h
  obtain ⟨H, hH0⟩ : ∃ H, H = s.heap := ⟨_, rfl⟩
  have hS : va_S A s.heap H [] := by rw [hH0]; exact va_S.rf
  have hP : va_P g.1 CLS [(m0, .inr (11, [.ref mh, .ref mg, .ref ms, .ref md, .ref mc, .ref mr, .int (-1), .int 0, .int 0, .int 0, .long 0, .int 0, .int 0, .int 0])), (mc, .inr (1, [.int 0, .ref (g.2.2 1), .int 0])), (md, .inr (12, [.ref me, .int 0, .int 0])), (me, .inl (g.2.1 5, 17, .inr (.inr (.inr (.inr fe)))))] H := by rw [hH0]; exact hP
  rw [← hH0]
  have hl := lv_entry ([.ref m0, .int n1]) (n := 2) (Nat.le_of_ble_eq_true rfl)
  rw [lg_entry_eq]
  generalize (lg_sl ([.ref m0, .int n1]) ++ List.replicate (2 - (lg_sl ([.ref m0, .int n1])).length) Slot.unset).toArray = ls at hl ⊢
  have hl : lv_has ls 2 [(0, .ref m0), (1, .int n1)] := hl
  refine lv_aload_n hx hb dX11_tellDie_0 rfl (lv_at hl 0 rfl) ?_
  refine lv_iload_n hx hb dX11_tellDie_1 rfl (lv_at hl 1 rfl) ?_
  refine lv_i2l (v := n1.toInt64) hx hb dX11_tellDie_2 rfl ?_
  refine lv_lconst (v := 1) hx hb dX11_tellDie_3 (by decide) ?_
  refine lv_ldc2 (own := "HeroTableModel") (index := 242) (v := 20) hx hb hown (htg _ k1810) dX11_tellDie_4 ?_
  have hPc := hP.sub (ws' := []) [] rfl
  have hDc := hD.sub (ws' := []) [] (by decide) rfl
  have hFc := va_free (wc := []) hD hS hA [] rfl
  refine q_ci (wr := [(m0, .inr (11, [.ref mh, .ref mg, .ref ms, .ref md, .ref mc, .ref mr, .int (-1), .int 0, .int 0, .int 0, .long 0, .int 0, .int 0, .int 0])), (mc, .inr (1, [.int 0, .ref (g.2.2 1), .int 0])), (md, .inr (12, [.ref me, .int 0, .int 0])), (me, .inl (g.2.1 5, 17, .inr (.inr (.inr (.inr fe)))))]) (va_runS (As := [.long n1.toInt64, .long 1, .long 20]) (rest := [.ref m0]) ⟨hx, hb, hml, hown, htg⟩ (c_X11_in l hfl g n1.toInt64 1 20  H.size) ⟨(qB htg k1393 k57 k1391 ok_X11_in rfl rfl ⟨Nat.le_of_ble_eq_true rfl, Nat.le_of_ble_eq_true rfl⟩), htg _ k1392⟩ (q_pre [.long n1.toInt64, .long 1, .long 20] hPc hDc hK hS hT hFc) rfl rfl hl.1 rfl (lv_room (Nat.le_of_ble_eq_true rfl)) dX11_tellDie_7 ⟨Nat.le_of_ble_eq_true rfl, Nat.le_of_ble_eq_true rfl⟩) hP hD hS hFc [] [0, 1, 2, 3] rfl rfl (by decide) (by decide) (fun r9 u9 H locs hw hP hD hS => ?_)
  try dsimp only at hw
  rcases hw with ⟨c_1, rfl, rfl⟩ | ⟨c_2, rfl, rfl⟩
  · have hP : va_P g.1 CLS [(m0, .inr (11, [.ref mh, .ref mg, .ref ms, .ref md, .ref mc, .ref mr, .int (-1), .int 0, .int 0, .int 0, .long 0, .int 0, .int 0, .int 0])), (mc, .inr (1, [.int 0, .ref (g.2.2 1), .int 0])), (md, .inr (12, [.ref me, .int 0, .int 0])), (me, .inl (g.2.1 5, 17, .inr (.inr (.inr (.inr fe)))))] H := hP
    have hD : va_D A [(m0, .inr (11, [.ref mh, .ref mg, .ref ms, .ref md, .ref mc, .ref mr, .int (-1), .int 0, .int 0, .int 0, .long 0, .int 0, .int 0, .int 0])), (mc, .inr (1, [.int 0, .ref (g.2.2 1), .int 0])), (md, .inr (12, [.ref me, .int 0, .int 0])), (me, .inl (g.2.1 5, 17, .inr (.inr (.inr (.inr fe)))))] := hD
    refine W.widen (k := 0) (n := 0) (Nat.le_of_ble_eq_true rfl) (Nat.le_of_ble_eq_true rfl) ?_
    refine lv_if_eq (tgt := 17) hx hb dX11_tellDie_10 (by decide) (fun c_3 => absurd c_3 (by decide)) (fun c_3 => ?_)
    refine lv_iconst (v := 0) hx hb dX11_tellDie_13 (by decide) ?_
    refine lv_goto (tgt := 18) hx hb dX11_tellDie_14 (by decide) ?_
    refine va_put (D := g.1) (ci := 11) (v := .int 0) (ty := .int) (C := RX11) (T := TX11) (N := 14) hx hb htg inG_X11 tyX11 tyX11_ok nmX11 hown hK hP hD hS 0 rfl rfl 13 (by decide) (htg _ k1353) (fun _ h9 => h9) rfl (by decide +kernel) rfl rfl (Nat.le_of_ble_eq_true rfl) dX11_tellDie_18 (fun H locs hP hD hS => ?_)
    have hP : va_P g.1 CLS [(m0, .inr (11, [.ref mh, .ref mg, .ref ms, .ref md, .ref mc, .ref mr, .int (-1), .int 0, .int 0, .int 0, .long 0, .int 0, .int 0, .int 0])), (mc, .inr (1, [.int 0, .ref (g.2.2 1), .int 0])), (md, .inr (12, [.ref me, .int 0, .int 0])), (me, .inl (g.2.1 5, 17, .inr (.inr (.inr (.inr fe)))))] H := hP
    have hD : va_D A [(m0, .inr (11, [.ref mh, .ref mg, .ref ms, .ref md, .ref mc, .ref mr, .int (-1), .int 0, .int 0, .int 0, .long 0, .int 0, .int 0, .int 0])), (mc, .inr (1, [.int 0, .ref (g.2.2 1), .int 0])), (md, .inr (12, [.ref me, .int 0, .int 0])), (me, .inl (g.2.1 5, 17, .inr (.inr (.inr (.inr fe)))))] := hD
    refine lv_aload_n hx hb dX11_tellDie_21 rfl (lv_at hl 0 rfl) ?_
    refine va_get (D := g.1) (ci := 11) (v := .int 0) (C := RX11) (T := TX11) (N := 14) hx hb htg inG_X11 hown hK hP 0 rfl rfl 13 (by decide) (htg _ k1353) (fun _ h9 => h9) rfl dX11_tellDie_22 ?_
    refine lv_if_le (tgt := 30) hx hb dX11_tellDie_25 (by decide) (fun c_4 => ?_) (fun c_4 => absurd (by decide) c_4)
    refine lv_aload_n hx hb dX11_tellDie_30 rfl (lv_at hl 0 rfl) ?_
    refine lv_bipush (v := 68) hx hb dX11_tellDie_31 (by decide) ?_
    refine lv_iconst (v := 1) hx hb dX11_tellDie_33 (by decide) ?_
    refine va_newa (atype := .int) (ty := .int) (a0 := (1, .inl (fun _ => 0))) (N' := 1) hx hb (htg _ k156) rfl hK hP hD hS hA (fun _ => rfl) (by decide) (by decide) (by decide) (Nat.le_of_ble_eq_true rfl) (Nat.le_of_ble_eq_true rfl) dX11_tellDie_34 (fun q_5 cA H hK9 hP hD hS => ?_)
    obtain rfl := q_arr hK9 (t0 := 1) rfl (by decide)
    clear hK9
    have hP : va_P g.1 CLS [(m0, .inr (11, [.ref mh, .ref mg, .ref ms, .ref md, .ref mc, .ref mr, .int (-1), .int 0, .int 0, .int 0, .long 0, .int 0, .int 0, .int 0])), (mc, .inr (1, [.int 0, .ref (g.2.2 1), .int 0])), (md, .inr (12, [.ref me, .int 0, .int 0])), (me, .inl (g.2.1 5, 17, .inr (.inr (.inr (.inr fe))))), (q_5, .inl (g.2.1 1, 1, .inl (fun _ => 0)))] H := hP
    have hD : va_D A [(m0, .inr (11, [.ref mh, .ref mg, .ref ms, .ref md, .ref mc, .ref mr, .int (-1), .int 0, .int 0, .int 0, .long 0, .int 0, .int 0, .int 0])), (mc, .inr (1, [.int 0, .ref (g.2.2 1), .int 0])), (md, .inr (12, [.ref me, .int 0, .int 0])), (me, .inl (g.2.1 5, 17, .inr (.inr (.inr (.inr fe))))), (q_5, .inl (g.2.1 1, 1, .inl (fun _ => 0)))] := hD
    refine W.widen (k := 1) (n := 1) (Nat.le_of_ble_eq_true rfl) (Nat.le_of_ble_eq_true rfl) ?_
    refine lv_dup hx hb dX11_tellDie_36 rfl ?_
    refine lv_iconst (v := 0) hx hb dX11_tellDie_37 (by decide) ?_
    refine lv_iload_n hx hb dX11_tellDie_38 rfl (lv_at hl 1 rfl) ?_
    refine va_iast hx hb hK hP hD hS 4 1 rfl rfl (i := 0) (vp_in_iff.mpr (by decide)) dX11_tellDie_39 (fun H locs hP hD hS => ?_)
    have hP : va_P g.1 CLS [(m0, .inr (11, [.ref mh, .ref mg, .ref ms, .ref md, .ref mc, .ref mr, .int (-1), .int 0, .int 0, .int 0, .long 0, .int 0, .int 0, .int 0])), (mc, .inr (1, [.int 0, .ref (g.2.2 1), .int 0])), (md, .inr (12, [.ref me, .int 0, .int 0])), (me, .inl (g.2.1 5, 17, .inr (.inr (.inr (.inr fe))))), (q_5, .inl (g.2.1 1, 1, .inl (upd (fun _ => 0) 0 n1)))] H := hP
    have hD : va_D A [(m0, .inr (11, [.ref mh, .ref mg, .ref ms, .ref md, .ref mc, .ref mr, .int (-1), .int 0, .int 0, .int 0, .long 0, .int 0, .int 0, .int 0])), (mc, .inr (1, [.int 0, .ref (g.2.2 1), .int 0])), (md, .inr (12, [.ref me, .int 0, .int 0])), (me, .inl (g.2.1 5, 17, .inr (.inr (.inr (.inr fe))))), (q_5, .inl (g.2.1 1, 1, .inl (upd (fun _ => 0) 0 n1)))] := hD
    have hPc := hP.sub (ws' := [(m0, .inr (11, [.ref mh, .ref mg, .ref ms, .ref md, .ref mc, .ref mr, .int (-1), .int 0, .int 0, .int 0, .long 0, .int 0, .int 0, .int 0])), (mc, .inr (1, [.int 0, .ref (g.2.2 1), .int 0]))]) [0, 1] rfl
    have hDc := hD.sub (ws' := [(m0, .inr (11, [.ref mh, .ref mg, .ref ms, .ref md, .ref mc, .ref mr, .int (-1), .int 0, .int 0, .int 0, .long 0, .int 0, .int 0, .int 0])), (mc, .inr (1, [.int 0, .ref (g.2.2 1), .int 0]))]) [0, 1] (by decide) rfl
    have hFc := va_free (wc := [(m0, .inr (11, [.ref mh, .ref mg, .ref ms, .ref md, .ref mc, .ref mr, .int (-1), .int 0, .int 0, .int 0, .long 0, .int 0, .int 0, .int 0])), (mc, .inr (1, [.int 0, .ref (g.2.2 1), .int 0]))]) hD hS hA [0, 1] rfl
    refine q_cv (wr := [(md, .inr (12, [.ref me, .int 0, .int 0])), (me, .inl (g.2.1 5, 17, .inr (.inr (.inr (.inr fe))))), (q_5, .inl (g.2.1 1, 1, .inl (upd (fun _ => 0) 0 n1)))]) (va_runV (As := [.int 68, .ref q_5]) (rest := []) ⟨hx, hb, hml, hown, htg⟩ (c_X11_keep l hfl g m0 mh mg ms md mc mr 68 q_5 (rfl) (rfl) H.size) ⟨(qB htg k1484 k57 k1481 ok_X11_keep rfl rfl ⟨Nat.le_of_ble_eq_true rfl, Nat.le_of_ble_eq_true rfl⟩), htg _ k1483, htg _ k19⟩ ⟨(q_pre [.ref m0, .int 68, .ref q_5] hPc hDc hK hS hT hFc).1, va_recv hK hP (ci := 11) (q0 := 0) rfl rfl, (q_pre [.ref m0, .int 68, .ref q_5] hPc hDc hK hS hT hFc).2⟩ rfl rfl hl.1 rfl (lv_room (Nat.le_of_ble_eq_true rfl)) dX11_tellDie_40 ⟨Nat.le_of_ble_eq_true rfl, Nat.le_of_ble_eq_true rfl⟩) hP hD hS hFc [0, 1] [2, 3, 4] rfl rfl (by decide) (by decide) (fun u9 H locs hw hP hD hS => ?_)
    try dsimp only at hw
    rcases hw with rfl
    have hP : va_P g.1 CLS [(md, .inr (12, [.ref me, .int 0, .int 0])), (me, .inl (g.2.1 5, 17, .inr (.inr (.inr (.inr fe))))), (q_5, .inl (g.2.1 1, 1, .inl (upd (fun _ => 0) 0 n1))), (m0, .inr (11, [.ref mh, .ref mg, .ref ms, .ref md, .ref mc, .ref mr, .int (-1), .int 0, .int 0, .int 0, .long 0, .int 0, .int 0, .int 0]))] H := hP
    have hD : va_D A [(md, .inr (12, [.ref me, .int 0, .int 0])), (me, .inl (g.2.1 5, 17, .inr (.inr (.inr (.inr fe))))), (q_5, .inl (g.2.1 1, 1, .inl (upd (fun _ => 0) 0 n1))), (m0, .inr (11, [.ref mh, .ref mg, .ref ms, .ref md, .ref mc, .ref mr, .int (-1), .int 0, .int 0, .int 0, .long 0, .int 0, .int 0, .int 0]))] := hD
    refine W.widen (k := 4) (n := 17) (Nat.le_of_ble_eq_true rfl) (Nat.le_of_ble_eq_true rfl) ?_
    refine lv_aload_n hx hb dX11_tellDie_43 rfl (lv_at hl 0 rfl) ?_
    refine va_get (D := g.1) (ci := 11) (v := .ref md) (C := RX11) (T := TX11) (N := 14) hx hb htg inG_X11 hown hK hP 3 rfl rfl 3 (by decide) (htg _ k1343) (fun _ h9 => h9) rfl dX11_tellDie_44 ?_
    refine lv_iload_n hx hb dX11_tellDie_47 rfl (lv_at hl 1 rfl) ?_
    have hPc := hP.sub (ws' := []) [] rfl
    have hDc := hD.sub (ws' := []) [] (by decide) rfl
    have hFc := va_free (wc := []) hD hS hA [] rfl
    refine q_cq (wr := [(md, .inr (12, [.ref me, .int 0, .int 0])), (me, .inl (g.2.1 5, 17, .inr (.inr (.inr (.inr fe))))), (q_5, .inl (g.2.1 1, 1, .inl (upd (fun _ => 0) 0 n1))), (m0, .inr (11, [.ref mh, .ref mg, .ref ms, .ref md, .ref mc, .ref mr, .int (-1), .int 0, .int 0, .int 0, .long 0, .int 0, .int 0, .int 0]))]) (va_runS (As := [.int n1]) (rest := [.ref md]) ⟨hx, hb, hml, hown, htg⟩ (c_J6_valueOf l hfl g n1 ((by simp only [okDie]; simp only [inR, Int32.toInt_toInt64, ll0, ll1, ll7, ll99, ll30, ll9, ll40, ll50, ll20, lln20, lln1, fa_lt, fa_le, fa_eq, li0, li1, li97, li99, li103, li109, li115, li120] at c_1 ⊢; omega : okDie n1)) H.size) ⟨(qB htg k1813 k87 k1811 ok_J6_valueOf_2dffe rfl rfl ⟨Nat.le_of_ble_eq_true rfl, Nat.le_of_ble_eq_true rfl⟩), htg _ k1812⟩ (q_pre [.int n1] hPc hDc hK hS hT hFc) rfl rfl hl.1 rfl (lv_room (Nat.le_of_ble_eq_true rfl)) dX11_tellDie_48 ⟨Nat.le_of_ble_eq_true rfl, Nat.le_of_ble_eq_true rfl⟩) hP hD hS hFc [] [0, 1, 2, 3] rfl rfl (by decide) (by decide) (fun r9 u9 H locs hw hP hD hS => ?_)
    try dsimp only at hw
    rcases hw with ⟨v_6, c_7, rfl, rfl⟩
    have hP : va_P g.1 CLS [(md, .inr (12, [.ref me, .int 0, .int 0])), (me, .inl (g.2.1 5, 17, .inr (.inr (.inr (.inr fe))))), (q_5, .inl (g.2.1 1, 1, .inl (upd (fun _ => 0) 0 n1))), (m0, .inr (11, [.ref mh, .ref mg, .ref ms, .ref md, .ref mc, .ref mr, .int (-1), .int 0, .int 0, .int 0, .long 0, .int 0, .int 0, .int 0]))] H := hP
    have hD : va_D A [(md, .inr (12, [.ref me, .int 0, .int 0])), (me, .inl (g.2.1 5, 17, .inr (.inr (.inr (.inr fe))))), (q_5, .inl (g.2.1 1, 1, .inl (upd (fun _ => 0) 0 n1))), (m0, .inr (11, [.ref mh, .ref mg, .ref ms, .ref md, .ref mc, .ref mr, .int (-1), .int 0, .int 0, .int 0, .long 0, .int 0, .int 0, .int 0]))] := hD
    refine W.widen (k := 4) (n := 17) (Nat.le_of_ble_eq_true rfl) (Nat.le_of_ble_eq_true rfl) ?_
    have hPc := hP.sub (ws' := [(md, .inr (12, [.ref me, .int 0, .int 0])), (me, .inl (g.2.1 5, 17, .inr (.inr (.inr (.inr fe)))))]) [0, 1] rfl
    have hDc := hD.sub (ws' := [(md, .inr (12, [.ref me, .int 0, .int 0])), (me, .inl (g.2.1 5, 17, .inr (.inr (.inr (.inr fe)))))]) [0, 1] (by decide) rfl
    have hFc := va_free (wc := [(md, .inr (12, [.ref me, .int 0, .int 0])), (me, .inl (g.2.1 5, 17, .inr (.inr (.inr (.inr fe)))))]) hD hS hA [0, 1] rfl
    refine q_cv (wr := [(q_5, .inl (g.2.1 1, 1, .inl (upd (fun _ => 0) 0 n1))), (m0, .inr (11, [.ref mh, .ref mg, .ref ms, .ref md, .ref mc, .ref mr, .int (-1), .int 0, .int 0, .int 0, .long 0, .int 0, .int 0, .int 0]))]) (va_runV (As := [.ref (g.2.2 (1000 + v_6))]) (rest := []) ⟨hx, hb, hml, hown, htg⟩ (c_X12_addLast l hfl g md me fe v_6 (c_7) H.size) ⟨(qB htg k1834 k61 k1831 ok_X12_addLast rfl rfl ⟨Nat.le_of_ble_eq_true rfl, Nat.le_of_ble_eq_true rfl⟩), htg _ k1832, htg _ k1833⟩ ⟨(q_pre [.ref md, .ref (g.2.2 (1000 + v_6))] hPc hDc hK hS hT hFc).1, va_recv hK hP (ci := 12) (q0 := 0) rfl rfl, (q_pre [.ref md, .ref (g.2.2 (1000 + v_6))] hPc hDc hK hS hT hFc).2⟩ rfl rfl hl.1 rfl (lv_room (Nat.le_of_ble_eq_true rfl)) dX11_tellDie_51 ⟨Nat.le_of_ble_eq_true rfl, Nat.le_of_ble_eq_true rfl⟩) hP hD hS hFc [0, 1] [2, 3] rfl rfl (by decide) (by decide) (fun u9 H locs hw hP hD hS => ?_)
    try dsimp only at hw
    rcases hw with ⟨f_8, rfl⟩
    have hP : va_P g.1 CLS [(q_5, .inl (g.2.1 1, 1, .inl (upd (fun _ => 0) 0 n1))), (m0, .inr (11, [.ref mh, .ref mg, .ref ms, .ref md, .ref mc, .ref mr, .int (-1), .int 0, .int 0, .int 0, .long 0, .int 0, .int 0, .int 0])), (md, .inr (12, [.ref me, .int 0, .int 1])), (me, .inl (g.2.1 5, 17, .inr (.inr (.inr (.inr f_8)))))] H := hP
    have hD : va_D A [(q_5, .inl (g.2.1 1, 1, .inl (upd (fun _ => 0) 0 n1))), (m0, .inr (11, [.ref mh, .ref mg, .ref ms, .ref md, .ref mc, .ref mr, .int (-1), .int 0, .int 0, .int 0, .long 0, .int 0, .int 0, .int 0])), (md, .inr (12, [.ref me, .int 0, .int 1])), (me, .inl (g.2.1 5, 17, .inr (.inr (.inr (.inr f_8)))))] := hD
    refine W.widen (k := 4) (n := 17) (Nat.le_of_ble_eq_true rfl) (Nat.le_of_ble_eq_true rfl) ?_
    refine lv_aload_n hx hb dX11_tellDie_54 rfl (lv_at hl 0 rfl) ?_
    refine va_get (D := g.1) (ci := 11) (v := .ref md) (C := RX11) (T := TX11) (N := 14) hx hb htg inG_X11 hown hK hP 1 rfl rfl 3 (by decide) (htg _ k1343) (fun _ h9 => h9) rfl dX11_tellDie_55 ?_
    have hPc := hP.sub (ws' := [(md, .inr (12, [.ref me, .int 0, .int 1])), (me, .inl (g.2.1 5, 17, .inr (.inr (.inr (.inr f_8)))))]) [2, 3] rfl
    have hDc := hD.sub (ws' := [(md, .inr (12, [.ref me, .int 0, .int 1])), (me, .inl (g.2.1 5, 17, .inr (.inr (.inr (.inr f_8)))))]) [2, 3] (by decide) rfl
    have hFc := va_free (wc := [(md, .inr (12, [.ref me, .int 0, .int 1])), (me, .inl (g.2.1 5, 17, .inr (.inr (.inr (.inr f_8)))))]) hD hS hA [2, 3] rfl
    refine q_ci (wr := [(q_5, .inl (g.2.1 1, 1, .inl (upd (fun _ => 0) 0 n1))), (m0, .inr (11, [.ref mh, .ref mg, .ref ms, .ref md, .ref mc, .ref mr, .int (-1), .int 0, .int 0, .int 0, .long 0, .int 0, .int 0, .int 0]))]) (va_runV (As := []) (rest := []) ⟨hx, hb, hml, hown, htg⟩ (c_X12_size1 l hfl g md me f_8  H.size) ⟨(qB htg k1856 k61 k1853 ok_X12_size rfl rfl ⟨Nat.le_of_ble_eq_true rfl, Nat.le_of_ble_eq_true rfl⟩), htg _ k1854, htg _ k1855⟩ ⟨(q_pre [.ref md] hPc hDc hK hS hT hFc).1, va_recv hK hP (ci := 12) (q0 := 2) rfl rfl, (q_pre [.ref md] hPc hDc hK hS hT hFc).2⟩ rfl rfl hl.1 rfl (lv_room (Nat.le_of_ble_eq_true rfl)) dX11_tellDie_58 ⟨Nat.le_of_ble_eq_true rfl, Nat.le_of_ble_eq_true rfl⟩) hP hD hS hFc [2, 3] [0, 1] rfl rfl (by decide) (by decide) (fun r9 u9 H locs hw hP hD hS => ?_)
    try dsimp only at hw
    rcases hw with ⟨rfl, rfl⟩
    have hP : va_P g.1 CLS [(q_5, .inl (g.2.1 1, 1, .inl (upd (fun _ => 0) 0 n1))), (m0, .inr (11, [.ref mh, .ref mg, .ref ms, .ref md, .ref mc, .ref mr, .int (-1), .int 0, .int 0, .int 0, .long 0, .int 0, .int 0, .int 0])), (md, .inr (12, [.ref me, .int 0, .int 1]))] H := hP
    have hD : va_D A [(q_5, .inl (g.2.1 1, 1, .inl (upd (fun _ => 0) 0 n1))), (m0, .inr (11, [.ref mh, .ref mg, .ref ms, .ref md, .ref mc, .ref mr, .int (-1), .int 0, .int 0, .int 0, .long 0, .int 0, .int 0, .int 0])), (md, .inr (12, [.ref me, .int 0, .int 1]))] := hD
    refine W.widen (k := 4) (n := 17) (Nat.le_of_ble_eq_true rfl) (Nat.le_of_ble_eq_true rfl) ?_
    have hP9 := hP.sub (ws' := [(m0, .inr (11, [.ref mh, .ref mg, .ref ms, .ref md, .ref mc, .ref mr, .int (-1), .int 0, .int 0, .int 0, .long 0, .int 0, .int 0, .int 0]))]) [1] rfl
    have hD9 := hD.sub (ws' := [(m0, .inr (11, [.ref mh, .ref mg, .ref ms, .ref md, .ref mc, .ref mr, .int (-1), .int 0, .int 0, .int 0, .long 0, .int 0, .int 0, .int 0]))]) [1] (by decide) rfl
    refine W.widen (k := 20) (n := 100) (Nat.le_of_ble_eq_true rfl) (Nat.le_of_ble_eq_true rfl) ?_
    exact W.iret (v := 1) hx hb hr (fun t ht hW => ⟨⟨1, [(m0, .inr (11, [.ref mh, .ref mg, .ref ms, .ref md, .ref mc, .ref mr, .int (-1), .int 0, .int 0, .int 0, .long 0, .int 0, .int 0, .int 0]))], rfl, Or.inl ⟨(by simp only [okDie]; simp only [inR, Int32.toInt_toInt64, ll0, ll1, ll7, ll99, ll30, ll9, ll40, ll50, ll20, lln20, lln1, fa_lt, fa_le, fa_eq, li0, li1, li97, li99, li103, li109, li115, li120] at c_1 ⊢; omega : okDie n1), rfl, rfl⟩, by rw [ht]; exact hP9, va_K.moved hW.alike hK, hD9⟩, hS.F ht⟩) hS.2.2 dX11_tellDie_61
  · have hP : va_P g.1 CLS [(m0, .inr (11, [.ref mh, .ref mg, .ref ms, .ref md, .ref mc, .ref mr, .int (-1), .int 0, .int 0, .int 0, .long 0, .int 0, .int 0, .int 0])), (mc, .inr (1, [.int 0, .ref (g.2.2 1), .int 0])), (md, .inr (12, [.ref me, .int 0, .int 0])), (me, .inl (g.2.1 5, 17, .inr (.inr (.inr (.inr fe)))))] H := hP
    have hD : va_D A [(m0, .inr (11, [.ref mh, .ref mg, .ref ms, .ref md, .ref mc, .ref mr, .int (-1), .int 0, .int 0, .int 0, .long 0, .int 0, .int 0, .int 0])), (mc, .inr (1, [.int 0, .ref (g.2.2 1), .int 0])), (md, .inr (12, [.ref me, .int 0, .int 0])), (me, .inl (g.2.1 5, 17, .inr (.inr (.inr (.inr fe)))))] := hD
    refine W.widen (k := 0) (n := 0) (Nat.le_of_ble_eq_true rfl) (Nat.le_of_ble_eq_true rfl) ?_
    refine lv_if_eq (tgt := 17) hx hb dX11_tellDie_10 (by decide) (fun c_9 => ?_) (fun c_9 => absurd (by decide) c_9)
    refine lv_iconst (v := 1) hx hb dX11_tellDie_17 (by decide) ?_
    refine va_put (D := g.1) (ci := 11) (v := .int 1) (ty := .int) (C := RX11) (T := TX11) (N := 14) hx hb htg inG_X11 tyX11 tyX11_ok nmX11 hown hK hP hD hS 0 rfl rfl 13 (by decide) (htg _ k1353) (fun _ h9 => h9) rfl (by decide +kernel) rfl rfl (Nat.le_of_ble_eq_true rfl) dX11_tellDie_18 (fun H locs hP hD hS => ?_)
    have hP : va_P g.1 CLS [(m0, .inr (11, [.ref mh, .ref mg, .ref ms, .ref md, .ref mc, .ref mr, .int (-1), .int 0, .int 0, .int 0, .long 0, .int 0, .int 0, .int 1])), (mc, .inr (1, [.int 0, .ref (g.2.2 1), .int 0])), (md, .inr (12, [.ref me, .int 0, .int 0])), (me, .inl (g.2.1 5, 17, .inr (.inr (.inr (.inr fe)))))] H := hP
    have hD : va_D A [(m0, .inr (11, [.ref mh, .ref mg, .ref ms, .ref md, .ref mc, .ref mr, .int (-1), .int 0, .int 0, .int 0, .long 0, .int 0, .int 0, .int 1])), (mc, .inr (1, [.int 0, .ref (g.2.2 1), .int 0])), (md, .inr (12, [.ref me, .int 0, .int 0])), (me, .inl (g.2.1 5, 17, .inr (.inr (.inr (.inr fe)))))] := hD
    refine lv_aload_n hx hb dX11_tellDie_21 rfl (lv_at hl 0 rfl) ?_
    refine va_get (D := g.1) (ci := 11) (v := .int 1) (C := RX11) (T := TX11) (N := 14) hx hb htg inG_X11 hown hK hP 0 rfl rfl 13 (by decide) (htg _ k1353) (fun _ h9 => h9) rfl dX11_tellDie_22 ?_
    refine lv_if_le (tgt := 30) hx hb dX11_tellDie_25 (by decide) (fun c_10 => absurd c_10 (by decide)) (fun c_10 => ?_)
    refine lv_iconst (v := (-1)) hx hb dX11_tellDie_28 (by decide) ?_
    have hP9 := hP.sub (ws' := [(m0, .inr (11, [.ref mh, .ref mg, .ref ms, .ref md, .ref mc, .ref mr, .int (-1), .int 0, .int 0, .int 0, .long 0, .int 0, .int 0, .int 1]))]) [0] rfl
    have hD9 := hD.sub (ws' := [(m0, .inr (11, [.ref mh, .ref mg, .ref ms, .ref md, .ref mc, .ref mr, .int (-1), .int 0, .int 0, .int 0, .long 0, .int 0, .int 0, .int 1]))]) [0] (by decide) rfl
    refine W.widen (k := 20) (n := 100) (Nat.le_of_ble_eq_true rfl) (Nat.le_of_ble_eq_true rfl) ?_
    exact W.iret (v := (-1)) hx hb hr (fun t ht hW => ⟨⟨(-1), [(m0, .inr (11, [.ref mh, .ref mg, .ref ms, .ref md, .ref mc, .ref mr, .int (-1), .int 0, .int 0, .int 0, .long 0, .int 0, .int 0, .int 1]))], rfl, Or.inr (⟨by simp only [okDie]; simp only [inR, Int32.toInt_toInt64, ll0, ll1, ll7, ll99, ll30, ll9, ll40, ll50, ll20, lln20, lln1, fa_lt, fa_le, fa_eq, li0, li1, li97, li99, li103, li109, li115, li120] at c_2 ⊢; omega, rfl, rfl⟩), by rw [ht]; exact hP9, va_K.moved hW.alike hK, hD9⟩, hS.F ht⟩) hS.2.2 dX11_tellDie_29

set_option maxHeartbeats 4000000 in
set_option maxRecDepth 100000 in
theorem c_m_begin (l : Launch) (hfl : l.stackTraces = false) (g : GP) (m0 : Nat) (mh : Nat) (mg : Nat) (ms : Nat) (md : Nat) (mc : Nat) (mr : Nat)  : CI l yX11_begin (wG yX11_begin cX11_begin 4 (Option.some Jvm.ClassFile.FieldType.int)) (LV 4 20 100) g [.ref m0] ([(m0, .inr (11, [.ref mh, .ref mg, .ref ms, .ref md, .ref mc, .ref mr, .int (-1), .int 0, .int 0, .int 0, .long 0, .int 0, .int 0, .int 0])), (mh, .inr (1, [.int 0, .ref (g.2.2 1), .int 0]))]) (fun (r : Int32) (u : va_W) => r = (-1) ∧ u = [(m0, .inr (11, [.ref mh, .ref mg, .ref ms, .ref md, .ref mc, .ref mr, .int (-1), .int 0, .int 0, .int 0, .long 0, .int 0, .int 0, .int 1]))]) := by
  intro sz
  refine Met.ofW (cc := cX11_begin) (maxL := 4) (ret := (Option.some Jvm.ClassFile.FieldType.int)) (by decide) rfl ?_
  intro p e s m args below meth c s₁ B hml hv
  obtain ⟨rfl, hsz, hP, hK, hD0, hT0⟩ := hv
  have hx := B.exec
  have hb := B.bytes
  have hr := B.returns
  have hts := atoms_spec (ws := (wG yX11_begin cX11_begin 4 (Option.some Jvm.ClassFile.FieldType.int))) B.pre
  have htg : ∀ w ∈ G9, w.before _ s = true := fun w h => hts w (List.mem_cons_of_mem _ h)
  have hown : s.vm.findClass "HeroTableModel" = some m.cls := findClass_of_methodNamed B.named
  have hlocks := B.notSynchronized
  subst hsz
  have hD := hD0.self (sz := s.heap.size)
  have hT := hT0
  clear hT0
  generalize hAe : va_A [(m0, .inr (11, [.ref mh, .ref mg, .ref ms, .ref md, .ref mc, .ref mr, .int (-1), .int 0, .int 0, .int 0, .long 0, .int 0, .int 0, .int 0])), (mh, .inr (1, [.int 0, .ref (g.2.2 1), .int 0]))] s.heap.size = A at hD hT ⊢
  have hA : ∀ q : Nat, s.heap.size ≤ q → A q := fun q h => by rw [← hAe]; exact Or.inr h
  obtain ⟨H, hH0⟩ : ∃ H, H = s.heap := ⟨_, rfl⟩
  have hS : va_S A s.heap H [] := by rw [hH0]; exact va_S.rf
  have hP : va_P g.1 CLS [(m0, .inr (11, [.ref mh, .ref mg, .ref ms, .ref md, .ref mc, .ref mr, .int (-1), .int 0, .int 0, .int 0, .long 0, .int 0, .int 0, .int 0])), (mh, .inr (1, [.int 0, .ref (g.2.2 1), .int 0]))] H := by rw [hH0]; exact hP
  rw [← hH0]
  have hl := lv_entry ([.ref m0]) (n := 4) (Nat.le_of_ble_eq_true rfl)
  rw [lg_entry_eq]
  generalize (lg_sl ([.ref m0]) ++ List.replicate (4 - (lg_sl ([.ref m0])).length) Slot.unset).toArray = ls at hl ⊢
  have hl : lv_has ls 4 [(0, .ref m0)] := hl
  refine lv_aload_n hx hb dX11_begin_0 rfl (lv_at hl 0 rfl) ?_
  refine lv_aload_n hx hb dX11_begin_1 rfl (lv_at hl 0 rfl) ?_
  refine va_get (D := g.1) (ci := 11) (v := .ref mh) (C := RX11) (T := TX11) (N := 14) hx hb htg inG_X11 hown hK hP 0 rfl rfl 0 (by decide) (htg _ k1340) (fun _ h9 => h9) rfl dX11_begin_2 ?_
  have hPc := hP.sub (ws' := [(mh, .inr (1, [.int 0, .ref (g.2.2 1), .int 0]))]) [1] rfl
  have hDc := hD.sub (ws' := [(mh, .inr (1, [.int 0, .ref (g.2.2 1), .int 0]))]) [1] (by decide) rfl
  have hFc := va_free (wc := [(mh, .inr (1, [.int 0, .ref (g.2.2 1), .int 0]))]) hD hS hA [1] rfl
  refine q_cFi (wr := [(m0, .inr (11, [.ref mh, .ref mg, .ref ms, .ref md, .ref mc, .ref mr, .int (-1), .int 0, .int 0, .int 0, .long 0, .int 0, .int 0, .int 0]))]) (va_runF (As := []) (rest := [.ref m0]) (hK.1 1 _ rfl).2 ⟨hx, hb, hml, hown, htg⟩ (c_L_isEmpty l hfl g mh  H.size) (qI5 htg k1876 k60 k1869 k1872 k1874 (hT.1.2.2.1.2.1) okx_isEmpty rfl rfl ⟨Nat.le_of_ble_eq_true rfl, Nat.le_of_ble_eq_true rfl⟩) ⟨(q_pre [.ref mh] hPc hDc hK hS hT hFc).1, va_recv hK hP (ci := 1) (q0 := 1) rfl rfl, (q_pre [.ref mh] hPc hDc hK hS hT hFc).2⟩ rfl rfl hl.1 rfl (lv_room (Nat.le_of_ble_eq_true rfl)) dX11_begin_5 ⟨Nat.le_of_ble_eq_true rfl, Nat.le_of_ble_eq_true rfl⟩) hP hD hS hFc [1] [0] rfl rfl (by decide) (by decide) (fun r9 u9 H locs hw hP hD hS => ?_)
  try dsimp only at hw
  rcases hw with ⟨rfl, rfl⟩
  have hP : va_P g.1 CLS [(m0, .inr (11, [.ref mh, .ref mg, .ref ms, .ref md, .ref mc, .ref mr, .int (-1), .int 0, .int 0, .int 0, .long 0, .int 0, .int 0, .int 0])), (mh, .inr (1, [.int 0, .ref (g.2.2 1), .int 0]))] H := hP
  have hD : va_D A [(m0, .inr (11, [.ref mh, .ref mg, .ref ms, .ref md, .ref mc, .ref mr, .int (-1), .int 0, .int 0, .int 0, .long 0, .int 0, .int 0, .int 0])), (mh, .inr (1, [.int 0, .ref (g.2.2 1), .int 0]))] := hD
  refine W.widen (k := 0) (n := 0) (Nat.le_of_ble_eq_true rfl) (Nat.le_of_ble_eq_true rfl) ?_
  refine lv_if_eq (tgt := 17) hx hb dX11_begin_10 (by decide) (fun c_1 => absurd c_1 (by decide)) (fun c_1 => ?_)
  refine lv_iconst (v := 1) hx hb dX11_begin_13 (by decide) ?_
  refine lv_goto (tgt := 29) hx hb dX11_begin_14 (by decide) ?_
  refine va_put (D := g.1) (ci := 11) (v := .int 1) (ty := .int) (C := RX11) (T := TX11) (N := 14) hx hb htg inG_X11 tyX11 tyX11_ok nmX11 hown hK hP hD hS 0 rfl rfl 13 (by decide) (htg _ k1353) (fun _ h9 => h9) rfl (by decide +kernel) rfl rfl (Nat.le_of_ble_eq_true rfl) dX11_begin_29 (fun H locs hP hD hS => ?_)
  have hP : va_P g.1 CLS [(m0, .inr (11, [.ref mh, .ref mg, .ref ms, .ref md, .ref mc, .ref mr, .int (-1), .int 0, .int 0, .int 0, .long 0, .int 0, .int 0, .int 1])), (mh, .inr (1, [.int 0, .ref (g.2.2 1), .int 0]))] H := hP
  have hD : va_D A [(m0, .inr (11, [.ref mh, .ref mg, .ref ms, .ref md, .ref mc, .ref mr, .int (-1), .int 0, .int 0, .int 0, .long 0, .int 0, .int 0, .int 1])), (mh, .inr (1, [.int 0, .ref (g.2.2 1), .int 0]))] := hD
  refine lv_aload_n hx hb dX11_begin_32 rfl (lv_at hl 0 rfl) ?_
  refine va_get (D := g.1) (ci := 11) (v := .int 1) (C := RX11) (T := TX11) (N := 14) hx hb htg inG_X11 hown hK hP 0 rfl rfl 13 (by decide) (htg _ k1353) (fun _ h9 => h9) rfl dX11_begin_33 ?_
  refine lv_if_le (tgt := 41) hx hb dX11_begin_36 (by decide) (fun c_2 => absurd c_2 (by decide)) (fun c_2 => ?_)
  refine lv_iconst (v := (-1)) hx hb dX11_begin_39 (by decide) ?_
  have hP9 := hP.sub (ws' := [(m0, .inr (11, [.ref mh, .ref mg, .ref ms, .ref md, .ref mc, .ref mr, .int (-1), .int 0, .int 0, .int 0, .long 0, .int 0, .int 0, .int 1]))]) [0] rfl
  have hD9 := hD.sub (ws' := [(m0, .inr (11, [.ref mh, .ref mg, .ref ms, .ref md, .ref mc, .ref mr, .int (-1), .int 0, .int 0, .int 0, .long 0, .int 0, .int 0, .int 1]))]) [0] (by decide) rfl
  refine W.widen (k := 20) (n := 100) (Nat.le_of_ble_eq_true rfl) (Nat.le_of_ble_eq_true rfl) ?_
  exact W.iret (v := (-1)) hx hb hr (fun t ht hW => ⟨⟨(-1), [(m0, .inr (11, [.ref mh, .ref mg, .ref ms, .ref md, .ref mc, .ref mr, .int (-1), .int 0, .int 0, .int 0, .long 0, .int 0, .int 0, .int 1]))], rfl, ⟨rfl, rfl⟩, by rw [ht]; exact hP9, va_K.moved hW.alike hK, hD9⟩, hS.F ht⟩) hS.2.2 dX11_begin_40

set_option maxHeartbeats 4000000 in
set_option maxRecDepth 100000 in
theorem c_m_endTurn (l : Launch) (hfl : l.stackTraces = false) (g : GP) (m0 : Nat) (mh : Nat) (mg : Nat) (ms : Nat) (md : Nat) (mc : Nat) (mr : Nat)  : CI l yX11_endTurn (wG yX11_endTurn cX11_endTurn 5 (Option.some Jvm.ClassFile.FieldType.int)) (LV 3 20 100) g [.ref m0] ([(m0, .inr (11, [.ref mh, .ref mg, .ref ms, .ref md, .ref mc, .ref mr, .int (-1), .int 0, .int 0, .int 0, .long 0, .int 0, .int 0, .int 0]))]) (fun (r : Int32) (u : va_W) => r = (-1) ∧ u = [(m0, .inr (11, [.ref mh, .ref mg, .ref ms, .ref md, .ref mc, .ref mr, .int (-1), .int 0, .int 0, .int 0, .long 0, .int 0, .int 0, .int 1]))]) := by
  intro sz
  refine Met.ofW (cc := cX11_endTurn) (maxL := 5) (ret := (Option.some Jvm.ClassFile.FieldType.int)) (by decide) rfl ?_
  intro p e s m args below meth c s₁ B hml hv
  obtain ⟨rfl, hsz, hP, hK, hD0, hT0⟩ := hv
  have hx := B.exec
  have hb := B.bytes
  have hr := B.returns
  have hts := atoms_spec (ws := (wG yX11_endTurn cX11_endTurn 5 (Option.some Jvm.ClassFile.FieldType.int))) B.pre
  have htg : ∀ w ∈ G9, w.before _ s = true := fun w h => hts w (List.mem_cons_of_mem _ h)
  have hown : s.vm.findClass "HeroTableModel" = some m.cls := findClass_of_methodNamed B.named
  have hlocks := B.notSynchronized
  subst hsz
  have hD := hD0.self (sz := s.heap.size)
  have hT := hT0
  clear hT0
  generalize hAe : va_A [(m0, .inr (11, [.ref mh, .ref mg, .ref ms, .ref md, .ref mc, .ref mr, .int (-1), .int 0, .int 0, .int 0, .long 0, .int 0, .int 0, .int 0]))] s.heap.size = A at hD hT ⊢
  have hA : ∀ q : Nat, s.heap.size ≤ q → A q := fun q h => by rw [← hAe]; exact Or.inr h
  obtain ⟨H, hH0⟩ : ∃ H, H = s.heap := ⟨_, rfl⟩
  have hS : va_S A s.heap H [] := by rw [hH0]; exact va_S.rf
  have hP : va_P g.1 CLS [(m0, .inr (11, [.ref mh, .ref mg, .ref ms, .ref md, .ref mc, .ref mr, .int (-1), .int 0, .int 0, .int 0, .long 0, .int 0, .int 0, .int 0]))] H := by rw [hH0]; exact hP
  rw [← hH0]
  have hl := lv_entry ([.ref m0]) (n := 5) (Nat.le_of_ble_eq_true rfl)
  rw [lg_entry_eq]
  generalize (lg_sl ([.ref m0]) ++ List.replicate (5 - (lg_sl ([.ref m0])).length) Slot.unset).toArray = ls at hl ⊢
  have hl : lv_has ls 5 [(0, .ref m0)] := hl
  refine lv_aload_n hx hb dX11_endTurn_0 rfl (lv_at hl 0 rfl) ?_
  refine lv_aload_n hx hb dX11_endTurn_1 rfl (lv_at hl 0 rfl) ?_
  have hPc := hP.sub (ws' := [(m0, .inr (11, [.ref mh, .ref mg, .ref ms, .ref md, .ref mc, .ref mr, .int (-1), .int 0, .int 0, .int 0, .long 0, .int 0, .int 0, .int 0]))]) [0] rfl
  have hDc := hD.sub (ws' := [(m0, .inr (11, [.ref mh, .ref mg, .ref ms, .ref md, .ref mc, .ref mr, .int (-1), .int 0, .int 0, .int 0, .long 0, .int 0, .int 0, .int 0]))]) [0] (by decide) rfl
  have hFc := va_free (wc := [(m0, .inr (11, [.ref mh, .ref mg, .ref ms, .ref md, .ref mc, .ref mr, .int (-1), .int 0, .int 0, .int 0, .long 0, .int 0, .int 0, .int 0]))]) hD hS hA [0] rfl
  refine q_ci (wr := []) (va_runV (As := []) (rest := [.ref m0]) ⟨hx, hb, hml, hown, htg⟩ (c_X11_isOn l hfl g m0 mh mg ms md mc mr  H.size) ⟨(qB htg k1413 k57 k1410 ok_X11_isOn rfl rfl ⟨Nat.le_of_ble_eq_true rfl, Nat.le_of_ble_eq_true rfl⟩), htg _ k1412, htg _ k17⟩ ⟨(q_pre [.ref m0] hPc hDc hK hS hT hFc).1, va_recv hK hP (ci := 11) (q0 := 0) rfl rfl, (q_pre [.ref m0] hPc hDc hK hS hT hFc).2⟩ rfl rfl hl.1 rfl (lv_room (Nat.le_of_ble_eq_true rfl)) dX11_endTurn_2 ⟨Nat.le_of_ble_eq_true rfl, Nat.le_of_ble_eq_true rfl⟩) hP hD hS hFc [0] [] rfl rfl (by decide) (by decide) (fun r9 u9 H locs hw hP hD hS => ?_)
  try dsimp only at hw
  rcases hw with ⟨rfl, rfl⟩
  have hP : va_P g.1 CLS [(m0, .inr (11, [.ref mh, .ref mg, .ref ms, .ref md, .ref mc, .ref mr, .int (-1), .int 0, .int 0, .int 0, .long 0, .int 0, .int 0, .int 0]))] H := hP
  have hD : va_D A [(m0, .inr (11, [.ref mh, .ref mg, .ref ms, .ref md, .ref mc, .ref mr, .int (-1), .int 0, .int 0, .int 0, .long 0, .int 0, .int 0, .int 0]))] := hD
  refine W.widen (k := 0) (n := 0) (Nat.le_of_ble_eq_true rfl) (Nat.le_of_ble_eq_true rfl) ?_
  refine lv_if_eq (tgt := 12) hx hb dX11_endTurn_5 (by decide) (fun c_1 => ?_) (fun c_1 => absurd (by decide) c_1)
  refine lv_iconst (v := 1) hx hb dX11_endTurn_12 (by decide) ?_
  refine va_put (D := g.1) (ci := 11) (v := .int 1) (ty := .int) (C := RX11) (T := TX11) (N := 14) hx hb htg inG_X11 tyX11 tyX11_ok nmX11 hown hK hP hD hS 0 rfl rfl 13 (by decide) (htg _ k1353) (fun _ h9 => h9) rfl (by decide +kernel) rfl rfl (Nat.le_of_ble_eq_true rfl) dX11_endTurn_13 (fun H locs hP hD hS => ?_)
  have hP : va_P g.1 CLS [(m0, .inr (11, [.ref mh, .ref mg, .ref ms, .ref md, .ref mc, .ref mr, .int (-1), .int 0, .int 0, .int 0, .long 0, .int 0, .int 0, .int 1]))] H := hP
  have hD : va_D A [(m0, .inr (11, [.ref mh, .ref mg, .ref ms, .ref md, .ref mc, .ref mr, .int (-1), .int 0, .int 0, .int 0, .long 0, .int 0, .int 0, .int 1]))] := hD
  refine lv_aload_n hx hb dX11_endTurn_16 rfl (lv_at hl 0 rfl) ?_
  refine va_get (D := g.1) (ci := 11) (v := .int 1) (C := RX11) (T := TX11) (N := 14) hx hb htg inG_X11 hown hK hP 0 rfl rfl 13 (by decide) (htg _ k1353) (fun _ h9 => h9) rfl dX11_endTurn_17 ?_
  refine lv_if_le (tgt := 25) hx hb dX11_endTurn_20 (by decide) (fun c_2 => absurd c_2 (by decide)) (fun c_2 => ?_)
  refine lv_iconst (v := (-1)) hx hb dX11_endTurn_23 (by decide) ?_
  have hP9 := hP.sub (ws' := [(m0, .inr (11, [.ref mh, .ref mg, .ref ms, .ref md, .ref mc, .ref mr, .int (-1), .int 0, .int 0, .int 0, .long 0, .int 0, .int 0, .int 1]))]) [0] rfl
  have hD9 := hD.sub (ws' := [(m0, .inr (11, [.ref mh, .ref mg, .ref ms, .ref md, .ref mc, .ref mr, .int (-1), .int 0, .int 0, .int 0, .long 0, .int 0, .int 0, .int 1]))]) [0] (by decide) rfl
  refine W.widen (k := 20) (n := 100) (Nat.le_of_ble_eq_true rfl) (Nat.le_of_ble_eq_true rfl) ?_
  exact W.iret (v := (-1)) hx hb hr (fun t ht hW => ⟨⟨(-1), [(m0, .inr (11, [.ref mh, .ref mg, .ref ms, .ref md, .ref mc, .ref mr, .int (-1), .int 0, .int 0, .int 0, .long 0, .int 0, .int 0, .int 1]))], rfl, ⟨rfl, rfl⟩, by rw [ht]; exact hP9, va_K.moved hW.alike hK, hD9⟩, hS.F ht⟩) hS.2.2 dX11_endTurn_24

set_option maxHeartbeats 4000000 in
set_option maxRecDepth 100000 in
theorem c_m_rest (l : Launch) (hfl : l.stackTraces = false) (g : GP) (m0 : Nat) (mh : Nat) (mg : Nat) (ms : Nat) (md : Nat) (mc : Nat) (mr : Nat)  : CI l yX11_rest (wG yX11_rest cX11_rest 4 (Option.some Jvm.ClassFile.FieldType.int)) (LV 3 20 100) g [.ref m0] ([(m0, .inr (11, [.ref mh, .ref mg, .ref ms, .ref md, .ref mc, .ref mr, .int (-1), .int 0, .int 0, .int 0, .long 0, .int 0, .int 0, .int 0]))]) (fun (r : Int32) (u : va_W) => r = (-1) ∧ u = [(m0, .inr (11, [.ref mh, .ref mg, .ref ms, .ref md, .ref mc, .ref mr, .int (-1), .int 0, .int 0, .int 0, .long 0, .int 0, .int 0, .int 1]))]) := by
  intro sz
  refine Met.ofW (cc := cX11_rest) (maxL := 4) (ret := (Option.some Jvm.ClassFile.FieldType.int)) (by decide) rfl ?_
  intro p e s m args below meth c s₁ B hml hv
  obtain ⟨rfl, hsz, hP, hK, hD0, hT0⟩ := hv
  have hx := B.exec
  have hb := B.bytes
  have hr := B.returns
  have hts := atoms_spec (ws := (wG yX11_rest cX11_rest 4 (Option.some Jvm.ClassFile.FieldType.int))) B.pre
  have htg : ∀ w ∈ G9, w.before _ s = true := fun w h => hts w (List.mem_cons_of_mem _ h)
  have hown : s.vm.findClass "HeroTableModel" = some m.cls := findClass_of_methodNamed B.named
  have hlocks := B.notSynchronized
  subst hsz
  have hD := hD0.self (sz := s.heap.size)
  have hT := hT0
  clear hT0
  generalize hAe : va_A [(m0, .inr (11, [.ref mh, .ref mg, .ref ms, .ref md, .ref mc, .ref mr, .int (-1), .int 0, .int 0, .int 0, .long 0, .int 0, .int 0, .int 0]))] s.heap.size = A at hD hT ⊢
  have hA : ∀ q : Nat, s.heap.size ≤ q → A q := fun q h => by rw [← hAe]; exact Or.inr h
  obtain ⟨H, hH0⟩ : ∃ H, H = s.heap := ⟨_, rfl⟩
  have hS : va_S A s.heap H [] := by rw [hH0]; exact va_S.rf
  have hP : va_P g.1 CLS [(m0, .inr (11, [.ref mh, .ref mg, .ref ms, .ref md, .ref mc, .ref mr, .int (-1), .int 0, .int 0, .int 0, .long 0, .int 0, .int 0, .int 0]))] H := by rw [hH0]; exact hP
  rw [← hH0]
  have hl := lv_entry ([.ref m0]) (n := 4) (Nat.le_of_ble_eq_true rfl)
  rw [lg_entry_eq]
  generalize (lg_sl ([.ref m0]) ++ List.replicate (4 - (lg_sl ([.ref m0])).length) Slot.unset).toArray = ls at hl ⊢
  have hl : lv_has ls 4 [(0, .ref m0)] := hl
  refine lv_aload_n hx hb dX11_rest_0 rfl (lv_at hl 0 rfl) ?_
  refine lv_aload_n hx hb dX11_rest_1 rfl (lv_at hl 0 rfl) ?_
  have hPc := hP.sub (ws' := [(m0, .inr (11, [.ref mh, .ref mg, .ref ms, .ref md, .ref mc, .ref mr, .int (-1), .int 0, .int 0, .int 0, .long 0, .int 0, .int 0, .int 0]))]) [0] rfl
  have hDc := hD.sub (ws' := [(m0, .inr (11, [.ref mh, .ref mg, .ref ms, .ref md, .ref mc, .ref mr, .int (-1), .int 0, .int 0, .int 0, .long 0, .int 0, .int 0, .int 0]))]) [0] (by decide) rfl
  have hFc := va_free (wc := [(m0, .inr (11, [.ref mh, .ref mg, .ref ms, .ref md, .ref mc, .ref mr, .int (-1), .int 0, .int 0, .int 0, .long 0, .int 0, .int 0, .int 0]))]) hD hS hA [0] rfl
  refine q_ci (wr := []) (va_runV (As := []) (rest := [.ref m0]) ⟨hx, hb, hml, hown, htg⟩ (c_X11_isOn l hfl g m0 mh mg ms md mc mr  H.size) ⟨(qB htg k1413 k57 k1410 ok_X11_isOn rfl rfl ⟨Nat.le_of_ble_eq_true rfl, Nat.le_of_ble_eq_true rfl⟩), htg _ k1412, htg _ k17⟩ ⟨(q_pre [.ref m0] hPc hDc hK hS hT hFc).1, va_recv hK hP (ci := 11) (q0 := 0) rfl rfl, (q_pre [.ref m0] hPc hDc hK hS hT hFc).2⟩ rfl rfl hl.1 rfl (lv_room (Nat.le_of_ble_eq_true rfl)) dX11_rest_2 ⟨Nat.le_of_ble_eq_true rfl, Nat.le_of_ble_eq_true rfl⟩) hP hD hS hFc [0] [] rfl rfl (by decide) (by decide) (fun r9 u9 H locs hw hP hD hS => ?_)
  try dsimp only at hw
  rcases hw with ⟨rfl, rfl⟩
  have hP : va_P g.1 CLS [(m0, .inr (11, [.ref mh, .ref mg, .ref ms, .ref md, .ref mc, .ref mr, .int (-1), .int 0, .int 0, .int 0, .long 0, .int 0, .int 0, .int 0]))] H := hP
  have hD : va_D A [(m0, .inr (11, [.ref mh, .ref mg, .ref ms, .ref md, .ref mc, .ref mr, .int (-1), .int 0, .int 0, .int 0, .long 0, .int 0, .int 0, .int 0]))] := hD
  refine W.widen (k := 0) (n := 0) (Nat.le_of_ble_eq_true rfl) (Nat.le_of_ble_eq_true rfl) ?_
  refine lv_if_eq (tgt := 12) hx hb dX11_rest_5 (by decide) (fun c_1 => ?_) (fun c_1 => absurd (by decide) c_1)
  refine lv_iconst (v := 1) hx hb dX11_rest_12 (by decide) ?_
  refine va_put (D := g.1) (ci := 11) (v := .int 1) (ty := .int) (C := RX11) (T := TX11) (N := 14) hx hb htg inG_X11 tyX11 tyX11_ok nmX11 hown hK hP hD hS 0 rfl rfl 13 (by decide) (htg _ k1353) (fun _ h9 => h9) rfl (by decide +kernel) rfl rfl (Nat.le_of_ble_eq_true rfl) dX11_rest_13 (fun H locs hP hD hS => ?_)
  have hP : va_P g.1 CLS [(m0, .inr (11, [.ref mh, .ref mg, .ref ms, .ref md, .ref mc, .ref mr, .int (-1), .int 0, .int 0, .int 0, .long 0, .int 0, .int 0, .int 1]))] H := hP
  have hD : va_D A [(m0, .inr (11, [.ref mh, .ref mg, .ref ms, .ref md, .ref mc, .ref mr, .int (-1), .int 0, .int 0, .int 0, .long 0, .int 0, .int 0, .int 1]))] := hD
  refine lv_aload_n hx hb dX11_rest_16 rfl (lv_at hl 0 rfl) ?_
  refine va_get (D := g.1) (ci := 11) (v := .int 1) (C := RX11) (T := TX11) (N := 14) hx hb htg inG_X11 hown hK hP 0 rfl rfl 13 (by decide) (htg _ k1353) (fun _ h9 => h9) rfl dX11_rest_17 ?_
  refine lv_if_le (tgt := 25) hx hb dX11_rest_20 (by decide) (fun c_2 => absurd c_2 (by decide)) (fun c_2 => ?_)
  refine lv_iconst (v := (-1)) hx hb dX11_rest_23 (by decide) ?_
  have hP9 := hP.sub (ws' := [(m0, .inr (11, [.ref mh, .ref mg, .ref ms, .ref md, .ref mc, .ref mr, .int (-1), .int 0, .int 0, .int 0, .long 0, .int 0, .int 0, .int 1]))]) [0] rfl
  have hD9 := hD.sub (ws' := [(m0, .inr (11, [.ref mh, .ref mg, .ref ms, .ref md, .ref mc, .ref mr, .int (-1), .int 0, .int 0, .int 0, .long 0, .int 0, .int 0, .int 1]))]) [0] (by decide) rfl
  refine W.widen (k := 20) (n := 100) (Nat.le_of_ble_eq_true rfl) (Nat.le_of_ble_eq_true rfl) ?_
  exact W.iret (v := (-1)) hx hb hr (fun t ht hW => ⟨⟨(-1), [(m0, .inr (11, [.ref mh, .ref mg, .ref ms, .ref md, .ref mc, .ref mr, .int (-1), .int 0, .int 0, .int 0, .long 0, .int 0, .int 0, .int 1]))], rfl, ⟨rfl, rfl⟩, by rw [ht]; exact hP9, va_K.moved hW.alike hK, hD9⟩, hS.F ht⟩) hS.2.2 dX11_rest_24

set_option maxHeartbeats 4000000 in
set_option maxRecDepth 100000 in
theorem c_m_turn (l : Launch) (hfl : l.stackTraces = false) (g : GP) (m0 : Nat) (mh : Nat) (mg : Nat) (ms : Nat) (md : Nat) (mc : Nat) (mr : Nat)  : CI l yX11_turn (wG yX11_turn cX11_turn 1 (Option.some Jvm.ClassFile.FieldType.int)) (LV 3 20 100) g [.ref m0] ([(m0, .inr (11, [.ref mh, .ref mg, .ref ms, .ref md, .ref mc, .ref mr, .int (-1), .int 0, .int 0, .int 0, .long 0, .int 0, .int 0, .int 0]))]) (fun (r : Int32) (u : va_W) => r = (-1) ∧ u = [(m0, .inr (11, [.ref mh, .ref mg, .ref ms, .ref md, .ref mc, .ref mr, .int (-1), .int 0, .int 0, .int 0, .long 0, .int 0, .int 0, .int 1]))]) := by
  intro sz
  refine Met.ofW (cc := cX11_turn) (maxL := 1) (ret := (Option.some Jvm.ClassFile.FieldType.int)) (by decide) rfl ?_
  intro p e s m args below meth c s₁ B hml hv
  obtain ⟨rfl, hsz, hP, hK, hD0, hT0⟩ := hv
  have hx := B.exec
  have hb := B.bytes
  have hr := B.returns
  have hts := atoms_spec (ws := (wG yX11_turn cX11_turn 1 (Option.some Jvm.ClassFile.FieldType.int))) B.pre
  have htg : ∀ w ∈ G9, w.before _ s = true := fun w h => hts w (List.mem_cons_of_mem _ h)
  have hown : s.vm.findClass "HeroTableModel" = some m.cls := findClass_of_methodNamed B.named
  have hlocks := B.notSynchronized
  subst hsz
  have hD := hD0.self (sz := s.heap.size)
  have hT := hT0
  clear hT0
  generalize hAe : va_A [(m0, .inr (11, [.ref mh, .ref mg, .ref ms, .ref md, .ref mc, .ref mr, .int (-1), .int 0, .int 0, .int 0, .long 0, .int 0, .int 0, .int 0]))] s.heap.size = A at hD hT ⊢
  have hA : ∀ q : Nat, s.heap.size ≤ q → A q := fun q h => by rw [← hAe]; exact Or.inr h
  obtain ⟨H, hH0⟩ : ∃ H, H = s.heap := ⟨_, rfl⟩
  have hS : va_S A s.heap H [] := by rw [hH0]; exact va_S.rf
  have hP : va_P g.1 CLS [(m0, .inr (11, [.ref mh, .ref mg, .ref ms, .ref md, .ref mc, .ref mr, .int (-1), .int 0, .int 0, .int 0, .long 0, .int 0, .int 0, .int 0]))] H := by rw [hH0]; exact hP
  rw [← hH0]
  have hl := lv_entry ([.ref m0]) (n := 1) (Nat.le_of_ble_eq_true rfl)
  rw [lg_entry_eq]
  generalize (lg_sl ([.ref m0]) ++ List.replicate (1 - (lg_sl ([.ref m0])).length) Slot.unset).toArray = ls at hl ⊢
  have hl : lv_has ls 1 [(0, .ref m0)] := hl
  refine lv_aload_n hx hb dX11_turn_0 rfl (lv_at hl 0 rfl) ?_
  refine lv_aload_n hx hb dX11_turn_1 rfl (lv_at hl 0 rfl) ?_
  have hPc := hP.sub (ws' := [(m0, .inr (11, [.ref mh, .ref mg, .ref ms, .ref md, .ref mc, .ref mr, .int (-1), .int 0, .int 0, .int 0, .long 0, .int 0, .int 0, .int 0]))]) [0] rfl
  have hDc := hD.sub (ws' := [(m0, .inr (11, [.ref mh, .ref mg, .ref ms, .ref md, .ref mc, .ref mr, .int (-1), .int 0, .int 0, .int 0, .long 0, .int 0, .int 0, .int 0]))]) [0] (by decide) rfl
  have hFc := va_free (wc := [(m0, .inr (11, [.ref mh, .ref mg, .ref ms, .ref md, .ref mc, .ref mr, .int (-1), .int 0, .int 0, .int 0, .long 0, .int 0, .int 0, .int 0]))]) hD hS hA [0] rfl
  refine q_ci (wr := []) (va_runV (As := []) (rest := [.ref m0]) ⟨hx, hb, hml, hown, htg⟩ (c_X11_isOn l hfl g m0 mh mg ms md mc mr  H.size) ⟨(qB htg k1413 k57 k1410 ok_X11_isOn rfl rfl ⟨Nat.le_of_ble_eq_true rfl, Nat.le_of_ble_eq_true rfl⟩), htg _ k1412, htg _ k17⟩ ⟨(q_pre [.ref m0] hPc hDc hK hS hT hFc).1, va_recv hK hP (ci := 11) (q0 := 0) rfl rfl, (q_pre [.ref m0] hPc hDc hK hS hT hFc).2⟩ rfl rfl hl.1 rfl (lv_room (Nat.le_of_ble_eq_true rfl)) dX11_turn_2 ⟨Nat.le_of_ble_eq_true rfl, Nat.le_of_ble_eq_true rfl⟩) hP hD hS hFc [0] [] rfl rfl (by decide) (by decide) (fun r9 u9 H locs hw hP hD hS => ?_)
  try dsimp only at hw
  rcases hw with ⟨rfl, rfl⟩
  have hP : va_P g.1 CLS [(m0, .inr (11, [.ref mh, .ref mg, .ref ms, .ref md, .ref mc, .ref mr, .int (-1), .int 0, .int 0, .int 0, .long 0, .int 0, .int 0, .int 0]))] H := hP
  have hD : va_D A [(m0, .inr (11, [.ref mh, .ref mg, .ref ms, .ref md, .ref mc, .ref mr, .int (-1), .int 0, .int 0, .int 0, .long 0, .int 0, .int 0, .int 0]))] := hD
  refine W.widen (k := 0) (n := 0) (Nat.le_of_ble_eq_true rfl) (Nat.le_of_ble_eq_true rfl) ?_
  refine lv_if_eq (tgt := 12) hx hb dX11_turn_5 (by decide) (fun c_1 => ?_) (fun c_1 => absurd (by decide) c_1)
  refine lv_iconst (v := 1) hx hb dX11_turn_12 (by decide) ?_
  refine va_put (D := g.1) (ci := 11) (v := .int 1) (ty := .int) (C := RX11) (T := TX11) (N := 14) hx hb htg inG_X11 tyX11 tyX11_ok nmX11 hown hK hP hD hS 0 rfl rfl 13 (by decide) (htg _ k1353) (fun _ h9 => h9) rfl (by decide +kernel) rfl rfl (Nat.le_of_ble_eq_true rfl) dX11_turn_13 (fun H locs hP hD hS => ?_)
  have hP : va_P g.1 CLS [(m0, .inr (11, [.ref mh, .ref mg, .ref ms, .ref md, .ref mc, .ref mr, .int (-1), .int 0, .int 0, .int 0, .long 0, .int 0, .int 0, .int 1]))] H := hP
  have hD : va_D A [(m0, .inr (11, [.ref mh, .ref mg, .ref ms, .ref md, .ref mc, .ref mr, .int (-1), .int 0, .int 0, .int 0, .long 0, .int 0, .int 0, .int 1]))] := hD
  refine lv_aload_n hx hb dX11_turn_16 rfl (lv_at hl 0 rfl) ?_
  refine va_get (D := g.1) (ci := 11) (v := .int 1) (C := RX11) (T := TX11) (N := 14) hx hb htg inG_X11 hown hK hP 0 rfl rfl 13 (by decide) (htg _ k1353) (fun _ h9 => h9) rfl dX11_turn_17 ?_
  refine lv_if_ne (tgt := 33) hx hb dX11_turn_20 (by decide) (fun c_2 => ?_) (fun c_2 => absurd c_2 (by decide))
  refine lv_iconst (v := (-1)) hx hb dX11_turn_33 (by decide) ?_
  have hP9 := hP.sub (ws' := [(m0, .inr (11, [.ref mh, .ref mg, .ref ms, .ref md, .ref mc, .ref mr, .int (-1), .int 0, .int 0, .int 0, .long 0, .int 0, .int 0, .int 1]))]) [0] rfl
  have hD9 := hD.sub (ws' := [(m0, .inr (11, [.ref mh, .ref mg, .ref ms, .ref md, .ref mc, .ref mr, .int (-1), .int 0, .int 0, .int 0, .long 0, .int 0, .int 0, .int 1]))]) [0] (by decide) rfl
  refine W.widen (k := 20) (n := 100) (Nat.le_of_ble_eq_true rfl) (Nat.le_of_ble_eq_true rfl) ?_
  exact W.iret (v := (-1)) hx hb hr (fun t ht hW => ⟨⟨(-1), [(m0, .inr (11, [.ref mh, .ref mg, .ref ms, .ref md, .ref mc, .ref mr, .int (-1), .int 0, .int 0, .int 0, .long 0, .int 0, .int 0, .int 1]))], rfl, ⟨rfl, rfl⟩, by rw [ht]; exact hP9, va_K.moved hW.alike hK, hD9⟩, hS.F ht⟩) hS.2.2 dX11_turn_34

set_option maxHeartbeats 4000000 in
set_option maxRecDepth 100000 in
theorem c_m_steps (l : Launch) (hfl : l.stackTraces = false) (g : GP) (m0 : Nat) (mh : Nat) (mg : Nat) (ms : Nat) (md : Nat) (mc : Nat) (mr : Nat)  : CI l yX11_steps (wG yX11_steps cX11_steps 1 (Option.some Jvm.ClassFile.FieldType.int)) (LV 3 20 100) g [.ref m0] ([(m0, .inr (11, [.ref mh, .ref mg, .ref ms, .ref md, .ref mc, .ref mr, .int (-1), .int 0, .int 0, .int 0, .long 0, .int 0, .int 0, .int 0]))]) (fun (r : Int32) (u : va_W) => r = (-1) ∧ u = [(m0, .inr (11, [.ref mh, .ref mg, .ref ms, .ref md, .ref mc, .ref mr, .int (-1), .int 0, .int 0, .int 0, .long 0, .int 0, .int 0, .int 1]))]) := by
  intro sz
  refine Met.ofW (cc := cX11_steps) (maxL := 1) (ret := (Option.some Jvm.ClassFile.FieldType.int)) (by decide) rfl ?_
  intro p e s m args below meth c s₁ B hml hv
  obtain ⟨rfl, hsz, hP, hK, hD0, hT0⟩ := hv
  have hx := B.exec
  have hb := B.bytes
  have hr := B.returns
  have hts := atoms_spec (ws := (wG yX11_steps cX11_steps 1 (Option.some Jvm.ClassFile.FieldType.int))) B.pre
  have htg : ∀ w ∈ G9, w.before _ s = true := fun w h => hts w (List.mem_cons_of_mem _ h)
  have hown : s.vm.findClass "HeroTableModel" = some m.cls := findClass_of_methodNamed B.named
  have hlocks := B.notSynchronized
  subst hsz
  have hD := hD0.self (sz := s.heap.size)
  have hT := hT0
  clear hT0
  generalize hAe : va_A [(m0, .inr (11, [.ref mh, .ref mg, .ref ms, .ref md, .ref mc, .ref mr, .int (-1), .int 0, .int 0, .int 0, .long 0, .int 0, .int 0, .int 0]))] s.heap.size = A at hD hT ⊢
  have hA : ∀ q : Nat, s.heap.size ≤ q → A q := fun q h => by rw [← hAe]; exact Or.inr h
  obtain ⟨H, hH0⟩ : ∃ H, H = s.heap := ⟨_, rfl⟩
  have hS : va_S A s.heap H [] := by rw [hH0]; exact va_S.rf
  have hP : va_P g.1 CLS [(m0, .inr (11, [.ref mh, .ref mg, .ref ms, .ref md, .ref mc, .ref mr, .int (-1), .int 0, .int 0, .int 0, .long 0, .int 0, .int 0, .int 0]))] H := by rw [hH0]; exact hP
  rw [← hH0]
  have hl := lv_entry ([.ref m0]) (n := 1) (Nat.le_of_ble_eq_true rfl)
  rw [lg_entry_eq]
  generalize (lg_sl ([.ref m0]) ++ List.replicate (1 - (lg_sl ([.ref m0])).length) Slot.unset).toArray = ls at hl ⊢
  have hl : lv_has ls 1 [(0, .ref m0)] := hl
  refine lv_aload_n hx hb dX11_steps_0 rfl (lv_at hl 0 rfl) ?_
  refine lv_aload_n hx hb dX11_steps_1 rfl (lv_at hl 0 rfl) ?_
  have hPc := hP.sub (ws' := [(m0, .inr (11, [.ref mh, .ref mg, .ref ms, .ref md, .ref mc, .ref mr, .int (-1), .int 0, .int 0, .int 0, .long 0, .int 0, .int 0, .int 0]))]) [0] rfl
  have hDc := hD.sub (ws' := [(m0, .inr (11, [.ref mh, .ref mg, .ref ms, .ref md, .ref mc, .ref mr, .int (-1), .int 0, .int 0, .int 0, .long 0, .int 0, .int 0, .int 0]))]) [0] (by decide) rfl
  have hFc := va_free (wc := [(m0, .inr (11, [.ref mh, .ref mg, .ref ms, .ref md, .ref mc, .ref mr, .int (-1), .int 0, .int 0, .int 0, .long 0, .int 0, .int 0, .int 0]))]) hD hS hA [0] rfl
  refine q_ci (wr := []) (va_runV (As := []) (rest := [.ref m0]) ⟨hx, hb, hml, hown, htg⟩ (c_X11_isOn l hfl g m0 mh mg ms md mc mr  H.size) ⟨(qB htg k1413 k57 k1410 ok_X11_isOn rfl rfl ⟨Nat.le_of_ble_eq_true rfl, Nat.le_of_ble_eq_true rfl⟩), htg _ k1412, htg _ k17⟩ ⟨(q_pre [.ref m0] hPc hDc hK hS hT hFc).1, va_recv hK hP (ci := 11) (q0 := 0) rfl rfl, (q_pre [.ref m0] hPc hDc hK hS hT hFc).2⟩ rfl rfl hl.1 rfl (lv_room (Nat.le_of_ble_eq_true rfl)) dX11_steps_2 ⟨Nat.le_of_ble_eq_true rfl, Nat.le_of_ble_eq_true rfl⟩) hP hD hS hFc [0] [] rfl rfl (by decide) (by decide) (fun r9 u9 H locs hw hP hD hS => ?_)
  try dsimp only at hw
  rcases hw with ⟨rfl, rfl⟩
  have hP : va_P g.1 CLS [(m0, .inr (11, [.ref mh, .ref mg, .ref ms, .ref md, .ref mc, .ref mr, .int (-1), .int 0, .int 0, .int 0, .long 0, .int 0, .int 0, .int 0]))] H := hP
  have hD : va_D A [(m0, .inr (11, [.ref mh, .ref mg, .ref ms, .ref md, .ref mc, .ref mr, .int (-1), .int 0, .int 0, .int 0, .long 0, .int 0, .int 0, .int 0]))] := hD
  refine W.widen (k := 0) (n := 0) (Nat.le_of_ble_eq_true rfl) (Nat.le_of_ble_eq_true rfl) ?_
  refine lv_if_eq (tgt := 12) hx hb dX11_steps_5 (by decide) (fun c_1 => ?_) (fun c_1 => absurd (by decide) c_1)
  refine lv_iconst (v := 1) hx hb dX11_steps_12 (by decide) ?_
  refine va_put (D := g.1) (ci := 11) (v := .int 1) (ty := .int) (C := RX11) (T := TX11) (N := 14) hx hb htg inG_X11 tyX11 tyX11_ok nmX11 hown hK hP hD hS 0 rfl rfl 13 (by decide) (htg _ k1353) (fun _ h9 => h9) rfl (by decide +kernel) rfl rfl (Nat.le_of_ble_eq_true rfl) dX11_steps_13 (fun H locs hP hD hS => ?_)
  have hP : va_P g.1 CLS [(m0, .inr (11, [.ref mh, .ref mg, .ref ms, .ref md, .ref mc, .ref mr, .int (-1), .int 0, .int 0, .int 0, .long 0, .int 0, .int 0, .int 1]))] H := hP
  have hD : va_D A [(m0, .inr (11, [.ref mh, .ref mg, .ref ms, .ref md, .ref mc, .ref mr, .int (-1), .int 0, .int 0, .int 0, .long 0, .int 0, .int 0, .int 1]))] := hD
  refine lv_aload_n hx hb dX11_steps_16 rfl (lv_at hl 0 rfl) ?_
  refine va_get (D := g.1) (ci := 11) (v := .int 1) (C := RX11) (T := TX11) (N := 14) hx hb htg inG_X11 hown hK hP 0 rfl rfl 13 (by decide) (htg _ k1353) (fun _ h9 => h9) rfl dX11_steps_17 ?_
  refine lv_if_ne (tgt := 30) hx hb dX11_steps_20 (by decide) (fun c_2 => ?_) (fun c_2 => absurd c_2 (by decide))
  refine lv_iconst (v := (-1)) hx hb dX11_steps_30 (by decide) ?_
  have hP9 := hP.sub (ws' := [(m0, .inr (11, [.ref mh, .ref mg, .ref ms, .ref md, .ref mc, .ref mr, .int (-1), .int 0, .int 0, .int 0, .long 0, .int 0, .int 0, .int 1]))]) [0] rfl
  have hD9 := hD.sub (ws' := [(m0, .inr (11, [.ref mh, .ref mg, .ref ms, .ref md, .ref mc, .ref mr, .int (-1), .int 0, .int 0, .int 0, .long 0, .int 0, .int 0, .int 1]))]) [0] (by decide) rfl
  refine W.widen (k := 20) (n := 100) (Nat.le_of_ble_eq_true rfl) (Nat.le_of_ble_eq_true rfl) ?_
  exact W.iret (v := (-1)) hx hb hr (fun t ht hW => ⟨⟨(-1), [(m0, .inr (11, [.ref mh, .ref mg, .ref ms, .ref md, .ref mc, .ref mr, .int (-1), .int 0, .int 0, .int 0, .long 0, .int 0, .int 0, .int 1]))], rfl, ⟨rfl, rfl⟩, by rw [ht]; exact hP9, va_K.moved hW.alike hK, hD9⟩, hS.F ht⟩) hS.2.2 dX11_steps_31

set_option maxHeartbeats 4000000 in
set_option maxRecDepth 100000 in
theorem c_m_stand (l : Launch) (hfl : l.stackTraces = false) (g : GP) (m0 : Nat) (mh : Nat) (mg : Nat) (ms : Nat) (md : Nat) (mc : Nat) (mr : Nat)  : CI l yX11_stand (wG yX11_stand cX11_stand 4 (Option.some Jvm.ClassFile.FieldType.boolean)) (LV 3 20 100) g [.ref m0] ([(m0, .inr (11, [.ref mh, .ref mg, .ref ms, .ref md, .ref mc, .ref mr, .int (-1), .int 0, .int 0, .int 0, .long 0, .int 0, .int 0, .int 0]))]) (fun (r : Int32) (u : va_W) => r = 0 ∧ u = [(m0, .inr (11, [.ref mh, .ref mg, .ref ms, .ref md, .ref mc, .ref mr, .int (-1), .int 0, .int 0, .int 0, .long 0, .int 0, .int 0, .int 1]))]) := by
  intro sz
  refine Met.ofW (cc := cX11_stand) (maxL := 4) (ret := (Option.some Jvm.ClassFile.FieldType.boolean)) (by decide) rfl ?_
  intro p e s m args below meth c s₁ B hml hv
  obtain ⟨rfl, hsz, hP, hK, hD0, hT0⟩ := hv
  have hx := B.exec
  have hb := B.bytes
  have hr := B.returns
  have hts := atoms_spec (ws := (wG yX11_stand cX11_stand 4 (Option.some Jvm.ClassFile.FieldType.boolean))) B.pre
  have htg : ∀ w ∈ G9, w.before _ s = true := fun w h => hts w (List.mem_cons_of_mem _ h)
  have hown : s.vm.findClass "HeroTableModel" = some m.cls := findClass_of_methodNamed B.named
  have hlocks := B.notSynchronized
  subst hsz
  have hD := hD0.self (sz := s.heap.size)
  have hT := hT0
  clear hT0
  generalize hAe : va_A [(m0, .inr (11, [.ref mh, .ref mg, .ref ms, .ref md, .ref mc, .ref mr, .int (-1), .int 0, .int 0, .int 0, .long 0, .int 0, .int 0, .int 0]))] s.heap.size = A at hD hT ⊢
  have hA : ∀ q : Nat, s.heap.size ≤ q → A q := fun q h => by rw [← hAe]; exact Or.inr h
  obtain ⟨H, hH0⟩ : ∃ H, H = s.heap := ⟨_, rfl⟩
  have hS : va_S A s.heap H [] := by rw [hH0]; exact va_S.rf
  have hP : va_P g.1 CLS [(m0, .inr (11, [.ref mh, .ref mg, .ref ms, .ref md, .ref mc, .ref mr, .int (-1), .int 0, .int 0, .int 0, .long 0, .int 0, .int 0, .int 0]))] H := by rw [hH0]; exact hP
  rw [← hH0]
  have hl := lv_entry ([.ref m0]) (n := 4) (Nat.le_of_ble_eq_true rfl)
  rw [lg_entry_eq]
  generalize (lg_sl ([.ref m0]) ++ List.replicate (4 - (lg_sl ([.ref m0])).length) Slot.unset).toArray = ls at hl ⊢
  have hl : lv_has ls 4 [(0, .ref m0)] := hl
  refine lv_aload_n hx hb dX11_stand_0 rfl (lv_at hl 0 rfl) ?_
  refine lv_aload_n hx hb dX11_stand_1 rfl (lv_at hl 0 rfl) ?_
  have hPc := hP.sub (ws' := [(m0, .inr (11, [.ref mh, .ref mg, .ref ms, .ref md, .ref mc, .ref mr, .int (-1), .int 0, .int 0, .int 0, .long 0, .int 0, .int 0, .int 0]))]) [0] rfl
  have hDc := hD.sub (ws' := [(m0, .inr (11, [.ref mh, .ref mg, .ref ms, .ref md, .ref mc, .ref mr, .int (-1), .int 0, .int 0, .int 0, .long 0, .int 0, .int 0, .int 0]))]) [0] (by decide) rfl
  have hFc := va_free (wc := [(m0, .inr (11, [.ref mh, .ref mg, .ref ms, .ref md, .ref mc, .ref mr, .int (-1), .int 0, .int 0, .int 0, .long 0, .int 0, .int 0, .int 0]))]) hD hS hA [0] rfl
  refine q_ci (wr := []) (va_runV (As := []) (rest := [.ref m0]) ⟨hx, hb, hml, hown, htg⟩ (c_X11_isOn l hfl g m0 mh mg ms md mc mr  H.size) ⟨(qB htg k1413 k57 k1410 ok_X11_isOn rfl rfl ⟨Nat.le_of_ble_eq_true rfl, Nat.le_of_ble_eq_true rfl⟩), htg _ k1412, htg _ k17⟩ ⟨(q_pre [.ref m0] hPc hDc hK hS hT hFc).1, va_recv hK hP (ci := 11) (q0 := 0) rfl rfl, (q_pre [.ref m0] hPc hDc hK hS hT hFc).2⟩ rfl rfl hl.1 rfl (lv_room (Nat.le_of_ble_eq_true rfl)) dX11_stand_2 ⟨Nat.le_of_ble_eq_true rfl, Nat.le_of_ble_eq_true rfl⟩) hP hD hS hFc [0] [] rfl rfl (by decide) (by decide) (fun r9 u9 H locs hw hP hD hS => ?_)
  try dsimp only at hw
  rcases hw with ⟨rfl, rfl⟩
  have hP : va_P g.1 CLS [(m0, .inr (11, [.ref mh, .ref mg, .ref ms, .ref md, .ref mc, .ref mr, .int (-1), .int 0, .int 0, .int 0, .long 0, .int 0, .int 0, .int 0]))] H := hP
  have hD : va_D A [(m0, .inr (11, [.ref mh, .ref mg, .ref ms, .ref md, .ref mc, .ref mr, .int (-1), .int 0, .int 0, .int 0, .long 0, .int 0, .int 0, .int 0]))] := hD
  refine W.widen (k := 0) (n := 0) (Nat.le_of_ble_eq_true rfl) (Nat.le_of_ble_eq_true rfl) ?_
  refine lv_if_ne (tgt := 12) hx hb dX11_stand_5 (by decide) (fun c_1 => absurd (by decide) c_1) (fun c_1 => ?_)
  refine lv_iconst (v := 1) hx hb dX11_stand_8 (by decide) ?_
  refine lv_goto (tgt := 38) hx hb dX11_stand_9 (by decide) ?_
  refine va_put (D := g.1) (ci := 11) (v := .int 1) (ty := .int) (C := RX11) (T := TX11) (N := 14) hx hb htg inG_X11 tyX11 tyX11_ok nmX11 hown hK hP hD hS 0 rfl rfl 13 (by decide) (htg _ k1353) (fun _ h9 => h9) rfl (by decide +kernel) rfl rfl (Nat.le_of_ble_eq_true rfl) dX11_stand_38 (fun H locs hP hD hS => ?_)
  have hP : va_P g.1 CLS [(m0, .inr (11, [.ref mh, .ref mg, .ref ms, .ref md, .ref mc, .ref mr, .int (-1), .int 0, .int 0, .int 0, .long 0, .int 0, .int 0, .int 1]))] H := hP
  have hD : va_D A [(m0, .inr (11, [.ref mh, .ref mg, .ref ms, .ref md, .ref mc, .ref mr, .int (-1), .int 0, .int 0, .int 0, .long 0, .int 0, .int 0, .int 1]))] := hD
  refine lv_aload_n hx hb dX11_stand_41 rfl (lv_at hl 0 rfl) ?_
  refine va_get (D := g.1) (ci := 11) (v := .int 1) (C := RX11) (T := TX11) (N := 14) hx hb htg inG_X11 hown hK hP 0 rfl rfl 13 (by decide) (htg _ k1353) (fun _ h9 => h9) rfl dX11_stand_42 ?_
  refine lv_if_le (tgt := 50) hx hb dX11_stand_45 (by decide) (fun c_2 => absurd c_2 (by decide)) (fun c_2 => ?_)
  refine lv_iconst (v := 0) hx hb dX11_stand_48 (by decide) ?_
  have hP9 := hP.sub (ws' := [(m0, .inr (11, [.ref mh, .ref mg, .ref ms, .ref md, .ref mc, .ref mr, .int (-1), .int 0, .int 0, .int 0, .long 0, .int 0, .int 0, .int 1]))]) [0] rfl
  have hD9 := hD.sub (ws' := [(m0, .inr (11, [.ref mh, .ref mg, .ref ms, .ref md, .ref mc, .ref mr, .int (-1), .int 0, .int 0, .int 0, .long 0, .int 0, .int 0, .int 1]))]) [0] (by decide) rfl
  refine W.widen (k := 20) (n := 100) (Nat.le_of_ble_eq_true rfl) (Nat.le_of_ble_eq_true rfl) ?_
  exact W.zret (v := 0) hx hb hr rfl (fun t ht hW => ⟨⟨0, [(m0, .inr (11, [.ref mh, .ref mg, .ref ms, .ref md, .ref mc, .ref mr, .int (-1), .int 0, .int 0, .int 0, .long 0, .int 0, .int 0, .int 1]))], rfl, ⟨rfl, rfl⟩, by rw [ht]; exact hP9, va_K.moved hW.alike hK, hD9⟩, hS.F ht⟩) hS.2.2 dX11_stand_49

set_option maxHeartbeats 4000000 in
set_option maxRecDepth 100000 in
theorem c_m_step (l : Launch) (hfl : l.stackTraces = false) (g : GP) (m0 : Nat) (mh : Nat) (mg : Nat) (ms : Nat) (md : Nat) (mc : Nat) (mr : Nat) (n1 : Int32) (n2 : Int32)  : CI l yX11_step (wG yX11_step cX11_step 10 (Option.some Jvm.ClassFile.FieldType.boolean)) (LV 4 20 100) g [.ref m0, .int n1, .int n2] ([(m0, .inr (11, [.ref mh, .ref mg, .ref ms, .ref md, .ref mc, .ref mr, .int (-1), .int 0, .int 0, .int 0, .long 0, .int 0, .int 0, .int 0]))]) (fun (r : Int32) (u : va_W) => ((okStep n1 n2) ∧ r = 0 ∧ u = [(m0, .inr (11, [.ref mh, .ref mg, .ref ms, .ref md, .ref mc, .ref mr, .int (-1), .int 0, .int 0, .int 0, .long 0, .int 0, .int 0, .int 2]))]) ∨ ((¬ okStep n1 n2) ∧ r = 0 ∧ u = [(m0, .inr (11, [.ref mh, .ref mg, .ref ms, .ref md, .ref mc, .ref mr, .int (-1), .int 0, .int 0, .int 0, .long 0, .int 0, .int 0, .int 1]))])) := by
  intro sz
  refine Met.ofW (cc := cX11_step) (maxL := 10) (ret := (Option.some Jvm.ClassFile.FieldType.boolean)) (by decide) rfl ?_
  intro p e s m args below meth c s₁ B hml hv
  obtain ⟨rfl, hsz, hP, hK, hD0, hT0⟩ := hv
  have hx := B.exec
  have hb := B.bytes
  have hr := B.returns
  have hts := atoms_spec (ws := (wG yX11_step cX11_step 10 (Option.some Jvm.ClassFile.FieldType.boolean))) B.pre
  have htg : ∀ w ∈ G9, w.before _ s = true := fun w h => hts w (List.mem_cons_of_mem _ h)
  have hown : s.vm.findClass "HeroTableModel" = some m.cls := findClass_of_methodNamed B.named
  have hlocks := B.notSynchronized
  subst hsz
  have hD := hD0.self (sz := s.heap.size)
  have hT := hT0
  clear hT0
  generalize hAe : va_A [(m0, .inr (11, [.ref mh, .ref mg, .ref ms, .ref md, .ref mc, .ref mr, .int (-1), .int 0, .int 0, .int 0, .long 0, .int 0, .int 0, .int 0]))] s.heap.size = A at hD hT ⊢
  have hA : ∀ q : Nat, s.heap.size ≤ q → A q := fun q h => by rw [← hAe]; exact Or.inr h
  obtain ⟨H, hH0⟩ : ∃ H, H = s.heap := ⟨_, rfl⟩
  have hS : va_S A s.heap H [] := by rw [hH0]; exact va_S.rf
  have hP : va_P g.1 CLS [(m0, .inr (11, [.ref mh, .ref mg, .ref ms, .ref md, .ref mc, .ref mr, .int (-1), .int 0, .int 0, .int 0, .long 0, .int 0, .int 0, .int 0]))] H := by rw [hH0]; exact hP
  rw [← hH0]
  have hl := lv_entry ([.ref m0, .int n1, .int n2]) (n := 10) (Nat.le_of_ble_eq_true rfl)
  rw [lg_entry_eq]
  generalize (lg_sl ([.ref m0, .int n1, .int n2]) ++ List.replicate (10 - (lg_sl ([.ref m0, .int n1, .int n2])).length) Slot.unset).toArray = ls at hl ⊢
  have hl : lv_has ls 10 [(0, .ref m0), (1, .int n1), (2, .int n2)] := hl
  refine lv_iload_n hx hb dX11_step_0 rfl (lv_at hl 1 rfl) ?_
  refine lv_i2l (v := n1.toInt64) hx hb dX11_step_1 rfl ?_
  refine lv_ldc2 (own := "HeroTableModel") (index := 351) (v := (-1)) hx hb hown (htg _ k2198) dX11_step_2 ?_
  refine lv_lconst (v := 1) hx hb dX11_step_5 (by decide) ?_
  have hPc := hP.sub (ws' := []) [] rfl
  have hDc := hD.sub (ws' := []) [] (by decide) rfl
  have hFc := va_free (wc := []) hD hS hA [] rfl
  refine q_ci (wr := [(m0, .inr (11, [.ref mh, .ref mg, .ref ms, .ref md, .ref mc, .ref mr, .int (-1), .int 0, .int 0, .int 0, .long 0, .int 0, .int 0, .int 0]))]) (va_runS (As := [.long n1.toInt64, .long (-1), .long 1]) (rest := []) ⟨hx, hb, hml, hown, htg⟩ (c_X11_in l hfl g n1.toInt64 (-1) 1  H.size) ⟨(qB htg k1393 k57 k1391 ok_X11_in rfl rfl ⟨Nat.le_of_ble_eq_true rfl, Nat.le_of_ble_eq_true rfl⟩), htg _ k1392⟩ (q_pre [.long n1.toInt64, .long (-1), .long 1] hPc hDc hK hS hT hFc) rfl rfl hl.1 rfl (lv_room (Nat.le_of_ble_eq_true rfl)) dX11_step_6 ⟨Nat.le_of_ble_eq_true rfl, Nat.le_of_ble_eq_true rfl⟩) hP hD hS hFc [] [0] rfl rfl (by decide) (by decide) (fun r9 u9 H locs hw hP hD hS => ?_)
  try dsimp only at hw
  rcases hw with ⟨c_1, rfl, rfl⟩ | ⟨c_2, rfl, rfl⟩
  · have hP : va_P g.1 CLS [(m0, .inr (11, [.ref mh, .ref mg, .ref ms, .ref md, .ref mc, .ref mr, .int (-1), .int 0, .int 0, .int 0, .long 0, .int 0, .int 0, .int 0]))] H := hP
    have hD : va_D A [(m0, .inr (11, [.ref mh, .ref mg, .ref ms, .ref md, .ref mc, .ref mr, .int (-1), .int 0, .int 0, .int 0, .long 0, .int 0, .int 0, .int 0]))] := hD
    refine W.widen (k := 0) (n := 0) (Nat.le_of_ble_eq_true rfl) (Nat.le_of_ble_eq_true rfl) ?_
    refine lv_if_eq (tgt := 36) hx hb dX11_step_9 (by decide) (fun c_3 => absurd c_3 (by decide)) (fun c_3 => ?_)
    refine lv_iload_n hx hb dX11_step_12 rfl (lv_at hl 2 rfl) ?_
    refine lv_i2l (v := n2.toInt64) hx hb dX11_step_13 rfl ?_
    refine lv_ldc2 (own := "HeroTableModel") (index := 351) (v := (-1)) hx hb hown (htg _ k2198) dX11_step_14 ?_
    refine lv_lconst (v := 1) hx hb dX11_step_17 (by decide) ?_
    have hPc := hP.sub (ws' := []) [] rfl
    have hDc := hD.sub (ws' := []) [] (by decide) rfl
    have hFc := va_free (wc := []) hD hS hA [] rfl
    refine q_ci (wr := [(m0, .inr (11, [.ref mh, .ref mg, .ref ms, .ref md, .ref mc, .ref mr, .int (-1), .int 0, .int 0, .int 0, .long 0, .int 0, .int 0, .int 0]))]) (va_runS (As := [.long n2.toInt64, .long (-1), .long 1]) (rest := []) ⟨hx, hb, hml, hown, htg⟩ (c_X11_in l hfl g n2.toInt64 (-1) 1  H.size) ⟨(qB htg k1393 k57 k1391 ok_X11_in rfl rfl ⟨Nat.le_of_ble_eq_true rfl, Nat.le_of_ble_eq_true rfl⟩), htg _ k1392⟩ (q_pre [.long n2.toInt64, .long (-1), .long 1] hPc hDc hK hS hT hFc) rfl rfl hl.1 rfl (lv_room (Nat.le_of_ble_eq_true rfl)) dX11_step_18 ⟨Nat.le_of_ble_eq_true rfl, Nat.le_of_ble_eq_true rfl⟩) hP hD hS hFc [] [0] rfl rfl (by decide) (by decide) (fun r9 u9 H locs hw hP hD hS => ?_)
    try dsimp only at hw
    rcases hw with ⟨c_4, rfl, rfl⟩ | ⟨c_5, rfl, rfl⟩
    · have hP : va_P g.1 CLS [(m0, .inr (11, [.ref mh, .ref mg, .ref ms, .ref md, .ref mc, .ref mr, .int (-1), .int 0, .int 0, .int 0, .long 0, .int 0, .int 0, .int 0]))] H := hP
      have hD : va_D A [(m0, .inr (11, [.ref mh, .ref mg, .ref ms, .ref md, .ref mc, .ref mr, .int (-1), .int 0, .int 0, .int 0, .long 0, .int 0, .int 0, .int 0]))] := hD
      refine W.widen (k := 0) (n := 0) (Nat.le_of_ble_eq_true rfl) (Nat.le_of_ble_eq_true rfl) ?_
      refine lv_if_eq (tgt := 36) hx hb dX11_step_21 (by decide) (fun c_6 => absurd c_6 (by decide)) (fun c_6 => ?_)
      refine lv_iload_n hx hb dX11_step_24 rfl (lv_at hl 1 rfl) ?_
      refine lv_if_ne (tgt := 32) hx hb dX11_step_25 (by decide) (fun c_7 => ?_) (fun c_7 => ?_)
      · refine lv_iconst (v := 1) hx hb dX11_step_32 (by decide) ?_
        refine lv_goto (tgt := 37) hx hb dX11_step_33 (by decide) ?_
        refine lv_istore_n (lv' := [(3, .int 1), (0, .ref m0), (1, .int n1), (2, .int n2)]) hx hb dX11_step_37 rfl hl (by decide) rfl (fun ls hl => ?_)
        refine lv_aload_n hx hb dX11_step_38 rfl (lv_at hl 1 rfl) ?_
        refine lv_iload_n hx hb dX11_step_39 rfl (lv_at hl 0 rfl) ?_
        refine lv_if_ne (tgt := 47) hx hb dX11_step_40 (by decide) (fun c_8 => ?_) (fun c_8 => absurd c_8 (by decide))
        refine lv_aload_n hx hb dX11_step_47 rfl (lv_at hl 1 rfl) ?_
        have hPc := hP.sub (ws' := [(m0, .inr (11, [.ref mh, .ref mg, .ref ms, .ref md, .ref mc, .ref mr, .int (-1), .int 0, .int 0, .int 0, .long 0, .int 0, .int 0, .int 0]))]) [0] rfl
        have hDc := hD.sub (ws' := [(m0, .inr (11, [.ref mh, .ref mg, .ref ms, .ref md, .ref mc, .ref mr, .int (-1), .int 0, .int 0, .int 0, .long 0, .int 0, .int 0, .int 0]))]) [0] (by decide) rfl
        have hFc := va_free (wc := [(m0, .inr (11, [.ref mh, .ref mg, .ref ms, .ref md, .ref mc, .ref mr, .int (-1), .int 0, .int 0, .int 0, .long 0, .int 0, .int 0, .int 0]))]) hD hS hA [0] rfl
        refine q_ci (wr := []) (va_runV (As := []) (rest := [.ref m0]) ⟨hx, hb, hml, hown, htg⟩ (c_X11_isOn l hfl g m0 mh mg ms md mc mr  H.size) ⟨(qB htg k1413 k57 k1410 ok_X11_isOn rfl rfl ⟨Nat.le_of_ble_eq_true rfl, Nat.le_of_ble_eq_true rfl⟩), htg _ k1412, htg _ k17⟩ ⟨(q_pre [.ref m0] hPc hDc hK hS hT hFc).1, va_recv hK hP (ci := 11) (q0 := 0) rfl rfl, (q_pre [.ref m0] hPc hDc hK hS hT hFc).2⟩ rfl rfl hl.1 rfl (lv_room (Nat.le_of_ble_eq_true rfl)) dX11_step_48 ⟨Nat.le_of_ble_eq_true rfl, Nat.le_of_ble_eq_true rfl⟩) hP hD hS hFc [0] [] rfl rfl (by decide) (by decide) (fun r9 u9 H locs hw hP hD hS => ?_)
        try dsimp only at hw
        rcases hw with ⟨rfl, rfl⟩
        have hP : va_P g.1 CLS [(m0, .inr (11, [.ref mh, .ref mg, .ref ms, .ref md, .ref mc, .ref mr, .int (-1), .int 0, .int 0, .int 0, .long 0, .int 0, .int 0, .int 0]))] H := hP
        have hD : va_D A [(m0, .inr (11, [.ref mh, .ref mg, .ref ms, .ref md, .ref mc, .ref mr, .int (-1), .int 0, .int 0, .int 0, .long 0, .int 0, .int 0, .int 0]))] := hD
        refine W.widen (k := 0) (n := 0) (Nat.le_of_ble_eq_true rfl) (Nat.le_of_ble_eq_true rfl) ?_
        refine lv_if_ne (tgt := 58) hx hb dX11_step_51 (by decide) (fun c_9 => absurd (by decide) c_9) (fun c_9 => ?_)
        refine lv_iconst (v := 2) hx hb dX11_step_54 (by decide) ?_
        refine lv_goto (tgt := 88) hx hb dX11_step_55 (by decide) ?_
        refine va_put (D := g.1) (ci := 11) (v := .int 2) (ty := .int) (C := RX11) (T := TX11) (N := 14) hx hb htg inG_X11 tyX11 tyX11_ok nmX11 hown hK hP hD hS 0 rfl rfl 13 (by decide) (htg _ k1353) (fun _ h9 => h9) rfl (by decide +kernel) rfl rfl (Nat.le_of_ble_eq_true rfl) dX11_step_88 (fun H locs hP hD hS => ?_)
        have hP : va_P g.1 CLS [(m0, .inr (11, [.ref mh, .ref mg, .ref ms, .ref md, .ref mc, .ref mr, .int (-1), .int 0, .int 0, .int 0, .long 0, .int 0, .int 0, .int 2]))] H := hP
        have hD : va_D A [(m0, .inr (11, [.ref mh, .ref mg, .ref ms, .ref md, .ref mc, .ref mr, .int (-1), .int 0, .int 0, .int 0, .long 0, .int 0, .int 0, .int 2]))] := hD
        refine lv_aload_n hx hb dX11_step_91 rfl (lv_at hl 1 rfl) ?_
        refine va_get (D := g.1) (ci := 11) (v := .int 2) (C := RX11) (T := TX11) (N := 14) hx hb htg inG_X11 hown hK hP 0 rfl rfl 13 (by decide) (htg _ k1353) (fun _ h9 => h9) rfl dX11_step_92 ?_
        refine lv_if_le (tgt := 100) hx hb dX11_step_95 (by decide) (fun c_10 => absurd c_10 (by decide)) (fun c_10 => ?_)
        refine lv_iconst (v := 0) hx hb dX11_step_98 (by decide) ?_
        have hP9 := hP.sub (ws' := [(m0, .inr (11, [.ref mh, .ref mg, .ref ms, .ref md, .ref mc, .ref mr, .int (-1), .int 0, .int 0, .int 0, .long 0, .int 0, .int 0, .int 2]))]) [0] rfl
        have hD9 := hD.sub (ws' := [(m0, .inr (11, [.ref mh, .ref mg, .ref ms, .ref md, .ref mc, .ref mr, .int (-1), .int 0, .int 0, .int 0, .long 0, .int 0, .int 0, .int 2]))]) [0] (by decide) rfl
        refine W.widen (k := 20) (n := 100) (Nat.le_of_ble_eq_true rfl) (Nat.le_of_ble_eq_true rfl) ?_
        exact W.zret (v := 0) hx hb hr rfl (fun t ht hW => ⟨⟨0, [(m0, .inr (11, [.ref mh, .ref mg, .ref ms, .ref md, .ref mc, .ref mr, .int (-1), .int 0, .int 0, .int 0, .long 0, .int 0, .int 0, .int 2]))], rfl, Or.inl ⟨by simp only [okStep]; simp only [inR, Int32.toInt_toInt64, ll0, ll1, ll7, ll99, ll30, ll9, ll40, ll50, ll20, lln20, lln1, fa_lt, fa_le, fa_eq, li0, li1, li97, li99, li103, li109, li115, li120] at c_1 c_4 c_7 ⊢; omega, rfl, rfl⟩, by rw [ht]; exact hP9, va_K.moved hW.alike hK, hD9⟩, hS.F ht⟩) hS.2.2 dX11_step_99
      · refine lv_iload_n hx hb dX11_step_28 rfl (lv_at hl 2 rfl) ?_
        refine lv_if_eq (tgt := 36) hx hb dX11_step_29 (by decide) (fun c_11 => ?_) (fun c_11 => ?_)
        · refine lv_iconst (v := 0) hx hb dX11_step_36 (by decide) ?_
          refine lv_istore_n (lv' := [(3, .int 0), (0, .ref m0), (1, .int n1), (2, .int n2)]) hx hb dX11_step_37 rfl hl (by decide) rfl (fun ls hl => ?_)
          refine lv_aload_n hx hb dX11_step_38 rfl (lv_at hl 1 rfl) ?_
          refine lv_iload_n hx hb dX11_step_39 rfl (lv_at hl 0 rfl) ?_
          refine lv_if_ne (tgt := 47) hx hb dX11_step_40 (by decide) (fun c_12 => absurd (by decide) c_12) (fun c_12 => ?_)
          refine lv_iconst (v := 1) hx hb dX11_step_43 (by decide) ?_
          refine lv_goto (tgt := 88) hx hb dX11_step_44 (by decide) ?_
          refine va_put (D := g.1) (ci := 11) (v := .int 1) (ty := .int) (C := RX11) (T := TX11) (N := 14) hx hb htg inG_X11 tyX11 tyX11_ok nmX11 hown hK hP hD hS 0 rfl rfl 13 (by decide) (htg _ k1353) (fun _ h9 => h9) rfl (by decide +kernel) rfl rfl (Nat.le_of_ble_eq_true rfl) dX11_step_88 (fun H locs hP hD hS => ?_)
          have hP : va_P g.1 CLS [(m0, .inr (11, [.ref mh, .ref mg, .ref ms, .ref md, .ref mc, .ref mr, .int (-1), .int 0, .int 0, .int 0, .long 0, .int 0, .int 0, .int 1]))] H := hP
          have hD : va_D A [(m0, .inr (11, [.ref mh, .ref mg, .ref ms, .ref md, .ref mc, .ref mr, .int (-1), .int 0, .int 0, .int 0, .long 0, .int 0, .int 0, .int 1]))] := hD
          refine lv_aload_n hx hb dX11_step_91 rfl (lv_at hl 1 rfl) ?_
          refine va_get (D := g.1) (ci := 11) (v := .int 1) (C := RX11) (T := TX11) (N := 14) hx hb htg inG_X11 hown hK hP 0 rfl rfl 13 (by decide) (htg _ k1353) (fun _ h9 => h9) rfl dX11_step_92 ?_
          refine lv_if_le (tgt := 100) hx hb dX11_step_95 (by decide) (fun c_13 => absurd c_13 (by decide)) (fun c_13 => ?_)
          refine lv_iconst (v := 0) hx hb dX11_step_98 (by decide) ?_
          have hP9 := hP.sub (ws' := [(m0, .inr (11, [.ref mh, .ref mg, .ref ms, .ref md, .ref mc, .ref mr, .int (-1), .int 0, .int 0, .int 0, .long 0, .int 0, .int 0, .int 1]))]) [0] rfl
          have hD9 := hD.sub (ws' := [(m0, .inr (11, [.ref mh, .ref mg, .ref ms, .ref md, .ref mc, .ref mr, .int (-1), .int 0, .int 0, .int 0, .long 0, .int 0, .int 0, .int 1]))]) [0] (by decide) rfl
          refine W.widen (k := 20) (n := 100) (Nat.le_of_ble_eq_true rfl) (Nat.le_of_ble_eq_true rfl) ?_
          exact W.zret (v := 0) hx hb hr rfl (fun t ht hW => ⟨⟨0, [(m0, .inr (11, [.ref mh, .ref mg, .ref ms, .ref md, .ref mc, .ref mr, .int (-1), .int 0, .int 0, .int 0, .long 0, .int 0, .int 0, .int 1]))], rfl, Or.inr (⟨by simp only [okStep]; simp only [inR, Int32.toInt_toInt64, ll0, ll1, ll7, ll99, ll30, ll9, ll40, ll50, ll20, lln20, lln1, fa_lt, fa_le, fa_eq, li0, li1, li97, li99, li103, li109, li115, li120] at c_1 c_4 c_7 c_11 ⊢; omega, rfl, rfl⟩), by rw [ht]; exact hP9, va_K.moved hW.alike hK, hD9⟩, hS.F ht⟩) hS.2.2 dX11_step_99
        · refine lv_iconst (v := 1) hx hb dX11_step_32 (by decide) ?_
          refine lv_goto (tgt := 37) hx hb dX11_step_33 (by decide) ?_
          refine lv_istore_n (lv' := [(3, .int 1), (0, .ref m0), (1, .int n1), (2, .int n2)]) hx hb dX11_step_37 rfl hl (by decide) rfl (fun ls hl => ?_)
          refine lv_aload_n hx hb dX11_step_38 rfl (lv_at hl 1 rfl) ?_
          refine lv_iload_n hx hb dX11_step_39 rfl (lv_at hl 0 rfl) ?_
          refine lv_if_ne (tgt := 47) hx hb dX11_step_40 (by decide) (fun c_14 => ?_) (fun c_14 => absurd c_14 (by decide))
          refine lv_aload_n hx hb dX11_step_47 rfl (lv_at hl 1 rfl) ?_
          have hPc := hP.sub (ws' := [(m0, .inr (11, [.ref mh, .ref mg, .ref ms, .ref md, .ref mc, .ref mr, .int (-1), .int 0, .int 0, .int 0, .long 0, .int 0, .int 0, .int 0]))]) [0] rfl
          have hDc := hD.sub (ws' := [(m0, .inr (11, [.ref mh, .ref mg, .ref ms, .ref md, .ref mc, .ref mr, .int (-1), .int 0, .int 0, .int 0, .long 0, .int 0, .int 0, .int 0]))]) [0] (by decide) rfl
          have hFc := va_free (wc := [(m0, .inr (11, [.ref mh, .ref mg, .ref ms, .ref md, .ref mc, .ref mr, .int (-1), .int 0, .int 0, .int 0, .long 0, .int 0, .int 0, .int 0]))]) hD hS hA [0] rfl
          refine q_ci (wr := []) (va_runV (As := []) (rest := [.ref m0]) ⟨hx, hb, hml, hown, htg⟩ (c_X11_isOn l hfl g m0 mh mg ms md mc mr  H.size) ⟨(qB htg k1413 k57 k1410 ok_X11_isOn rfl rfl ⟨Nat.le_of_ble_eq_true rfl, Nat.le_of_ble_eq_true rfl⟩), htg _ k1412, htg _ k17⟩ ⟨(q_pre [.ref m0] hPc hDc hK hS hT hFc).1, va_recv hK hP (ci := 11) (q0 := 0) rfl rfl, (q_pre [.ref m0] hPc hDc hK hS hT hFc).2⟩ rfl rfl hl.1 rfl (lv_room (Nat.le_of_ble_eq_true rfl)) dX11_step_48 ⟨Nat.le_of_ble_eq_true rfl, Nat.le_of_ble_eq_true rfl⟩) hP hD hS hFc [0] [] rfl rfl (by decide) (by decide) (fun r9 u9 H locs hw hP hD hS => ?_)
          try dsimp only at hw
          rcases hw with ⟨rfl, rfl⟩
          have hP : va_P g.1 CLS [(m0, .inr (11, [.ref mh, .ref mg, .ref ms, .ref md, .ref mc, .ref mr, .int (-1), .int 0, .int 0, .int 0, .long 0, .int 0, .int 0, .int 0]))] H := hP
          have hD : va_D A [(m0, .inr (11, [.ref mh, .ref mg, .ref ms, .ref md, .ref mc, .ref mr, .int (-1), .int 0, .int 0, .int 0, .long 0, .int 0, .int 0, .int 0]))] := hD
          refine W.widen (k := 0) (n := 0) (Nat.le_of_ble_eq_true rfl) (Nat.le_of_ble_eq_true rfl) ?_
          refine lv_if_ne (tgt := 58) hx hb dX11_step_51 (by decide) (fun c_15 => absurd (by decide) c_15) (fun c_15 => ?_)
          refine lv_iconst (v := 2) hx hb dX11_step_54 (by decide) ?_
          refine lv_goto (tgt := 88) hx hb dX11_step_55 (by decide) ?_
          refine va_put (D := g.1) (ci := 11) (v := .int 2) (ty := .int) (C := RX11) (T := TX11) (N := 14) hx hb htg inG_X11 tyX11 tyX11_ok nmX11 hown hK hP hD hS 0 rfl rfl 13 (by decide) (htg _ k1353) (fun _ h9 => h9) rfl (by decide +kernel) rfl rfl (Nat.le_of_ble_eq_true rfl) dX11_step_88 (fun H locs hP hD hS => ?_)
          have hP : va_P g.1 CLS [(m0, .inr (11, [.ref mh, .ref mg, .ref ms, .ref md, .ref mc, .ref mr, .int (-1), .int 0, .int 0, .int 0, .long 0, .int 0, .int 0, .int 2]))] H := hP
          have hD : va_D A [(m0, .inr (11, [.ref mh, .ref mg, .ref ms, .ref md, .ref mc, .ref mr, .int (-1), .int 0, .int 0, .int 0, .long 0, .int 0, .int 0, .int 2]))] := hD
          refine lv_aload_n hx hb dX11_step_91 rfl (lv_at hl 1 rfl) ?_
          refine va_get (D := g.1) (ci := 11) (v := .int 2) (C := RX11) (T := TX11) (N := 14) hx hb htg inG_X11 hown hK hP 0 rfl rfl 13 (by decide) (htg _ k1353) (fun _ h9 => h9) rfl dX11_step_92 ?_
          refine lv_if_le (tgt := 100) hx hb dX11_step_95 (by decide) (fun c_16 => absurd c_16 (by decide)) (fun c_16 => ?_)
          refine lv_iconst (v := 0) hx hb dX11_step_98 (by decide) ?_
          have hP9 := hP.sub (ws' := [(m0, .inr (11, [.ref mh, .ref mg, .ref ms, .ref md, .ref mc, .ref mr, .int (-1), .int 0, .int 0, .int 0, .long 0, .int 0, .int 0, .int 2]))]) [0] rfl
          have hD9 := hD.sub (ws' := [(m0, .inr (11, [.ref mh, .ref mg, .ref ms, .ref md, .ref mc, .ref mr, .int (-1), .int 0, .int 0, .int 0, .long 0, .int 0, .int 0, .int 2]))]) [0] (by decide) rfl
          refine W.widen (k := 20) (n := 100) (Nat.le_of_ble_eq_true rfl) (Nat.le_of_ble_eq_true rfl) ?_
          exact W.zret (v := 0) hx hb hr rfl (fun t ht hW => ⟨⟨0, [(m0, .inr (11, [.ref mh, .ref mg, .ref ms, .ref md, .ref mc, .ref mr, .int (-1), .int 0, .int 0, .int 0, .long 0, .int 0, .int 0, .int 2]))], rfl, Or.inl ⟨by simp only [okStep]; simp only [inR, Int32.toInt_toInt64, ll0, ll1, ll7, ll99, ll30, ll9, ll40, ll50, ll20, lln20, lln1, fa_lt, fa_le, fa_eq, li0, li1, li97, li99, li103, li109, li115, li120] at c_1 c_4 c_7 c_11 ⊢; omega, rfl, rfl⟩, by rw [ht]; exact hP9, va_K.moved hW.alike hK, hD9⟩, hS.F ht⟩) hS.2.2 dX11_step_99
    · have hP : va_P g.1 CLS [(m0, .inr (11, [.ref mh, .ref mg, .ref ms, .ref md, .ref mc, .ref mr, .int (-1), .int 0, .int 0, .int 0, .long 0, .int 0, .int 0, .int 0]))] H := hP
      have hD : va_D A [(m0, .inr (11, [.ref mh, .ref mg, .ref ms, .ref md, .ref mc, .ref mr, .int (-1), .int 0, .int 0, .int 0, .long 0, .int 0, .int 0, .int 0]))] := hD
      refine W.widen (k := 0) (n := 0) (Nat.le_of_ble_eq_true rfl) (Nat.le_of_ble_eq_true rfl) ?_
      refine lv_if_eq (tgt := 36) hx hb dX11_step_21 (by decide) (fun c_17 => ?_) (fun c_17 => absurd (by decide) c_17)
      refine lv_iconst (v := 0) hx hb dX11_step_36 (by decide) ?_
      refine lv_istore_n (lv' := [(3, .int 0), (0, .ref m0), (1, .int n1), (2, .int n2)]) hx hb dX11_step_37 rfl hl (by decide) rfl (fun ls hl => ?_)
      refine lv_aload_n hx hb dX11_step_38 rfl (lv_at hl 1 rfl) ?_
      refine lv_iload_n hx hb dX11_step_39 rfl (lv_at hl 0 rfl) ?_
      refine lv_if_ne (tgt := 47) hx hb dX11_step_40 (by decide) (fun c_18 => absurd (by decide) c_18) (fun c_18 => ?_)
      refine lv_iconst (v := 1) hx hb dX11_step_43 (by decide) ?_
      refine lv_goto (tgt := 88) hx hb dX11_step_44 (by decide) ?_
      refine va_put (D := g.1) (ci := 11) (v := .int 1) (ty := .int) (C := RX11) (T := TX11) (N := 14) hx hb htg inG_X11 tyX11 tyX11_ok nmX11 hown hK hP hD hS 0 rfl rfl 13 (by decide) (htg _ k1353) (fun _ h9 => h9) rfl (by decide +kernel) rfl rfl (Nat.le_of_ble_eq_true rfl) dX11_step_88 (fun H locs hP hD hS => ?_)
      have hP : va_P g.1 CLS [(m0, .inr (11, [.ref mh, .ref mg, .ref ms, .ref md, .ref mc, .ref mr, .int (-1), .int 0, .int 0, .int 0, .long 0, .int 0, .int 0, .int 1]))] H := hP
      have hD : va_D A [(m0, .inr (11, [.ref mh, .ref mg, .ref ms, .ref md, .ref mc, .ref mr, .int (-1), .int 0, .int 0, .int 0, .long 0, .int 0, .int 0, .int 1]))] := hD
      refine lv_aload_n hx hb dX11_step_91 rfl (lv_at hl 1 rfl) ?_
      refine va_get (D := g.1) (ci := 11) (v := .int 1) (C := RX11) (T := TX11) (N := 14) hx hb htg inG_X11 hown hK hP 0 rfl rfl 13 (by decide) (htg _ k1353) (fun _ h9 => h9) rfl dX11_step_92 ?_
      refine lv_if_le (tgt := 100) hx hb dX11_step_95 (by decide) (fun c_19 => absurd c_19 (by decide)) (fun c_19 => ?_)
      refine lv_iconst (v := 0) hx hb dX11_step_98 (by decide) ?_
      have hP9 := hP.sub (ws' := [(m0, .inr (11, [.ref mh, .ref mg, .ref ms, .ref md, .ref mc, .ref mr, .int (-1), .int 0, .int 0, .int 0, .long 0, .int 0, .int 0, .int 1]))]) [0] rfl
      have hD9 := hD.sub (ws' := [(m0, .inr (11, [.ref mh, .ref mg, .ref ms, .ref md, .ref mc, .ref mr, .int (-1), .int 0, .int 0, .int 0, .long 0, .int 0, .int 0, .int 1]))]) [0] (by decide) rfl
      refine W.widen (k := 20) (n := 100) (Nat.le_of_ble_eq_true rfl) (Nat.le_of_ble_eq_true rfl) ?_
      exact W.zret (v := 0) hx hb hr rfl (fun t ht hW => ⟨⟨0, [(m0, .inr (11, [.ref mh, .ref mg, .ref ms, .ref md, .ref mc, .ref mr, .int (-1), .int 0, .int 0, .int 0, .long 0, .int 0, .int 0, .int 1]))], rfl, Or.inr (⟨by simp only [okStep]; simp only [inR, Int32.toInt_toInt64, ll0, ll1, ll7, ll99, ll30, ll9, ll40, ll50, ll20, lln20, lln1, fa_lt, fa_le, fa_eq, li0, li1, li97, li99, li103, li109, li115, li120] at c_1 c_5 ⊢; omega, rfl, rfl⟩), by rw [ht]; exact hP9, va_K.moved hW.alike hK, hD9⟩, hS.F ht⟩) hS.2.2 dX11_step_99
  · have hP : va_P g.1 CLS [(m0, .inr (11, [.ref mh, .ref mg, .ref ms, .ref md, .ref mc, .ref mr, .int (-1), .int 0, .int 0, .int 0, .long 0, .int 0, .int 0, .int 0]))] H := hP
    have hD : va_D A [(m0, .inr (11, [.ref mh, .ref mg, .ref ms, .ref md, .ref mc, .ref mr, .int (-1), .int 0, .int 0, .int 0, .long 0, .int 0, .int 0, .int 0]))] := hD
    refine W.widen (k := 0) (n := 0) (Nat.le_of_ble_eq_true rfl) (Nat.le_of_ble_eq_true rfl) ?_
    refine lv_if_eq (tgt := 36) hx hb dX11_step_9 (by decide) (fun c_20 => ?_) (fun c_20 => absurd (by decide) c_20)
    refine lv_iconst (v := 0) hx hb dX11_step_36 (by decide) ?_
    refine lv_istore_n (lv' := [(3, .int 0), (0, .ref m0), (1, .int n1), (2, .int n2)]) hx hb dX11_step_37 rfl hl (by decide) rfl (fun ls hl => ?_)
    refine lv_aload_n hx hb dX11_step_38 rfl (lv_at hl 1 rfl) ?_
    refine lv_iload_n hx hb dX11_step_39 rfl (lv_at hl 0 rfl) ?_
    refine lv_if_ne (tgt := 47) hx hb dX11_step_40 (by decide) (fun c_21 => absurd (by decide) c_21) (fun c_21 => ?_)
    refine lv_iconst (v := 1) hx hb dX11_step_43 (by decide) ?_
    refine lv_goto (tgt := 88) hx hb dX11_step_44 (by decide) ?_
    refine va_put (D := g.1) (ci := 11) (v := .int 1) (ty := .int) (C := RX11) (T := TX11) (N := 14) hx hb htg inG_X11 tyX11 tyX11_ok nmX11 hown hK hP hD hS 0 rfl rfl 13 (by decide) (htg _ k1353) (fun _ h9 => h9) rfl (by decide +kernel) rfl rfl (Nat.le_of_ble_eq_true rfl) dX11_step_88 (fun H locs hP hD hS => ?_)
    have hP : va_P g.1 CLS [(m0, .inr (11, [.ref mh, .ref mg, .ref ms, .ref md, .ref mc, .ref mr, .int (-1), .int 0, .int 0, .int 0, .long 0, .int 0, .int 0, .int 1]))] H := hP
    have hD : va_D A [(m0, .inr (11, [.ref mh, .ref mg, .ref ms, .ref md, .ref mc, .ref mr, .int (-1), .int 0, .int 0, .int 0, .long 0, .int 0, .int 0, .int 1]))] := hD
    refine lv_aload_n hx hb dX11_step_91 rfl (lv_at hl 1 rfl) ?_
    refine va_get (D := g.1) (ci := 11) (v := .int 1) (C := RX11) (T := TX11) (N := 14) hx hb htg inG_X11 hown hK hP 0 rfl rfl 13 (by decide) (htg _ k1353) (fun _ h9 => h9) rfl dX11_step_92 ?_
    refine lv_if_le (tgt := 100) hx hb dX11_step_95 (by decide) (fun c_22 => absurd c_22 (by decide)) (fun c_22 => ?_)
    refine lv_iconst (v := 0) hx hb dX11_step_98 (by decide) ?_
    have hP9 := hP.sub (ws' := [(m0, .inr (11, [.ref mh, .ref mg, .ref ms, .ref md, .ref mc, .ref mr, .int (-1), .int 0, .int 0, .int 0, .long 0, .int 0, .int 0, .int 1]))]) [0] rfl
    have hD9 := hD.sub (ws' := [(m0, .inr (11, [.ref mh, .ref mg, .ref ms, .ref md, .ref mc, .ref mr, .int (-1), .int 0, .int 0, .int 0, .long 0, .int 0, .int 0, .int 1]))]) [0] (by decide) rfl
    refine W.widen (k := 20) (n := 100) (Nat.le_of_ble_eq_true rfl) (Nat.le_of_ble_eq_true rfl) ?_
    exact W.zret (v := 0) hx hb hr rfl (fun t ht hW => ⟨⟨0, [(m0, .inr (11, [.ref mh, .ref mg, .ref ms, .ref md, .ref mc, .ref mr, .int (-1), .int 0, .int 0, .int 0, .long 0, .int 0, .int 0, .int 1]))], rfl, Or.inr (⟨by simp only [okStep]; simp only [inR, Int32.toInt_toInt64, ll0, ll1, ll7, ll99, ll30, ll9, ll40, ll50, ll20, lln20, lln1, fa_lt, fa_le, fa_eq, li0, li1, li97, li99, li103, li109, li115, li120] at c_2 ⊢; omega, rfl, rfl⟩), by rw [ht]; exact hP9, va_K.moved hW.alike hK, hD9⟩, hS.F ht⟩) hS.2.2 dX11_step_99

set_option maxHeartbeats 4000000 in
set_option maxRecDepth 100000 in
theorem c_m_ready (l : Launch) (hfl : l.stackTraces = false) (g : GP) (m0 : Nat) (mh : Nat) (mg : Nat) (ms : Nat) (md : Nat) (mc : Nat) (mr : Nat) (n1 : Int32) (n2 : Int32)  : CI l yX11_ready (wG yX11_ready cX11_ready 7 (Option.some Jvm.ClassFile.FieldType.boolean)) (LV 4 20 100) g [.ref m0, .int n1, .int n2] ([(m0, .inr (11, [.ref mh, .ref mg, .ref ms, .ref md, .ref mc, .ref mr, .int (-1), .int 0, .int 0, .int 0, .long 0, .int 0, .int 0, .int 0]))]) (fun (r : Int32) (u : va_W) => ((okRdy n1 n2) ∧ r = 0 ∧ u = [(m0, .inr (11, [.ref mh, .ref mg, .ref ms, .ref md, .ref mc, .ref mr, .int (-1), .int 0, .int 0, .int 0, .long 0, .int 0, .int 0, .int 2]))]) ∨ ((¬ okRdy n1 n2) ∧ r = 0 ∧ u = [(m0, .inr (11, [.ref mh, .ref mg, .ref ms, .ref md, .ref mc, .ref mr, .int (-1), .int 0, .int 0, .int 0, .long 0, .int 0, .int 0, .int 1]))])) := by
  intro sz
  refine Met.ofW (cc := cX11_ready) (maxL := 7) (ret := (Option.some Jvm.ClassFile.FieldType.boolean)) (by decide) rfl ?_
  intro p e s m args below meth c s₁ B hml hv
  obtain ⟨rfl, hsz, hP, hK, hD0, hT0⟩ := hv
  have hx := B.exec
  have hb := B.bytes
  have hr := B.returns
  have hts := atoms_spec (ws := (wG yX11_ready cX11_ready 7 (Option.some Jvm.ClassFile.FieldType.boolean))) B.pre
  have htg : ∀ w ∈ G9, w.before _ s = true := fun w h => hts w (List.mem_cons_of_mem _ h)
  have hown : s.vm.findClass "HeroTableModel" = some m.cls := findClass_of_methodNamed B.named
  have hlocks := B.notSynchronized
  subst hsz
  have hD := hD0.self (sz := s.heap.size)
  have hT := hT0
  clear hT0
  generalize hAe : va_A [(m0, .inr (11, [.ref mh, .ref mg, .ref ms, .ref md, .ref mc, .ref mr, .int (-1), .int 0, .int 0, .int 0, .long 0, .int 0, .int 0, .int 0]))] s.heap.size = A at hD hT ⊢
  have hA : ∀ q : Nat, s.heap.size ≤ q → A q := fun q h => by rw [← hAe]; exact Or.inr h
  obtain ⟨H, hH0⟩ : ∃ H, H = s.heap := ⟨_, rfl⟩
  have hS : va_S A s.heap H [] := by rw [hH0]; exact va_S.rf
  have hP : va_P g.1 CLS [(m0, .inr (11, [.ref mh, .ref mg, .ref ms, .ref md, .ref mc, .ref mr, .int (-1), .int 0, .int 0, .int 0, .long 0, .int 0, .int 0, .int 0]))] H := by rw [hH0]; exact hP
  rw [← hH0]
  have hl := lv_entry ([.ref m0, .int n1, .int n2]) (n := 7) (Nat.le_of_ble_eq_true rfl)
  rw [lg_entry_eq]
  generalize (lg_sl ([.ref m0, .int n1, .int n2]) ++ List.replicate (7 - (lg_sl ([.ref m0, .int n1, .int n2])).length) Slot.unset).toArray = ls at hl ⊢
  have hl : lv_has ls 7 [(0, .ref m0), (1, .int n1), (2, .int n2)] := hl
  refine lv_iload_n hx hb dX11_ready_0 rfl (lv_at hl 1 rfl) ?_
  refine lv_bipush (v := 97) hx hb dX11_ready_1 (by decide) ?_
  refine lv_icmp_ne (tgt := 18) hx hb dX11_ready_3 (by decide) (fun c_1 => ?_) (fun c_1 => ?_)
  · refine lv_iload_n hx hb dX11_ready_18 rfl (lv_at hl 1 rfl) ?_
    refine lv_bipush (v := 109) hx hb dX11_ready_19 (by decide) ?_
    refine lv_icmp_ne (tgt := 30) hx hb dX11_ready_21 (by decide) (fun c_2 => ?_) (fun c_2 => ?_)
    · refine lv_iload_n hx hb dX11_ready_30 rfl (lv_at hl 1 rfl) ?_
      refine lv_bipush (v := 99) hx hb dX11_ready_31 (by decide) ?_
      refine lv_icmp_ne (tgt := 52) hx hb dX11_ready_33 (by decide) (fun c_3 => ?_) (fun c_3 => ?_)
      · refine lv_iconst (v := 0) hx hb dX11_ready_52 (by decide) ?_
        refine lv_istore_n (lv' := [(3, .int 0), (0, .ref m0), (1, .int n1), (2, .int n2)]) hx hb dX11_ready_53 rfl hl (by decide) rfl (fun ls hl => ?_)
        refine lv_aload_n hx hb dX11_ready_54 rfl (lv_at hl 1 rfl) ?_
        refine lv_iload_n hx hb dX11_ready_55 rfl (lv_at hl 0 rfl) ?_
        refine lv_if_ne (tgt := 63) hx hb dX11_ready_56 (by decide) (fun c_4 => absurd (by decide) c_4) (fun c_4 => ?_)
        refine lv_iconst (v := 1) hx hb dX11_ready_59 (by decide) ?_
        refine lv_goto (tgt := 99) hx hb dX11_ready_60 (by decide) ?_
        refine va_put (D := g.1) (ci := 11) (v := .int 1) (ty := .int) (C := RX11) (T := TX11) (N := 14) hx hb htg inG_X11 tyX11 tyX11_ok nmX11 hown hK hP hD hS 0 rfl rfl 13 (by decide) (htg _ k1353) (fun _ h9 => h9) rfl (by decide +kernel) rfl rfl (Nat.le_of_ble_eq_true rfl) dX11_ready_99 (fun H locs hP hD hS => ?_)
        have hP : va_P g.1 CLS [(m0, .inr (11, [.ref mh, .ref mg, .ref ms, .ref md, .ref mc, .ref mr, .int (-1), .int 0, .int 0, .int 0, .long 0, .int 0, .int 0, .int 1]))] H := hP
        have hD : va_D A [(m0, .inr (11, [.ref mh, .ref mg, .ref ms, .ref md, .ref mc, .ref mr, .int (-1), .int 0, .int 0, .int 0, .long 0, .int 0, .int 0, .int 1]))] := hD
        refine lv_aload_n hx hb dX11_ready_102 rfl (lv_at hl 1 rfl) ?_
        refine va_get (D := g.1) (ci := 11) (v := .int 1) (C := RX11) (T := TX11) (N := 14) hx hb htg inG_X11 hown hK hP 0 rfl rfl 13 (by decide) (htg _ k1353) (fun _ h9 => h9) rfl dX11_ready_103 ?_
        refine lv_if_le (tgt := 111) hx hb dX11_ready_106 (by decide) (fun c_5 => absurd c_5 (by decide)) (fun c_5 => ?_)
        refine lv_iconst (v := 0) hx hb dX11_ready_109 (by decide) ?_
        have hP9 := hP.sub (ws' := [(m0, .inr (11, [.ref mh, .ref mg, .ref ms, .ref md, .ref mc, .ref mr, .int (-1), .int 0, .int 0, .int 0, .long 0, .int 0, .int 0, .int 1]))]) [0] rfl
        have hD9 := hD.sub (ws' := [(m0, .inr (11, [.ref mh, .ref mg, .ref ms, .ref md, .ref mc, .ref mr, .int (-1), .int 0, .int 0, .int 0, .long 0, .int 0, .int 0, .int 1]))]) [0] (by decide) rfl
        refine W.widen (k := 20) (n := 100) (Nat.le_of_ble_eq_true rfl) (Nat.le_of_ble_eq_true rfl) ?_
        exact W.zret (v := 0) hx hb hr rfl (fun t ht hW => ⟨⟨0, [(m0, .inr (11, [.ref mh, .ref mg, .ref ms, .ref md, .ref mc, .ref mr, .int (-1), .int 0, .int 0, .int 0, .long 0, .int 0, .int 0, .int 1]))], rfl, Or.inr (⟨by simp only [okRdy]; simp only [inR, Int32.toInt_toInt64, ll0, ll1, ll7, ll99, ll30, ll9, ll40, ll50, ll20, lln20, lln1, fa_lt, fa_le, fa_eq, li0, li1, li97, li99, li103, li109, li115, li120] at c_1 c_2 c_3 ⊢; omega, rfl, rfl⟩), by rw [ht]; exact hP9, va_K.moved hW.alike hK, hD9⟩, hS.F ht⟩) hS.2.2 dX11_ready_110
      · refine lv_iload_n hx hb dX11_ready_36 rfl (lv_at hl 2 rfl) ?_
        refine lv_bipush (v := 120) hx hb dX11_ready_37 (by decide) ?_
        refine lv_icmp_eq (tgt := 48) hx hb dX11_ready_39 (by decide) (fun c_6 => ?_) (fun c_6 => ?_)
        · refine lv_iconst (v := 1) hx hb dX11_ready_48 (by decide) ?_
          refine lv_goto (tgt := 53) hx hb dX11_ready_49 (by decide) ?_
          refine lv_istore_n (lv' := [(3, .int 1), (0, .ref m0), (1, .int n1), (2, .int n2)]) hx hb dX11_ready_53 rfl hl (by decide) rfl (fun ls hl => ?_)
          refine lv_aload_n hx hb dX11_ready_54 rfl (lv_at hl 1 rfl) ?_
          refine lv_iload_n hx hb dX11_ready_55 rfl (lv_at hl 0 rfl) ?_
          refine lv_if_ne (tgt := 63) hx hb dX11_ready_56 (by decide) (fun c_7 => ?_) (fun c_7 => absurd c_7 (by decide))
          refine lv_aload_n hx hb dX11_ready_63 rfl (lv_at hl 1 rfl) ?_
          have hPc := hP.sub (ws' := [(m0, .inr (11, [.ref mh, .ref mg, .ref ms, .ref md, .ref mc, .ref mr, .int (-1), .int 0, .int 0, .int 0, .long 0, .int 0, .int 0, .int 0]))]) [0] rfl
          have hDc := hD.sub (ws' := [(m0, .inr (11, [.ref mh, .ref mg, .ref ms, .ref md, .ref mc, .ref mr, .int (-1), .int 0, .int 0, .int 0, .long 0, .int 0, .int 0, .int 0]))]) [0] (by decide) rfl
          have hFc := va_free (wc := [(m0, .inr (11, [.ref mh, .ref mg, .ref ms, .ref md, .ref mc, .ref mr, .int (-1), .int 0, .int 0, .int 0, .long 0, .int 0, .int 0, .int 0]))]) hD hS hA [0] rfl
          refine q_ci (wr := []) (va_runV (As := []) (rest := [.ref m0]) ⟨hx, hb, hml, hown, htg⟩ (c_X11_isOn l hfl g m0 mh mg ms md mc mr  H.size) ⟨(qB htg k1413 k57 k1410 ok_X11_isOn rfl rfl ⟨Nat.le_of_ble_eq_true rfl, Nat.le_of_ble_eq_true rfl⟩), htg _ k1412, htg _ k17⟩ ⟨(q_pre [.ref m0] hPc hDc hK hS hT hFc).1, va_recv hK hP (ci := 11) (q0 := 0) rfl rfl, (q_pre [.ref m0] hPc hDc hK hS hT hFc).2⟩ rfl rfl hl.1 rfl (lv_room (Nat.le_of_ble_eq_true rfl)) dX11_ready_64 ⟨Nat.le_of_ble_eq_true rfl, Nat.le_of_ble_eq_true rfl⟩) hP hD hS hFc [0] [] rfl rfl (by decide) (by decide) (fun r9 u9 H locs hw hP hD hS => ?_)
          try dsimp only at hw
          rcases hw with ⟨rfl, rfl⟩
          have hP : va_P g.1 CLS [(m0, .inr (11, [.ref mh, .ref mg, .ref ms, .ref md, .ref mc, .ref mr, .int (-1), .int 0, .int 0, .int 0, .long 0, .int 0, .int 0, .int 0]))] H := hP
          have hD : va_D A [(m0, .inr (11, [.ref mh, .ref mg, .ref ms, .ref md, .ref mc, .ref mr, .int (-1), .int 0, .int 0, .int 0, .long 0, .int 0, .int 0, .int 0]))] := hD
          refine W.widen (k := 0) (n := 0) (Nat.le_of_ble_eq_true rfl) (Nat.le_of_ble_eq_true rfl) ?_
          refine lv_if_ne (tgt := 74) hx hb dX11_ready_67 (by decide) (fun c_8 => absurd (by decide) c_8) (fun c_8 => ?_)
          refine lv_iconst (v := 2) hx hb dX11_ready_70 (by decide) ?_
          refine lv_goto (tgt := 99) hx hb dX11_ready_71 (by decide) ?_
          refine va_put (D := g.1) (ci := 11) (v := .int 2) (ty := .int) (C := RX11) (T := TX11) (N := 14) hx hb htg inG_X11 tyX11 tyX11_ok nmX11 hown hK hP hD hS 0 rfl rfl 13 (by decide) (htg _ k1353) (fun _ h9 => h9) rfl (by decide +kernel) rfl rfl (Nat.le_of_ble_eq_true rfl) dX11_ready_99 (fun H locs hP hD hS => ?_)
          have hP : va_P g.1 CLS [(m0, .inr (11, [.ref mh, .ref mg, .ref ms, .ref md, .ref mc, .ref mr, .int (-1), .int 0, .int 0, .int 0, .long 0, .int 0, .int 0, .int 2]))] H := hP
          have hD : va_D A [(m0, .inr (11, [.ref mh, .ref mg, .ref ms, .ref md, .ref mc, .ref mr, .int (-1), .int 0, .int 0, .int 0, .long 0, .int 0, .int 0, .int 2]))] := hD
          refine lv_aload_n hx hb dX11_ready_102 rfl (lv_at hl 1 rfl) ?_
          refine va_get (D := g.1) (ci := 11) (v := .int 2) (C := RX11) (T := TX11) (N := 14) hx hb htg inG_X11 hown hK hP 0 rfl rfl 13 (by decide) (htg _ k1353) (fun _ h9 => h9) rfl dX11_ready_103 ?_
          refine lv_if_le (tgt := 111) hx hb dX11_ready_106 (by decide) (fun c_9 => absurd c_9 (by decide)) (fun c_9 => ?_)
          refine lv_iconst (v := 0) hx hb dX11_ready_109 (by decide) ?_
          have hP9 := hP.sub (ws' := [(m0, .inr (11, [.ref mh, .ref mg, .ref ms, .ref md, .ref mc, .ref mr, .int (-1), .int 0, .int 0, .int 0, .long 0, .int 0, .int 0, .int 2]))]) [0] rfl
          have hD9 := hD.sub (ws' := [(m0, .inr (11, [.ref mh, .ref mg, .ref ms, .ref md, .ref mc, .ref mr, .int (-1), .int 0, .int 0, .int 0, .long 0, .int 0, .int 0, .int 2]))]) [0] (by decide) rfl
          refine W.widen (k := 20) (n := 100) (Nat.le_of_ble_eq_true rfl) (Nat.le_of_ble_eq_true rfl) ?_
          exact W.zret (v := 0) hx hb hr rfl (fun t ht hW => ⟨⟨0, [(m0, .inr (11, [.ref mh, .ref mg, .ref ms, .ref md, .ref mc, .ref mr, .int (-1), .int 0, .int 0, .int 0, .long 0, .int 0, .int 0, .int 2]))], rfl, Or.inl ⟨by simp only [okRdy]; simp only [inR, Int32.toInt_toInt64, ll0, ll1, ll7, ll99, ll30, ll9, ll40, ll50, ll20, lln20, lln1, fa_lt, fa_le, fa_eq, li0, li1, li97, li99, li103, li109, li115, li120] at c_1 c_2 c_3 c_6 ⊢; omega, rfl, rfl⟩, by rw [ht]; exact hP9, va_K.moved hW.alike hK, hD9⟩, hS.F ht⟩) hS.2.2 dX11_ready_110
        · refine lv_iload_n hx hb dX11_ready_42 rfl (lv_at hl 2 rfl) ?_
          refine lv_bipush (v := 115) hx hb dX11_ready_43 (by decide) ?_
          refine lv_icmp_ne (tgt := 52) hx hb dX11_ready_45 (by decide) (fun c_10 => ?_) (fun c_10 => ?_)
          · refine lv_iconst (v := 0) hx hb dX11_ready_52 (by decide) ?_
            refine lv_istore_n (lv' := [(3, .int 0), (0, .ref m0), (1, .int n1), (2, .int n2)]) hx hb dX11_ready_53 rfl hl (by decide) rfl (fun ls hl => ?_)
            refine lv_aload_n hx hb dX11_ready_54 rfl (lv_at hl 1 rfl) ?_
            refine lv_iload_n hx hb dX11_ready_55 rfl (lv_at hl 0 rfl) ?_
            refine lv_if_ne (tgt := 63) hx hb dX11_ready_56 (by decide) (fun c_11 => absurd (by decide) c_11) (fun c_11 => ?_)
            refine lv_iconst (v := 1) hx hb dX11_ready_59 (by decide) ?_
            refine lv_goto (tgt := 99) hx hb dX11_ready_60 (by decide) ?_
            refine va_put (D := g.1) (ci := 11) (v := .int 1) (ty := .int) (C := RX11) (T := TX11) (N := 14) hx hb htg inG_X11 tyX11 tyX11_ok nmX11 hown hK hP hD hS 0 rfl rfl 13 (by decide) (htg _ k1353) (fun _ h9 => h9) rfl (by decide +kernel) rfl rfl (Nat.le_of_ble_eq_true rfl) dX11_ready_99 (fun H locs hP hD hS => ?_)
            have hP : va_P g.1 CLS [(m0, .inr (11, [.ref mh, .ref mg, .ref ms, .ref md, .ref mc, .ref mr, .int (-1), .int 0, .int 0, .int 0, .long 0, .int 0, .int 0, .int 1]))] H := hP
            have hD : va_D A [(m0, .inr (11, [.ref mh, .ref mg, .ref ms, .ref md, .ref mc, .ref mr, .int (-1), .int 0, .int 0, .int 0, .long 0, .int 0, .int 0, .int 1]))] := hD
            refine lv_aload_n hx hb dX11_ready_102 rfl (lv_at hl 1 rfl) ?_
            refine va_get (D := g.1) (ci := 11) (v := .int 1) (C := RX11) (T := TX11) (N := 14) hx hb htg inG_X11 hown hK hP 0 rfl rfl 13 (by decide) (htg _ k1353) (fun _ h9 => h9) rfl dX11_ready_103 ?_
            refine lv_if_le (tgt := 111) hx hb dX11_ready_106 (by decide) (fun c_12 => absurd c_12 (by decide)) (fun c_12 => ?_)
            refine lv_iconst (v := 0) hx hb dX11_ready_109 (by decide) ?_
            have hP9 := hP.sub (ws' := [(m0, .inr (11, [.ref mh, .ref mg, .ref ms, .ref md, .ref mc, .ref mr, .int (-1), .int 0, .int 0, .int 0, .long 0, .int 0, .int 0, .int 1]))]) [0] rfl
            have hD9 := hD.sub (ws' := [(m0, .inr (11, [.ref mh, .ref mg, .ref ms, .ref md, .ref mc, .ref mr, .int (-1), .int 0, .int 0, .int 0, .long 0, .int 0, .int 0, .int 1]))]) [0] (by decide) rfl
            refine W.widen (k := 20) (n := 100) (Nat.le_of_ble_eq_true rfl) (Nat.le_of_ble_eq_true rfl) ?_
            exact W.zret (v := 0) hx hb hr rfl (fun t ht hW => ⟨⟨0, [(m0, .inr (11, [.ref mh, .ref mg, .ref ms, .ref md, .ref mc, .ref mr, .int (-1), .int 0, .int 0, .int 0, .long 0, .int 0, .int 0, .int 1]))], rfl, Or.inr (⟨by simp only [okRdy]; simp only [inR, Int32.toInt_toInt64, ll0, ll1, ll7, ll99, ll30, ll9, ll40, ll50, ll20, lln20, lln1, fa_lt, fa_le, fa_eq, li0, li1, li97, li99, li103, li109, li115, li120] at c_1 c_2 c_3 c_6 c_10 ⊢; omega, rfl, rfl⟩), by rw [ht]; exact hP9, va_K.moved hW.alike hK, hD9⟩, hS.F ht⟩) hS.2.2 dX11_ready_110
          · refine lv_iconst (v := 1) hx hb dX11_ready_48 (by decide) ?_
            refine lv_goto (tgt := 53) hx hb dX11_ready_49 (by decide) ?_
            refine lv_istore_n (lv' := [(3, .int 1), (0, .ref m0), (1, .int n1), (2, .int n2)]) hx hb dX11_ready_53 rfl hl (by decide) rfl (fun ls hl => ?_)
            refine lv_aload_n hx hb dX11_ready_54 rfl (lv_at hl 1 rfl) ?_
            refine lv_iload_n hx hb dX11_ready_55 rfl (lv_at hl 0 rfl) ?_
            refine lv_if_ne (tgt := 63) hx hb dX11_ready_56 (by decide) (fun c_13 => ?_) (fun c_13 => absurd c_13 (by decide))
            refine lv_aload_n hx hb dX11_ready_63 rfl (lv_at hl 1 rfl) ?_
            have hPc := hP.sub (ws' := [(m0, .inr (11, [.ref mh, .ref mg, .ref ms, .ref md, .ref mc, .ref mr, .int (-1), .int 0, .int 0, .int 0, .long 0, .int 0, .int 0, .int 0]))]) [0] rfl
            have hDc := hD.sub (ws' := [(m0, .inr (11, [.ref mh, .ref mg, .ref ms, .ref md, .ref mc, .ref mr, .int (-1), .int 0, .int 0, .int 0, .long 0, .int 0, .int 0, .int 0]))]) [0] (by decide) rfl
            have hFc := va_free (wc := [(m0, .inr (11, [.ref mh, .ref mg, .ref ms, .ref md, .ref mc, .ref mr, .int (-1), .int 0, .int 0, .int 0, .long 0, .int 0, .int 0, .int 0]))]) hD hS hA [0] rfl
            refine q_ci (wr := []) (va_runV (As := []) (rest := [.ref m0]) ⟨hx, hb, hml, hown, htg⟩ (c_X11_isOn l hfl g m0 mh mg ms md mc mr  H.size) ⟨(qB htg k1413 k57 k1410 ok_X11_isOn rfl rfl ⟨Nat.le_of_ble_eq_true rfl, Nat.le_of_ble_eq_true rfl⟩), htg _ k1412, htg _ k17⟩ ⟨(q_pre [.ref m0] hPc hDc hK hS hT hFc).1, va_recv hK hP (ci := 11) (q0 := 0) rfl rfl, (q_pre [.ref m0] hPc hDc hK hS hT hFc).2⟩ rfl rfl hl.1 rfl (lv_room (Nat.le_of_ble_eq_true rfl)) dX11_ready_64 ⟨Nat.le_of_ble_eq_true rfl, Nat.le_of_ble_eq_true rfl⟩) hP hD hS hFc [0] [] rfl rfl (by decide) (by decide) (fun r9 u9 H locs hw hP hD hS => ?_)
            try dsimp only at hw
            rcases hw with ⟨rfl, rfl⟩
            have hP : va_P g.1 CLS [(m0, .inr (11, [.ref mh, .ref mg, .ref ms, .ref md, .ref mc, .ref mr, .int (-1), .int 0, .int 0, .int 0, .long 0, .int 0, .int 0, .int 0]))] H := hP
            have hD : va_D A [(m0, .inr (11, [.ref mh, .ref mg, .ref ms, .ref md, .ref mc, .ref mr, .int (-1), .int 0, .int 0, .int 0, .long 0, .int 0, .int 0, .int 0]))] := hD
            refine W.widen (k := 0) (n := 0) (Nat.le_of_ble_eq_true rfl) (Nat.le_of_ble_eq_true rfl) ?_
            refine lv_if_ne (tgt := 74) hx hb dX11_ready_67 (by decide) (fun c_14 => absurd (by decide) c_14) (fun c_14 => ?_)
            refine lv_iconst (v := 2) hx hb dX11_ready_70 (by decide) ?_
            refine lv_goto (tgt := 99) hx hb dX11_ready_71 (by decide) ?_
            refine va_put (D := g.1) (ci := 11) (v := .int 2) (ty := .int) (C := RX11) (T := TX11) (N := 14) hx hb htg inG_X11 tyX11 tyX11_ok nmX11 hown hK hP hD hS 0 rfl rfl 13 (by decide) (htg _ k1353) (fun _ h9 => h9) rfl (by decide +kernel) rfl rfl (Nat.le_of_ble_eq_true rfl) dX11_ready_99 (fun H locs hP hD hS => ?_)
            have hP : va_P g.1 CLS [(m0, .inr (11, [.ref mh, .ref mg, .ref ms, .ref md, .ref mc, .ref mr, .int (-1), .int 0, .int 0, .int 0, .long 0, .int 0, .int 0, .int 2]))] H := hP
            have hD : va_D A [(m0, .inr (11, [.ref mh, .ref mg, .ref ms, .ref md, .ref mc, .ref mr, .int (-1), .int 0, .int 0, .int 0, .long 0, .int 0, .int 0, .int 2]))] := hD
            refine lv_aload_n hx hb dX11_ready_102 rfl (lv_at hl 1 rfl) ?_
            refine va_get (D := g.1) (ci := 11) (v := .int 2) (C := RX11) (T := TX11) (N := 14) hx hb htg inG_X11 hown hK hP 0 rfl rfl 13 (by decide) (htg _ k1353) (fun _ h9 => h9) rfl dX11_ready_103 ?_
            refine lv_if_le (tgt := 111) hx hb dX11_ready_106 (by decide) (fun c_15 => absurd c_15 (by decide)) (fun c_15 => ?_)
            refine lv_iconst (v := 0) hx hb dX11_ready_109 (by decide) ?_
            have hP9 := hP.sub (ws' := [(m0, .inr (11, [.ref mh, .ref mg, .ref ms, .ref md, .ref mc, .ref mr, .int (-1), .int 0, .int 0, .int 0, .long 0, .int 0, .int 0, .int 2]))]) [0] rfl
            have hD9 := hD.sub (ws' := [(m0, .inr (11, [.ref mh, .ref mg, .ref ms, .ref md, .ref mc, .ref mr, .int (-1), .int 0, .int 0, .int 0, .long 0, .int 0, .int 0, .int 2]))]) [0] (by decide) rfl
            refine W.widen (k := 20) (n := 100) (Nat.le_of_ble_eq_true rfl) (Nat.le_of_ble_eq_true rfl) ?_
            exact W.zret (v := 0) hx hb hr rfl (fun t ht hW => ⟨⟨0, [(m0, .inr (11, [.ref mh, .ref mg, .ref ms, .ref md, .ref mc, .ref mr, .int (-1), .int 0, .int 0, .int 0, .long 0, .int 0, .int 0, .int 2]))], rfl, Or.inl ⟨by simp only [okRdy]; simp only [inR, Int32.toInt_toInt64, ll0, ll1, ll7, ll99, ll30, ll9, ll40, ll50, ll20, lln20, lln1, fa_lt, fa_le, fa_eq, li0, li1, li97, li99, li103, li109, li115, li120] at c_1 c_2 c_3 c_6 c_10 ⊢; omega, rfl, rfl⟩, by rw [ht]; exact hP9, va_K.moved hW.alike hK, hD9⟩, hS.F ht⟩) hS.2.2 dX11_ready_110
    · refine lv_iload_n hx hb dX11_ready_24 rfl (lv_at hl 2 rfl) ?_
      refine lv_bipush (v := 115) hx hb dX11_ready_25 (by decide) ?_
      refine lv_icmp_eq (tgt := 48) hx hb dX11_ready_27 (by decide) (fun c_16 => ?_) (fun c_16 => ?_)
      · refine lv_iconst (v := 1) hx hb dX11_ready_48 (by decide) ?_
        refine lv_goto (tgt := 53) hx hb dX11_ready_49 (by decide) ?_
        refine lv_istore_n (lv' := [(3, .int 1), (0, .ref m0), (1, .int n1), (2, .int n2)]) hx hb dX11_ready_53 rfl hl (by decide) rfl (fun ls hl => ?_)
        refine lv_aload_n hx hb dX11_ready_54 rfl (lv_at hl 1 rfl) ?_
        refine lv_iload_n hx hb dX11_ready_55 rfl (lv_at hl 0 rfl) ?_
        refine lv_if_ne (tgt := 63) hx hb dX11_ready_56 (by decide) (fun c_17 => ?_) (fun c_17 => absurd c_17 (by decide))
        refine lv_aload_n hx hb dX11_ready_63 rfl (lv_at hl 1 rfl) ?_
        have hPc := hP.sub (ws' := [(m0, .inr (11, [.ref mh, .ref mg, .ref ms, .ref md, .ref mc, .ref mr, .int (-1), .int 0, .int 0, .int 0, .long 0, .int 0, .int 0, .int 0]))]) [0] rfl
        have hDc := hD.sub (ws' := [(m0, .inr (11, [.ref mh, .ref mg, .ref ms, .ref md, .ref mc, .ref mr, .int (-1), .int 0, .int 0, .int 0, .long 0, .int 0, .int 0, .int 0]))]) [0] (by decide) rfl
        have hFc := va_free (wc := [(m0, .inr (11, [.ref mh, .ref mg, .ref ms, .ref md, .ref mc, .ref mr, .int (-1), .int 0, .int 0, .int 0, .long 0, .int 0, .int 0, .int 0]))]) hD hS hA [0] rfl
        refine q_ci (wr := []) (va_runV (As := []) (rest := [.ref m0]) ⟨hx, hb, hml, hown, htg⟩ (c_X11_isOn l hfl g m0 mh mg ms md mc mr  H.size) ⟨(qB htg k1413 k57 k1410 ok_X11_isOn rfl rfl ⟨Nat.le_of_ble_eq_true rfl, Nat.le_of_ble_eq_true rfl⟩), htg _ k1412, htg _ k17⟩ ⟨(q_pre [.ref m0] hPc hDc hK hS hT hFc).1, va_recv hK hP (ci := 11) (q0 := 0) rfl rfl, (q_pre [.ref m0] hPc hDc hK hS hT hFc).2⟩ rfl rfl hl.1 rfl (lv_room (Nat.le_of_ble_eq_true rfl)) dX11_ready_64 ⟨Nat.le_of_ble_eq_true rfl, Nat.le_of_ble_eq_true rfl⟩) hP hD hS hFc [0] [] rfl rfl (by decide) (by decide) (fun r9 u9 H locs hw hP hD hS => ?_)
        try dsimp only at hw
        rcases hw with ⟨rfl, rfl⟩
        have hP : va_P g.1 CLS [(m0, .inr (11, [.ref mh, .ref mg, .ref ms, .ref md, .ref mc, .ref mr, .int (-1), .int 0, .int 0, .int 0, .long 0, .int 0, .int 0, .int 0]))] H := hP
        have hD : va_D A [(m0, .inr (11, [.ref mh, .ref mg, .ref ms, .ref md, .ref mc, .ref mr, .int (-1), .int 0, .int 0, .int 0, .long 0, .int 0, .int 0, .int 0]))] := hD
        refine W.widen (k := 0) (n := 0) (Nat.le_of_ble_eq_true rfl) (Nat.le_of_ble_eq_true rfl) ?_
        refine lv_if_ne (tgt := 74) hx hb dX11_ready_67 (by decide) (fun c_18 => absurd (by decide) c_18) (fun c_18 => ?_)
        refine lv_iconst (v := 2) hx hb dX11_ready_70 (by decide) ?_
        refine lv_goto (tgt := 99) hx hb dX11_ready_71 (by decide) ?_
        refine va_put (D := g.1) (ci := 11) (v := .int 2) (ty := .int) (C := RX11) (T := TX11) (N := 14) hx hb htg inG_X11 tyX11 tyX11_ok nmX11 hown hK hP hD hS 0 rfl rfl 13 (by decide) (htg _ k1353) (fun _ h9 => h9) rfl (by decide +kernel) rfl rfl (Nat.le_of_ble_eq_true rfl) dX11_ready_99 (fun H locs hP hD hS => ?_)
        have hP : va_P g.1 CLS [(m0, .inr (11, [.ref mh, .ref mg, .ref ms, .ref md, .ref mc, .ref mr, .int (-1), .int 0, .int 0, .int 0, .long 0, .int 0, .int 0, .int 2]))] H := hP
        have hD : va_D A [(m0, .inr (11, [.ref mh, .ref mg, .ref ms, .ref md, .ref mc, .ref mr, .int (-1), .int 0, .int 0, .int 0, .long 0, .int 0, .int 0, .int 2]))] := hD
        refine lv_aload_n hx hb dX11_ready_102 rfl (lv_at hl 1 rfl) ?_
        refine va_get (D := g.1) (ci := 11) (v := .int 2) (C := RX11) (T := TX11) (N := 14) hx hb htg inG_X11 hown hK hP 0 rfl rfl 13 (by decide) (htg _ k1353) (fun _ h9 => h9) rfl dX11_ready_103 ?_
        refine lv_if_le (tgt := 111) hx hb dX11_ready_106 (by decide) (fun c_19 => absurd c_19 (by decide)) (fun c_19 => ?_)
        refine lv_iconst (v := 0) hx hb dX11_ready_109 (by decide) ?_
        have hP9 := hP.sub (ws' := [(m0, .inr (11, [.ref mh, .ref mg, .ref ms, .ref md, .ref mc, .ref mr, .int (-1), .int 0, .int 0, .int 0, .long 0, .int 0, .int 0, .int 2]))]) [0] rfl
        have hD9 := hD.sub (ws' := [(m0, .inr (11, [.ref mh, .ref mg, .ref ms, .ref md, .ref mc, .ref mr, .int (-1), .int 0, .int 0, .int 0, .long 0, .int 0, .int 0, .int 2]))]) [0] (by decide) rfl
        refine W.widen (k := 20) (n := 100) (Nat.le_of_ble_eq_true rfl) (Nat.le_of_ble_eq_true rfl) ?_
        exact W.zret (v := 0) hx hb hr rfl (fun t ht hW => ⟨⟨0, [(m0, .inr (11, [.ref mh, .ref mg, .ref ms, .ref md, .ref mc, .ref mr, .int (-1), .int 0, .int 0, .int 0, .long 0, .int 0, .int 0, .int 2]))], rfl, Or.inl ⟨by simp only [okRdy]; simp only [inR, Int32.toInt_toInt64, ll0, ll1, ll7, ll99, ll30, ll9, ll40, ll50, ll20, lln20, lln1, fa_lt, fa_le, fa_eq, li0, li1, li97, li99, li103, li109, li115, li120] at c_1 c_2 c_16 ⊢; omega, rfl, rfl⟩, by rw [ht]; exact hP9, va_K.moved hW.alike hK, hD9⟩, hS.F ht⟩) hS.2.2 dX11_ready_110
      · refine lv_iload_n hx hb dX11_ready_30 rfl (lv_at hl 1 rfl) ?_
        refine lv_bipush (v := 99) hx hb dX11_ready_31 (by decide) ?_
        refine lv_icmp_ne (tgt := 52) hx hb dX11_ready_33 (by decide) (fun c_20 => ?_) (fun c_20 => ?_)
        · refine lv_iconst (v := 0) hx hb dX11_ready_52 (by decide) ?_
          refine lv_istore_n (lv' := [(3, .int 0), (0, .ref m0), (1, .int n1), (2, .int n2)]) hx hb dX11_ready_53 rfl hl (by decide) rfl (fun ls hl => ?_)
          refine lv_aload_n hx hb dX11_ready_54 rfl (lv_at hl 1 rfl) ?_
          refine lv_iload_n hx hb dX11_ready_55 rfl (lv_at hl 0 rfl) ?_
          refine lv_if_ne (tgt := 63) hx hb dX11_ready_56 (by decide) (fun c_21 => absurd (by decide) c_21) (fun c_21 => ?_)
          refine lv_iconst (v := 1) hx hb dX11_ready_59 (by decide) ?_
          refine lv_goto (tgt := 99) hx hb dX11_ready_60 (by decide) ?_
          refine va_put (D := g.1) (ci := 11) (v := .int 1) (ty := .int) (C := RX11) (T := TX11) (N := 14) hx hb htg inG_X11 tyX11 tyX11_ok nmX11 hown hK hP hD hS 0 rfl rfl 13 (by decide) (htg _ k1353) (fun _ h9 => h9) rfl (by decide +kernel) rfl rfl (Nat.le_of_ble_eq_true rfl) dX11_ready_99 (fun H locs hP hD hS => ?_)
          have hP : va_P g.1 CLS [(m0, .inr (11, [.ref mh, .ref mg, .ref ms, .ref md, .ref mc, .ref mr, .int (-1), .int 0, .int 0, .int 0, .long 0, .int 0, .int 0, .int 1]))] H := hP
          have hD : va_D A [(m0, .inr (11, [.ref mh, .ref mg, .ref ms, .ref md, .ref mc, .ref mr, .int (-1), .int 0, .int 0, .int 0, .long 0, .int 0, .int 0, .int 1]))] := hD
          refine lv_aload_n hx hb dX11_ready_102 rfl (lv_at hl 1 rfl) ?_
          refine va_get (D := g.1) (ci := 11) (v := .int 1) (C := RX11) (T := TX11) (N := 14) hx hb htg inG_X11 hown hK hP 0 rfl rfl 13 (by decide) (htg _ k1353) (fun _ h9 => h9) rfl dX11_ready_103 ?_
          refine lv_if_le (tgt := 111) hx hb dX11_ready_106 (by decide) (fun c_22 => absurd c_22 (by decide)) (fun c_22 => ?_)
          refine lv_iconst (v := 0) hx hb dX11_ready_109 (by decide) ?_
          have hP9 := hP.sub (ws' := [(m0, .inr (11, [.ref mh, .ref mg, .ref ms, .ref md, .ref mc, .ref mr, .int (-1), .int 0, .int 0, .int 0, .long 0, .int 0, .int 0, .int 1]))]) [0] rfl
          have hD9 := hD.sub (ws' := [(m0, .inr (11, [.ref mh, .ref mg, .ref ms, .ref md, .ref mc, .ref mr, .int (-1), .int 0, .int 0, .int 0, .long 0, .int 0, .int 0, .int 1]))]) [0] (by decide) rfl
          refine W.widen (k := 20) (n := 100) (Nat.le_of_ble_eq_true rfl) (Nat.le_of_ble_eq_true rfl) ?_
          exact W.zret (v := 0) hx hb hr rfl (fun t ht hW => ⟨⟨0, [(m0, .inr (11, [.ref mh, .ref mg, .ref ms, .ref md, .ref mc, .ref mr, .int (-1), .int 0, .int 0, .int 0, .long 0, .int 0, .int 0, .int 1]))], rfl, Or.inr (⟨by simp only [okRdy]; simp only [inR, Int32.toInt_toInt64, ll0, ll1, ll7, ll99, ll30, ll9, ll40, ll50, ll20, lln20, lln1, fa_lt, fa_le, fa_eq, li0, li1, li97, li99, li103, li109, li115, li120] at c_1 c_2 c_16 c_20 ⊢; omega, rfl, rfl⟩), by rw [ht]; exact hP9, va_K.moved hW.alike hK, hD9⟩, hS.F ht⟩) hS.2.2 dX11_ready_110
        · refine lv_iload_n hx hb dX11_ready_36 rfl (lv_at hl 2 rfl) ?_
          refine lv_bipush (v := 120) hx hb dX11_ready_37 (by decide) ?_
          refine lv_icmp_eq (tgt := 48) hx hb dX11_ready_39 (by decide) (fun c_23 => ?_) (fun c_23 => ?_)
          · refine lv_iconst (v := 1) hx hb dX11_ready_48 (by decide) ?_
            refine lv_goto (tgt := 53) hx hb dX11_ready_49 (by decide) ?_
            refine lv_istore_n (lv' := [(3, .int 1), (0, .ref m0), (1, .int n1), (2, .int n2)]) hx hb dX11_ready_53 rfl hl (by decide) rfl (fun ls hl => ?_)
            refine lv_aload_n hx hb dX11_ready_54 rfl (lv_at hl 1 rfl) ?_
            refine lv_iload_n hx hb dX11_ready_55 rfl (lv_at hl 0 rfl) ?_
            refine lv_if_ne (tgt := 63) hx hb dX11_ready_56 (by decide) (fun c_24 => ?_) (fun c_24 => absurd c_24 (by decide))
            refine lv_aload_n hx hb dX11_ready_63 rfl (lv_at hl 1 rfl) ?_
            have hPc := hP.sub (ws' := [(m0, .inr (11, [.ref mh, .ref mg, .ref ms, .ref md, .ref mc, .ref mr, .int (-1), .int 0, .int 0, .int 0, .long 0, .int 0, .int 0, .int 0]))]) [0] rfl
            have hDc := hD.sub (ws' := [(m0, .inr (11, [.ref mh, .ref mg, .ref ms, .ref md, .ref mc, .ref mr, .int (-1), .int 0, .int 0, .int 0, .long 0, .int 0, .int 0, .int 0]))]) [0] (by decide) rfl
            have hFc := va_free (wc := [(m0, .inr (11, [.ref mh, .ref mg, .ref ms, .ref md, .ref mc, .ref mr, .int (-1), .int 0, .int 0, .int 0, .long 0, .int 0, .int 0, .int 0]))]) hD hS hA [0] rfl
            refine q_ci (wr := []) (va_runV (As := []) (rest := [.ref m0]) ⟨hx, hb, hml, hown, htg⟩ (c_X11_isOn l hfl g m0 mh mg ms md mc mr  H.size) ⟨(qB htg k1413 k57 k1410 ok_X11_isOn rfl rfl ⟨Nat.le_of_ble_eq_true rfl, Nat.le_of_ble_eq_true rfl⟩), htg _ k1412, htg _ k17⟩ ⟨(q_pre [.ref m0] hPc hDc hK hS hT hFc).1, va_recv hK hP (ci := 11) (q0 := 0) rfl rfl, (q_pre [.ref m0] hPc hDc hK hS hT hFc).2⟩ rfl rfl hl.1 rfl (lv_room (Nat.le_of_ble_eq_true rfl)) dX11_ready_64 ⟨Nat.le_of_ble_eq_true rfl, Nat.le_of_ble_eq_true rfl⟩) hP hD hS hFc [0] [] rfl rfl (by decide) (by decide) (fun r9 u9 H locs hw hP hD hS => ?_)
            try dsimp only at hw
            rcases hw with ⟨rfl, rfl⟩
            have hP : va_P g.1 CLS [(m0, .inr (11, [.ref mh, .ref mg, .ref ms, .ref md, .ref mc, .ref mr, .int (-1), .int 0, .int 0, .int 0, .long 0, .int 0, .int 0, .int 0]))] H := hP
            have hD : va_D A [(m0, .inr (11, [.ref mh, .ref mg, .ref ms, .ref md, .ref mc, .ref mr, .int (-1), .int 0, .int 0, .int 0, .long 0, .int 0, .int 0, .int 0]))] := hD
            refine W.widen (k := 0) (n := 0) (Nat.le_of_ble_eq_true rfl) (Nat.le_of_ble_eq_true rfl) ?_
            refine lv_if_ne (tgt := 74) hx hb dX11_ready_67 (by decide) (fun c_25 => absurd (by decide) c_25) (fun c_25 => ?_)
            refine lv_iconst (v := 2) hx hb dX11_ready_70 (by decide) ?_
            refine lv_goto (tgt := 99) hx hb dX11_ready_71 (by decide) ?_
            refine va_put (D := g.1) (ci := 11) (v := .int 2) (ty := .int) (C := RX11) (T := TX11) (N := 14) hx hb htg inG_X11 tyX11 tyX11_ok nmX11 hown hK hP hD hS 0 rfl rfl 13 (by decide) (htg _ k1353) (fun _ h9 => h9) rfl (by decide +kernel) rfl rfl (Nat.le_of_ble_eq_true rfl) dX11_ready_99 (fun H locs hP hD hS => ?_)
            have hP : va_P g.1 CLS [(m0, .inr (11, [.ref mh, .ref mg, .ref ms, .ref md, .ref mc, .ref mr, .int (-1), .int 0, .int 0, .int 0, .long 0, .int 0, .int 0, .int 2]))] H := hP
            have hD : va_D A [(m0, .inr (11, [.ref mh, .ref mg, .ref ms, .ref md, .ref mc, .ref mr, .int (-1), .int 0, .int 0, .int 0, .long 0, .int 0, .int 0, .int 2]))] := hD
            refine lv_aload_n hx hb dX11_ready_102 rfl (lv_at hl 1 rfl) ?_
            refine va_get (D := g.1) (ci := 11) (v := .int 2) (C := RX11) (T := TX11) (N := 14) hx hb htg inG_X11 hown hK hP 0 rfl rfl 13 (by decide) (htg _ k1353) (fun _ h9 => h9) rfl dX11_ready_103 ?_
            refine lv_if_le (tgt := 111) hx hb dX11_ready_106 (by decide) (fun c_26 => absurd c_26 (by decide)) (fun c_26 => ?_)
            refine lv_iconst (v := 0) hx hb dX11_ready_109 (by decide) ?_
            have hP9 := hP.sub (ws' := [(m0, .inr (11, [.ref mh, .ref mg, .ref ms, .ref md, .ref mc, .ref mr, .int (-1), .int 0, .int 0, .int 0, .long 0, .int 0, .int 0, .int 2]))]) [0] rfl
            have hD9 := hD.sub (ws' := [(m0, .inr (11, [.ref mh, .ref mg, .ref ms, .ref md, .ref mc, .ref mr, .int (-1), .int 0, .int 0, .int 0, .long 0, .int 0, .int 0, .int 2]))]) [0] (by decide) rfl
            refine W.widen (k := 20) (n := 100) (Nat.le_of_ble_eq_true rfl) (Nat.le_of_ble_eq_true rfl) ?_
            exact W.zret (v := 0) hx hb hr rfl (fun t ht hW => ⟨⟨0, [(m0, .inr (11, [.ref mh, .ref mg, .ref ms, .ref md, .ref mc, .ref mr, .int (-1), .int 0, .int 0, .int 0, .long 0, .int 0, .int 0, .int 2]))], rfl, Or.inl ⟨by simp only [okRdy]; simp only [inR, Int32.toInt_toInt64, ll0, ll1, ll7, ll99, ll30, ll9, ll40, ll50, ll20, lln20, lln1, fa_lt, fa_le, fa_eq, li0, li1, li97, li99, li103, li109, li115, li120] at c_1 c_2 c_16 c_20 c_23 ⊢; omega, rfl, rfl⟩, by rw [ht]; exact hP9, va_K.moved hW.alike hK, hD9⟩, hS.F ht⟩) hS.2.2 dX11_ready_110
          · refine lv_iload_n hx hb dX11_ready_42 rfl (lv_at hl 2 rfl) ?_
            refine lv_bipush (v := 115) hx hb dX11_ready_43 (by decide) ?_
            refine lv_icmp_ne (tgt := 52) hx hb dX11_ready_45 (by decide) (fun c_27 => ?_) (fun c_27 => ?_)
            · refine lv_iconst (v := 0) hx hb dX11_ready_52 (by decide) ?_
              refine lv_istore_n (lv' := [(3, .int 0), (0, .ref m0), (1, .int n1), (2, .int n2)]) hx hb dX11_ready_53 rfl hl (by decide) rfl (fun ls hl => ?_)
              refine lv_aload_n hx hb dX11_ready_54 rfl (lv_at hl 1 rfl) ?_
              refine lv_iload_n hx hb dX11_ready_55 rfl (lv_at hl 0 rfl) ?_
              refine lv_if_ne (tgt := 63) hx hb dX11_ready_56 (by decide) (fun c_28 => absurd (by decide) c_28) (fun c_28 => ?_)
              refine lv_iconst (v := 1) hx hb dX11_ready_59 (by decide) ?_
              refine lv_goto (tgt := 99) hx hb dX11_ready_60 (by decide) ?_
              refine va_put (D := g.1) (ci := 11) (v := .int 1) (ty := .int) (C := RX11) (T := TX11) (N := 14) hx hb htg inG_X11 tyX11 tyX11_ok nmX11 hown hK hP hD hS 0 rfl rfl 13 (by decide) (htg _ k1353) (fun _ h9 => h9) rfl (by decide +kernel) rfl rfl (Nat.le_of_ble_eq_true rfl) dX11_ready_99 (fun H locs hP hD hS => ?_)
              have hP : va_P g.1 CLS [(m0, .inr (11, [.ref mh, .ref mg, .ref ms, .ref md, .ref mc, .ref mr, .int (-1), .int 0, .int 0, .int 0, .long 0, .int 0, .int 0, .int 1]))] H := hP
              have hD : va_D A [(m0, .inr (11, [.ref mh, .ref mg, .ref ms, .ref md, .ref mc, .ref mr, .int (-1), .int 0, .int 0, .int 0, .long 0, .int 0, .int 0, .int 1]))] := hD
              refine lv_aload_n hx hb dX11_ready_102 rfl (lv_at hl 1 rfl) ?_
              refine va_get (D := g.1) (ci := 11) (v := .int 1) (C := RX11) (T := TX11) (N := 14) hx hb htg inG_X11 hown hK hP 0 rfl rfl 13 (by decide) (htg _ k1353) (fun _ h9 => h9) rfl dX11_ready_103 ?_
              refine lv_if_le (tgt := 111) hx hb dX11_ready_106 (by decide) (fun c_29 => absurd c_29 (by decide)) (fun c_29 => ?_)
              refine lv_iconst (v := 0) hx hb dX11_ready_109 (by decide) ?_
              have hP9 := hP.sub (ws' := [(m0, .inr (11, [.ref mh, .ref mg, .ref ms, .ref md, .ref mc, .ref mr, .int (-1), .int 0, .int 0, .int 0, .long 0, .int 0, .int 0, .int 1]))]) [0] rfl
              have hD9 := hD.sub (ws' := [(m0, .inr (11, [.ref mh, .ref mg, .ref ms, .ref md, .ref mc, .ref mr, .int (-1), .int 0, .int 0, .int 0, .long 0, .int 0, .int 0, .int 1]))]) [0] (by decide) rfl
              refine W.widen (k := 20) (n := 100) (Nat.le_of_ble_eq_true rfl) (Nat.le_of_ble_eq_true rfl) ?_
              exact W.zret (v := 0) hx hb hr rfl (fun t ht hW => ⟨⟨0, [(m0, .inr (11, [.ref mh, .ref mg, .ref ms, .ref md, .ref mc, .ref mr, .int (-1), .int 0, .int 0, .int 0, .long 0, .int 0, .int 0, .int 1]))], rfl, Or.inr (⟨by simp only [okRdy]; simp only [inR, Int32.toInt_toInt64, ll0, ll1, ll7, ll99, ll30, ll9, ll40, ll50, ll20, lln20, lln1, fa_lt, fa_le, fa_eq, li0, li1, li97, li99, li103, li109, li115, li120] at c_1 c_2 c_16 c_20 c_23 c_27 ⊢; omega, rfl, rfl⟩), by rw [ht]; exact hP9, va_K.moved hW.alike hK, hD9⟩, hS.F ht⟩) hS.2.2 dX11_ready_110
            · refine lv_iconst (v := 1) hx hb dX11_ready_48 (by decide) ?_
              refine lv_goto (tgt := 53) hx hb dX11_ready_49 (by decide) ?_
              refine lv_istore_n (lv' := [(3, .int 1), (0, .ref m0), (1, .int n1), (2, .int n2)]) hx hb dX11_ready_53 rfl hl (by decide) rfl (fun ls hl => ?_)
              refine lv_aload_n hx hb dX11_ready_54 rfl (lv_at hl 1 rfl) ?_
              refine lv_iload_n hx hb dX11_ready_55 rfl (lv_at hl 0 rfl) ?_
              refine lv_if_ne (tgt := 63) hx hb dX11_ready_56 (by decide) (fun c_30 => ?_) (fun c_30 => absurd c_30 (by decide))
              refine lv_aload_n hx hb dX11_ready_63 rfl (lv_at hl 1 rfl) ?_
              have hPc := hP.sub (ws' := [(m0, .inr (11, [.ref mh, .ref mg, .ref ms, .ref md, .ref mc, .ref mr, .int (-1), .int 0, .int 0, .int 0, .long 0, .int 0, .int 0, .int 0]))]) [0] rfl
              have hDc := hD.sub (ws' := [(m0, .inr (11, [.ref mh, .ref mg, .ref ms, .ref md, .ref mc, .ref mr, .int (-1), .int 0, .int 0, .int 0, .long 0, .int 0, .int 0, .int 0]))]) [0] (by decide) rfl
              have hFc := va_free (wc := [(m0, .inr (11, [.ref mh, .ref mg, .ref ms, .ref md, .ref mc, .ref mr, .int (-1), .int 0, .int 0, .int 0, .long 0, .int 0, .int 0, .int 0]))]) hD hS hA [0] rfl
              refine q_ci (wr := []) (va_runV (As := []) (rest := [.ref m0]) ⟨hx, hb, hml, hown, htg⟩ (c_X11_isOn l hfl g m0 mh mg ms md mc mr  H.size) ⟨(qB htg k1413 k57 k1410 ok_X11_isOn rfl rfl ⟨Nat.le_of_ble_eq_true rfl, Nat.le_of_ble_eq_true rfl⟩), htg _ k1412, htg _ k17⟩ ⟨(q_pre [.ref m0] hPc hDc hK hS hT hFc).1, va_recv hK hP (ci := 11) (q0 := 0) rfl rfl, (q_pre [.ref m0] hPc hDc hK hS hT hFc).2⟩ rfl rfl hl.1 rfl (lv_room (Nat.le_of_ble_eq_true rfl)) dX11_ready_64 ⟨Nat.le_of_ble_eq_true rfl, Nat.le_of_ble_eq_true rfl⟩) hP hD hS hFc [0] [] rfl rfl (by decide) (by decide) (fun r9 u9 H locs hw hP hD hS => ?_)
              try dsimp only at hw
              rcases hw with ⟨rfl, rfl⟩
              have hP : va_P g.1 CLS [(m0, .inr (11, [.ref mh, .ref mg, .ref ms, .ref md, .ref mc, .ref mr, .int (-1), .int 0, .int 0, .int 0, .long 0, .int 0, .int 0, .int 0]))] H := hP
              have hD : va_D A [(m0, .inr (11, [.ref mh, .ref mg, .ref ms, .ref md, .ref mc, .ref mr, .int (-1), .int 0, .int 0, .int 0, .long 0, .int 0, .int 0, .int 0]))] := hD
              refine W.widen (k := 0) (n := 0) (Nat.le_of_ble_eq_true rfl) (Nat.le_of_ble_eq_true rfl) ?_
              refine lv_if_ne (tgt := 74) hx hb dX11_ready_67 (by decide) (fun c_31 => absurd (by decide) c_31) (fun c_31 => ?_)
              refine lv_iconst (v := 2) hx hb dX11_ready_70 (by decide) ?_
              refine lv_goto (tgt := 99) hx hb dX11_ready_71 (by decide) ?_
              refine va_put (D := g.1) (ci := 11) (v := .int 2) (ty := .int) (C := RX11) (T := TX11) (N := 14) hx hb htg inG_X11 tyX11 tyX11_ok nmX11 hown hK hP hD hS 0 rfl rfl 13 (by decide) (htg _ k1353) (fun _ h9 => h9) rfl (by decide +kernel) rfl rfl (Nat.le_of_ble_eq_true rfl) dX11_ready_99 (fun H locs hP hD hS => ?_)
              have hP : va_P g.1 CLS [(m0, .inr (11, [.ref mh, .ref mg, .ref ms, .ref md, .ref mc, .ref mr, .int (-1), .int 0, .int 0, .int 0, .long 0, .int 0, .int 0, .int 2]))] H := hP
              have hD : va_D A [(m0, .inr (11, [.ref mh, .ref mg, .ref ms, .ref md, .ref mc, .ref mr, .int (-1), .int 0, .int 0, .int 0, .long 0, .int 0, .int 0, .int 2]))] := hD
              refine lv_aload_n hx hb dX11_ready_102 rfl (lv_at hl 1 rfl) ?_
              refine va_get (D := g.1) (ci := 11) (v := .int 2) (C := RX11) (T := TX11) (N := 14) hx hb htg inG_X11 hown hK hP 0 rfl rfl 13 (by decide) (htg _ k1353) (fun _ h9 => h9) rfl dX11_ready_103 ?_
              refine lv_if_le (tgt := 111) hx hb dX11_ready_106 (by decide) (fun c_32 => absurd c_32 (by decide)) (fun c_32 => ?_)
              refine lv_iconst (v := 0) hx hb dX11_ready_109 (by decide) ?_
              have hP9 := hP.sub (ws' := [(m0, .inr (11, [.ref mh, .ref mg, .ref ms, .ref md, .ref mc, .ref mr, .int (-1), .int 0, .int 0, .int 0, .long 0, .int 0, .int 0, .int 2]))]) [0] rfl
              have hD9 := hD.sub (ws' := [(m0, .inr (11, [.ref mh, .ref mg, .ref ms, .ref md, .ref mc, .ref mr, .int (-1), .int 0, .int 0, .int 0, .long 0, .int 0, .int 0, .int 2]))]) [0] (by decide) rfl
              refine W.widen (k := 20) (n := 100) (Nat.le_of_ble_eq_true rfl) (Nat.le_of_ble_eq_true rfl) ?_
              exact W.zret (v := 0) hx hb hr rfl (fun t ht hW => ⟨⟨0, [(m0, .inr (11, [.ref mh, .ref mg, .ref ms, .ref md, .ref mc, .ref mr, .int (-1), .int 0, .int 0, .int 0, .long 0, .int 0, .int 0, .int 2]))], rfl, Or.inl ⟨by simp only [okRdy]; simp only [inR, Int32.toInt_toInt64, ll0, ll1, ll7, ll99, ll30, ll9, ll40, ll50, ll20, lln20, lln1, fa_lt, fa_le, fa_eq, li0, li1, li97, li99, li103, li109, li115, li120] at c_1 c_2 c_16 c_20 c_23 c_27 ⊢; omega, rfl, rfl⟩, by rw [ht]; exact hP9, va_K.moved hW.alike hK, hD9⟩, hS.F ht⟩) hS.2.2 dX11_ready_110
  · refine lv_iload_n hx hb dX11_ready_6 rfl (lv_at hl 2 rfl) ?_
    refine lv_bipush (v := 103) hx hb dX11_ready_7 (by decide) ?_
    refine lv_icmp_eq (tgt := 48) hx hb dX11_ready_9 (by decide) (fun c_33 => ?_) (fun c_33 => ?_)
    · refine lv_iconst (v := 1) hx hb dX11_ready_48 (by decide) ?_
      refine lv_goto (tgt := 53) hx hb dX11_ready_49 (by decide) ?_
      refine lv_istore_n (lv' := [(3, .int 1), (0, .ref m0), (1, .int n1), (2, .int n2)]) hx hb dX11_ready_53 rfl hl (by decide) rfl (fun ls hl => ?_)
      refine lv_aload_n hx hb dX11_ready_54 rfl (lv_at hl 1 rfl) ?_
      refine lv_iload_n hx hb dX11_ready_55 rfl (lv_at hl 0 rfl) ?_
      refine lv_if_ne (tgt := 63) hx hb dX11_ready_56 (by decide) (fun c_34 => ?_) (fun c_34 => absurd c_34 (by decide))
      refine lv_aload_n hx hb dX11_ready_63 rfl (lv_at hl 1 rfl) ?_
      have hPc := hP.sub (ws' := [(m0, .inr (11, [.ref mh, .ref mg, .ref ms, .ref md, .ref mc, .ref mr, .int (-1), .int 0, .int 0, .int 0, .long 0, .int 0, .int 0, .int 0]))]) [0] rfl
      have hDc := hD.sub (ws' := [(m0, .inr (11, [.ref mh, .ref mg, .ref ms, .ref md, .ref mc, .ref mr, .int (-1), .int 0, .int 0, .int 0, .long 0, .int 0, .int 0, .int 0]))]) [0] (by decide) rfl
      have hFc := va_free (wc := [(m0, .inr (11, [.ref mh, .ref mg, .ref ms, .ref md, .ref mc, .ref mr, .int (-1), .int 0, .int 0, .int 0, .long 0, .int 0, .int 0, .int 0]))]) hD hS hA [0] rfl
      refine q_ci (wr := []) (va_runV (As := []) (rest := [.ref m0]) ⟨hx, hb, hml, hown, htg⟩ (c_X11_isOn l hfl g m0 mh mg ms md mc mr  H.size) ⟨(qB htg k1413 k57 k1410 ok_X11_isOn rfl rfl ⟨Nat.le_of_ble_eq_true rfl, Nat.le_of_ble_eq_true rfl⟩), htg _ k1412, htg _ k17⟩ ⟨(q_pre [.ref m0] hPc hDc hK hS hT hFc).1, va_recv hK hP (ci := 11) (q0 := 0) rfl rfl, (q_pre [.ref m0] hPc hDc hK hS hT hFc).2⟩ rfl rfl hl.1 rfl (lv_room (Nat.le_of_ble_eq_true rfl)) dX11_ready_64 ⟨Nat.le_of_ble_eq_true rfl, Nat.le_of_ble_eq_true rfl⟩) hP hD hS hFc [0] [] rfl rfl (by decide) (by decide) (fun r9 u9 H locs hw hP hD hS => ?_)
      try dsimp only at hw
      rcases hw with ⟨rfl, rfl⟩
      have hP : va_P g.1 CLS [(m0, .inr (11, [.ref mh, .ref mg, .ref ms, .ref md, .ref mc, .ref mr, .int (-1), .int 0, .int 0, .int 0, .long 0, .int 0, .int 0, .int 0]))] H := hP
      have hD : va_D A [(m0, .inr (11, [.ref mh, .ref mg, .ref ms, .ref md, .ref mc, .ref mr, .int (-1), .int 0, .int 0, .int 0, .long 0, .int 0, .int 0, .int 0]))] := hD
      refine W.widen (k := 0) (n := 0) (Nat.le_of_ble_eq_true rfl) (Nat.le_of_ble_eq_true rfl) ?_
      refine lv_if_ne (tgt := 74) hx hb dX11_ready_67 (by decide) (fun c_35 => absurd (by decide) c_35) (fun c_35 => ?_)
      refine lv_iconst (v := 2) hx hb dX11_ready_70 (by decide) ?_
      refine lv_goto (tgt := 99) hx hb dX11_ready_71 (by decide) ?_
      refine va_put (D := g.1) (ci := 11) (v := .int 2) (ty := .int) (C := RX11) (T := TX11) (N := 14) hx hb htg inG_X11 tyX11 tyX11_ok nmX11 hown hK hP hD hS 0 rfl rfl 13 (by decide) (htg _ k1353) (fun _ h9 => h9) rfl (by decide +kernel) rfl rfl (Nat.le_of_ble_eq_true rfl) dX11_ready_99 (fun H locs hP hD hS => ?_)
      have hP : va_P g.1 CLS [(m0, .inr (11, [.ref mh, .ref mg, .ref ms, .ref md, .ref mc, .ref mr, .int (-1), .int 0, .int 0, .int 0, .long 0, .int 0, .int 0, .int 2]))] H := hP
      have hD : va_D A [(m0, .inr (11, [.ref mh, .ref mg, .ref ms, .ref md, .ref mc, .ref mr, .int (-1), .int 0, .int 0, .int 0, .long 0, .int 0, .int 0, .int 2]))] := hD
      refine lv_aload_n hx hb dX11_ready_102 rfl (lv_at hl 1 rfl) ?_
      refine va_get (D := g.1) (ci := 11) (v := .int 2) (C := RX11) (T := TX11) (N := 14) hx hb htg inG_X11 hown hK hP 0 rfl rfl 13 (by decide) (htg _ k1353) (fun _ h9 => h9) rfl dX11_ready_103 ?_
      refine lv_if_le (tgt := 111) hx hb dX11_ready_106 (by decide) (fun c_36 => absurd c_36 (by decide)) (fun c_36 => ?_)
      refine lv_iconst (v := 0) hx hb dX11_ready_109 (by decide) ?_
      have hP9 := hP.sub (ws' := [(m0, .inr (11, [.ref mh, .ref mg, .ref ms, .ref md, .ref mc, .ref mr, .int (-1), .int 0, .int 0, .int 0, .long 0, .int 0, .int 0, .int 2]))]) [0] rfl
      have hD9 := hD.sub (ws' := [(m0, .inr (11, [.ref mh, .ref mg, .ref ms, .ref md, .ref mc, .ref mr, .int (-1), .int 0, .int 0, .int 0, .long 0, .int 0, .int 0, .int 2]))]) [0] (by decide) rfl
      refine W.widen (k := 20) (n := 100) (Nat.le_of_ble_eq_true rfl) (Nat.le_of_ble_eq_true rfl) ?_
      exact W.zret (v := 0) hx hb hr rfl (fun t ht hW => ⟨⟨0, [(m0, .inr (11, [.ref mh, .ref mg, .ref ms, .ref md, .ref mc, .ref mr, .int (-1), .int 0, .int 0, .int 0, .long 0, .int 0, .int 0, .int 2]))], rfl, Or.inl ⟨by simp only [okRdy]; simp only [inR, Int32.toInt_toInt64, ll0, ll1, ll7, ll99, ll30, ll9, ll40, ll50, ll20, lln20, lln1, fa_lt, fa_le, fa_eq, li0, li1, li97, li99, li103, li109, li115, li120] at c_1 c_33 ⊢; omega, rfl, rfl⟩, by rw [ht]; exact hP9, va_K.moved hW.alike hK, hD9⟩, hS.F ht⟩) hS.2.2 dX11_ready_110
    · refine lv_iload_n hx hb dX11_ready_12 rfl (lv_at hl 2 rfl) ?_
      refine lv_bipush (v := 115) hx hb dX11_ready_13 (by decide) ?_
      refine lv_icmp_eq (tgt := 48) hx hb dX11_ready_15 (by decide) (fun c_37 => ?_) (fun c_37 => ?_)
      · refine lv_iconst (v := 1) hx hb dX11_ready_48 (by decide) ?_
        refine lv_goto (tgt := 53) hx hb dX11_ready_49 (by decide) ?_
        refine lv_istore_n (lv' := [(3, .int 1), (0, .ref m0), (1, .int n1), (2, .int n2)]) hx hb dX11_ready_53 rfl hl (by decide) rfl (fun ls hl => ?_)
        refine lv_aload_n hx hb dX11_ready_54 rfl (lv_at hl 1 rfl) ?_
        refine lv_iload_n hx hb dX11_ready_55 rfl (lv_at hl 0 rfl) ?_
        refine lv_if_ne (tgt := 63) hx hb dX11_ready_56 (by decide) (fun c_38 => ?_) (fun c_38 => absurd c_38 (by decide))
        refine lv_aload_n hx hb dX11_ready_63 rfl (lv_at hl 1 rfl) ?_
        have hPc := hP.sub (ws' := [(m0, .inr (11, [.ref mh, .ref mg, .ref ms, .ref md, .ref mc, .ref mr, .int (-1), .int 0, .int 0, .int 0, .long 0, .int 0, .int 0, .int 0]))]) [0] rfl
        have hDc := hD.sub (ws' := [(m0, .inr (11, [.ref mh, .ref mg, .ref ms, .ref md, .ref mc, .ref mr, .int (-1), .int 0, .int 0, .int 0, .long 0, .int 0, .int 0, .int 0]))]) [0] (by decide) rfl
        have hFc := va_free (wc := [(m0, .inr (11, [.ref mh, .ref mg, .ref ms, .ref md, .ref mc, .ref mr, .int (-1), .int 0, .int 0, .int 0, .long 0, .int 0, .int 0, .int 0]))]) hD hS hA [0] rfl
        refine q_ci (wr := []) (va_runV (As := []) (rest := [.ref m0]) ⟨hx, hb, hml, hown, htg⟩ (c_X11_isOn l hfl g m0 mh mg ms md mc mr  H.size) ⟨(qB htg k1413 k57 k1410 ok_X11_isOn rfl rfl ⟨Nat.le_of_ble_eq_true rfl, Nat.le_of_ble_eq_true rfl⟩), htg _ k1412, htg _ k17⟩ ⟨(q_pre [.ref m0] hPc hDc hK hS hT hFc).1, va_recv hK hP (ci := 11) (q0 := 0) rfl rfl, (q_pre [.ref m0] hPc hDc hK hS hT hFc).2⟩ rfl rfl hl.1 rfl (lv_room (Nat.le_of_ble_eq_true rfl)) dX11_ready_64 ⟨Nat.le_of_ble_eq_true rfl, Nat.le_of_ble_eq_true rfl⟩) hP hD hS hFc [0] [] rfl rfl (by decide) (by decide) (fun r9 u9 H locs hw hP hD hS => ?_)
        try dsimp only at hw
        rcases hw with ⟨rfl, rfl⟩
        have hP : va_P g.1 CLS [(m0, .inr (11, [.ref mh, .ref mg, .ref ms, .ref md, .ref mc, .ref mr, .int (-1), .int 0, .int 0, .int 0, .long 0, .int 0, .int 0, .int 0]))] H := hP
        have hD : va_D A [(m0, .inr (11, [.ref mh, .ref mg, .ref ms, .ref md, .ref mc, .ref mr, .int (-1), .int 0, .int 0, .int 0, .long 0, .int 0, .int 0, .int 0]))] := hD
        refine W.widen (k := 0) (n := 0) (Nat.le_of_ble_eq_true rfl) (Nat.le_of_ble_eq_true rfl) ?_
        refine lv_if_ne (tgt := 74) hx hb dX11_ready_67 (by decide) (fun c_39 => absurd (by decide) c_39) (fun c_39 => ?_)
        refine lv_iconst (v := 2) hx hb dX11_ready_70 (by decide) ?_
        refine lv_goto (tgt := 99) hx hb dX11_ready_71 (by decide) ?_
        refine va_put (D := g.1) (ci := 11) (v := .int 2) (ty := .int) (C := RX11) (T := TX11) (N := 14) hx hb htg inG_X11 tyX11 tyX11_ok nmX11 hown hK hP hD hS 0 rfl rfl 13 (by decide) (htg _ k1353) (fun _ h9 => h9) rfl (by decide +kernel) rfl rfl (Nat.le_of_ble_eq_true rfl) dX11_ready_99 (fun H locs hP hD hS => ?_)
        have hP : va_P g.1 CLS [(m0, .inr (11, [.ref mh, .ref mg, .ref ms, .ref md, .ref mc, .ref mr, .int (-1), .int 0, .int 0, .int 0, .long 0, .int 0, .int 0, .int 2]))] H := hP
        have hD : va_D A [(m0, .inr (11, [.ref mh, .ref mg, .ref ms, .ref md, .ref mc, .ref mr, .int (-1), .int 0, .int 0, .int 0, .long 0, .int 0, .int 0, .int 2]))] := hD
        refine lv_aload_n hx hb dX11_ready_102 rfl (lv_at hl 1 rfl) ?_
        refine va_get (D := g.1) (ci := 11) (v := .int 2) (C := RX11) (T := TX11) (N := 14) hx hb htg inG_X11 hown hK hP 0 rfl rfl 13 (by decide) (htg _ k1353) (fun _ h9 => h9) rfl dX11_ready_103 ?_
        refine lv_if_le (tgt := 111) hx hb dX11_ready_106 (by decide) (fun c_40 => absurd c_40 (by decide)) (fun c_40 => ?_)
        refine lv_iconst (v := 0) hx hb dX11_ready_109 (by decide) ?_
        have hP9 := hP.sub (ws' := [(m0, .inr (11, [.ref mh, .ref mg, .ref ms, .ref md, .ref mc, .ref mr, .int (-1), .int 0, .int 0, .int 0, .long 0, .int 0, .int 0, .int 2]))]) [0] rfl
        have hD9 := hD.sub (ws' := [(m0, .inr (11, [.ref mh, .ref mg, .ref ms, .ref md, .ref mc, .ref mr, .int (-1), .int 0, .int 0, .int 0, .long 0, .int 0, .int 0, .int 2]))]) [0] (by decide) rfl
        refine W.widen (k := 20) (n := 100) (Nat.le_of_ble_eq_true rfl) (Nat.le_of_ble_eq_true rfl) ?_
        exact W.zret (v := 0) hx hb hr rfl (fun t ht hW => ⟨⟨0, [(m0, .inr (11, [.ref mh, .ref mg, .ref ms, .ref md, .ref mc, .ref mr, .int (-1), .int 0, .int 0, .int 0, .long 0, .int 0, .int 0, .int 2]))], rfl, Or.inl ⟨by simp only [okRdy]; simp only [inR, Int32.toInt_toInt64, ll0, ll1, ll7, ll99, ll30, ll9, ll40, ll50, ll20, lln20, lln1, fa_lt, fa_le, fa_eq, li0, li1, li97, li99, li103, li109, li115, li120] at c_1 c_33 c_37 ⊢; omega, rfl, rfl⟩, by rw [ht]; exact hP9, va_K.moved hW.alike hK, hD9⟩, hS.F ht⟩) hS.2.2 dX11_ready_110
      · refine lv_iload_n hx hb dX11_ready_18 rfl (lv_at hl 1 rfl) ?_
        refine lv_bipush (v := 109) hx hb dX11_ready_19 (by decide) ?_
        refine lv_icmp_ne (tgt := 30) hx hb dX11_ready_21 (by decide) (fun c_41 => ?_) (fun c_41 => ?_)
        · refine lv_iload_n hx hb dX11_ready_30 rfl (lv_at hl 1 rfl) ?_
          refine lv_bipush (v := 99) hx hb dX11_ready_31 (by decide) ?_
          refine lv_icmp_ne (tgt := 52) hx hb dX11_ready_33 (by decide) (fun c_42 => ?_) (fun c_42 => ?_)
          · refine lv_iconst (v := 0) hx hb dX11_ready_52 (by decide) ?_
            refine lv_istore_n (lv' := [(3, .int 0), (0, .ref m0), (1, .int n1), (2, .int n2)]) hx hb dX11_ready_53 rfl hl (by decide) rfl (fun ls hl => ?_)
            refine lv_aload_n hx hb dX11_ready_54 rfl (lv_at hl 1 rfl) ?_
            refine lv_iload_n hx hb dX11_ready_55 rfl (lv_at hl 0 rfl) ?_
            refine lv_if_ne (tgt := 63) hx hb dX11_ready_56 (by decide) (fun c_43 => absurd (by decide) c_43) (fun c_43 => ?_)
            refine lv_iconst (v := 1) hx hb dX11_ready_59 (by decide) ?_
            refine lv_goto (tgt := 99) hx hb dX11_ready_60 (by decide) ?_
            refine va_put (D := g.1) (ci := 11) (v := .int 1) (ty := .int) (C := RX11) (T := TX11) (N := 14) hx hb htg inG_X11 tyX11 tyX11_ok nmX11 hown hK hP hD hS 0 rfl rfl 13 (by decide) (htg _ k1353) (fun _ h9 => h9) rfl (by decide +kernel) rfl rfl (Nat.le_of_ble_eq_true rfl) dX11_ready_99 (fun H locs hP hD hS => ?_)
            have hP : va_P g.1 CLS [(m0, .inr (11, [.ref mh, .ref mg, .ref ms, .ref md, .ref mc, .ref mr, .int (-1), .int 0, .int 0, .int 0, .long 0, .int 0, .int 0, .int 1]))] H := hP
            have hD : va_D A [(m0, .inr (11, [.ref mh, .ref mg, .ref ms, .ref md, .ref mc, .ref mr, .int (-1), .int 0, .int 0, .int 0, .long 0, .int 0, .int 0, .int 1]))] := hD
            refine lv_aload_n hx hb dX11_ready_102 rfl (lv_at hl 1 rfl) ?_
            refine va_get (D := g.1) (ci := 11) (v := .int 1) (C := RX11) (T := TX11) (N := 14) hx hb htg inG_X11 hown hK hP 0 rfl rfl 13 (by decide) (htg _ k1353) (fun _ h9 => h9) rfl dX11_ready_103 ?_
            refine lv_if_le (tgt := 111) hx hb dX11_ready_106 (by decide) (fun c_44 => absurd c_44 (by decide)) (fun c_44 => ?_)
            refine lv_iconst (v := 0) hx hb dX11_ready_109 (by decide) ?_
            have hP9 := hP.sub (ws' := [(m0, .inr (11, [.ref mh, .ref mg, .ref ms, .ref md, .ref mc, .ref mr, .int (-1), .int 0, .int 0, .int 0, .long 0, .int 0, .int 0, .int 1]))]) [0] rfl
            have hD9 := hD.sub (ws' := [(m0, .inr (11, [.ref mh, .ref mg, .ref ms, .ref md, .ref mc, .ref mr, .int (-1), .int 0, .int 0, .int 0, .long 0, .int 0, .int 0, .int 1]))]) [0] (by decide) rfl
            refine W.widen (k := 20) (n := 100) (Nat.le_of_ble_eq_true rfl) (Nat.le_of_ble_eq_true rfl) ?_
            exact W.zret (v := 0) hx hb hr rfl (fun t ht hW => ⟨⟨0, [(m0, .inr (11, [.ref mh, .ref mg, .ref ms, .ref md, .ref mc, .ref mr, .int (-1), .int 0, .int 0, .int 0, .long 0, .int 0, .int 0, .int 1]))], rfl, Or.inr (⟨by simp only [okRdy]; simp only [inR, Int32.toInt_toInt64, ll0, ll1, ll7, ll99, ll30, ll9, ll40, ll50, ll20, lln20, lln1, fa_lt, fa_le, fa_eq, li0, li1, li97, li99, li103, li109, li115, li120] at c_1 c_33 c_37 c_41 c_42 ⊢; omega, rfl, rfl⟩), by rw [ht]; exact hP9, va_K.moved hW.alike hK, hD9⟩, hS.F ht⟩) hS.2.2 dX11_ready_110
          · refine lv_iload_n hx hb dX11_ready_36 rfl (lv_at hl 2 rfl) ?_
            refine lv_bipush (v := 120) hx hb dX11_ready_37 (by decide) ?_
            refine lv_icmp_eq (tgt := 48) hx hb dX11_ready_39 (by decide) (fun c_45 => ?_) (fun c_45 => ?_)
            · refine lv_iconst (v := 1) hx hb dX11_ready_48 (by decide) ?_
              refine lv_goto (tgt := 53) hx hb dX11_ready_49 (by decide) ?_
              refine lv_istore_n (lv' := [(3, .int 1), (0, .ref m0), (1, .int n1), (2, .int n2)]) hx hb dX11_ready_53 rfl hl (by decide) rfl (fun ls hl => ?_)
              refine lv_aload_n hx hb dX11_ready_54 rfl (lv_at hl 1 rfl) ?_
              refine lv_iload_n hx hb dX11_ready_55 rfl (lv_at hl 0 rfl) ?_
              refine lv_if_ne (tgt := 63) hx hb dX11_ready_56 (by decide) (fun c_46 => ?_) (fun c_46 => absurd c_46 (by decide))
              refine lv_aload_n hx hb dX11_ready_63 rfl (lv_at hl 1 rfl) ?_
              have hPc := hP.sub (ws' := [(m0, .inr (11, [.ref mh, .ref mg, .ref ms, .ref md, .ref mc, .ref mr, .int (-1), .int 0, .int 0, .int 0, .long 0, .int 0, .int 0, .int 0]))]) [0] rfl
              have hDc := hD.sub (ws' := [(m0, .inr (11, [.ref mh, .ref mg, .ref ms, .ref md, .ref mc, .ref mr, .int (-1), .int 0, .int 0, .int 0, .long 0, .int 0, .int 0, .int 0]))]) [0] (by decide) rfl
              have hFc := va_free (wc := [(m0, .inr (11, [.ref mh, .ref mg, .ref ms, .ref md, .ref mc, .ref mr, .int (-1), .int 0, .int 0, .int 0, .long 0, .int 0, .int 0, .int 0]))]) hD hS hA [0] rfl
              refine q_ci (wr := []) (va_runV (As := []) (rest := [.ref m0]) ⟨hx, hb, hml, hown, htg⟩ (c_X11_isOn l hfl g m0 mh mg ms md mc mr  H.size) ⟨(qB htg k1413 k57 k1410 ok_X11_isOn rfl rfl ⟨Nat.le_of_ble_eq_true rfl, Nat.le_of_ble_eq_true rfl⟩), htg _ k1412, htg _ k17⟩ ⟨(q_pre [.ref m0] hPc hDc hK hS hT hFc).1, va_recv hK hP (ci := 11) (q0 := 0) rfl rfl, (q_pre [.ref m0] hPc hDc hK hS hT hFc).2⟩ rfl rfl hl.1 rfl (lv_room (Nat.le_of_ble_eq_true rfl)) dX11_ready_64 ⟨Nat.le_of_ble_eq_true rfl, Nat.le_of_ble_eq_true rfl⟩) hP hD hS hFc [0] [] rfl rfl (by decide) (by decide) (fun r9 u9 H locs hw hP hD hS => ?_)
              try dsimp only at hw
              rcases hw with ⟨rfl, rfl⟩
              have hP : va_P g.1 CLS [(m0, .inr (11, [.ref mh, .ref mg, .ref ms, .ref md, .ref mc, .ref mr, .int (-1), .int 0, .int 0, .int 0, .long 0, .int 0, .int 0, .int 0]))] H := hP
              have hD : va_D A [(m0, .inr (11, [.ref mh, .ref mg, .ref ms, .ref md, .ref mc, .ref mr, .int (-1), .int 0, .int 0, .int 0, .long 0, .int 0, .int 0, .int 0]))] := hD
              refine W.widen (k := 0) (n := 0) (Nat.le_of_ble_eq_true rfl) (Nat.le_of_ble_eq_true rfl) ?_
              refine lv_if_ne (tgt := 74) hx hb dX11_ready_67 (by decide) (fun c_47 => absurd (by decide) c_47) (fun c_47 => ?_)
              refine lv_iconst (v := 2) hx hb dX11_ready_70 (by decide) ?_
              refine lv_goto (tgt := 99) hx hb dX11_ready_71 (by decide) ?_
              refine va_put (D := g.1) (ci := 11) (v := .int 2) (ty := .int) (C := RX11) (T := TX11) (N := 14) hx hb htg inG_X11 tyX11 tyX11_ok nmX11 hown hK hP hD hS 0 rfl rfl 13 (by decide) (htg _ k1353) (fun _ h9 => h9) rfl (by decide +kernel) rfl rfl (Nat.le_of_ble_eq_true rfl) dX11_ready_99 (fun H locs hP hD hS => ?_)
              have hP : va_P g.1 CLS [(m0, .inr (11, [.ref mh, .ref mg, .ref ms, .ref md, .ref mc, .ref mr, .int (-1), .int 0, .int 0, .int 0, .long 0, .int 0, .int 0, .int 2]))] H := hP
              have hD : va_D A [(m0, .inr (11, [.ref mh, .ref mg, .ref ms, .ref md, .ref mc, .ref mr, .int (-1), .int 0, .int 0, .int 0, .long 0, .int 0, .int 0, .int 2]))] := hD
              refine lv_aload_n hx hb dX11_ready_102 rfl (lv_at hl 1 rfl) ?_
              refine va_get (D := g.1) (ci := 11) (v := .int 2) (C := RX11) (T := TX11) (N := 14) hx hb htg inG_X11 hown hK hP 0 rfl rfl 13 (by decide) (htg _ k1353) (fun _ h9 => h9) rfl dX11_ready_103 ?_
              refine lv_if_le (tgt := 111) hx hb dX11_ready_106 (by decide) (fun c_48 => absurd c_48 (by decide)) (fun c_48 => ?_)
              refine lv_iconst (v := 0) hx hb dX11_ready_109 (by decide) ?_
              have hP9 := hP.sub (ws' := [(m0, .inr (11, [.ref mh, .ref mg, .ref ms, .ref md, .ref mc, .ref mr, .int (-1), .int 0, .int 0, .int 0, .long 0, .int 0, .int 0, .int 2]))]) [0] rfl
              have hD9 := hD.sub (ws' := [(m0, .inr (11, [.ref mh, .ref mg, .ref ms, .ref md, .ref mc, .ref mr, .int (-1), .int 0, .int 0, .int 0, .long 0, .int 0, .int 0, .int 2]))]) [0] (by decide) rfl
              refine W.widen (k := 20) (n := 100) (Nat.le_of_ble_eq_true rfl) (Nat.le_of_ble_eq_true rfl) ?_
              exact W.zret (v := 0) hx hb hr rfl (fun t ht hW => ⟨⟨0, [(m0, .inr (11, [.ref mh, .ref mg, .ref ms, .ref md, .ref mc, .ref mr, .int (-1), .int 0, .int 0, .int 0, .long 0, .int 0, .int 0, .int 2]))], rfl, Or.inl ⟨by simp only [okRdy]; simp only [inR, Int32.toInt_toInt64, ll0, ll1, ll7, ll99, ll30, ll9, ll40, ll50, ll20, lln20, lln1, fa_lt, fa_le, fa_eq, li0, li1, li97, li99, li103, li109, li115, li120] at c_1 c_33 c_37 c_41 c_42 c_45 ⊢; omega, rfl, rfl⟩, by rw [ht]; exact hP9, va_K.moved hW.alike hK, hD9⟩, hS.F ht⟩) hS.2.2 dX11_ready_110
            · refine lv_iload_n hx hb dX11_ready_42 rfl (lv_at hl 2 rfl) ?_
              refine lv_bipush (v := 115) hx hb dX11_ready_43 (by decide) ?_
              refine lv_icmp_ne (tgt := 52) hx hb dX11_ready_45 (by decide) (fun c_49 => ?_) (fun c_49 => ?_)
              · refine lv_iconst (v := 0) hx hb dX11_ready_52 (by decide) ?_
                refine lv_istore_n (lv' := [(3, .int 0), (0, .ref m0), (1, .int n1), (2, .int n2)]) hx hb dX11_ready_53 rfl hl (by decide) rfl (fun ls hl => ?_)
                refine lv_aload_n hx hb dX11_ready_54 rfl (lv_at hl 1 rfl) ?_
                refine lv_iload_n hx hb dX11_ready_55 rfl (lv_at hl 0 rfl) ?_
                refine lv_if_ne (tgt := 63) hx hb dX11_ready_56 (by decide) (fun c_50 => absurd (by decide) c_50) (fun c_50 => ?_)
                refine lv_iconst (v := 1) hx hb dX11_ready_59 (by decide) ?_
                refine lv_goto (tgt := 99) hx hb dX11_ready_60 (by decide) ?_
                refine va_put (D := g.1) (ci := 11) (v := .int 1) (ty := .int) (C := RX11) (T := TX11) (N := 14) hx hb htg inG_X11 tyX11 tyX11_ok nmX11 hown hK hP hD hS 0 rfl rfl 13 (by decide) (htg _ k1353) (fun _ h9 => h9) rfl (by decide +kernel) rfl rfl (Nat.le_of_ble_eq_true rfl) dX11_ready_99 (fun H locs hP hD hS => ?_)
                have hP : va_P g.1 CLS [(m0, .inr (11, [.ref mh, .ref mg, .ref ms, .ref md, .ref mc, .ref mr, .int (-1), .int 0, .int 0, .int 0, .long 0, .int 0, .int 0, .int 1]))] H := hP
                have hD : va_D A [(m0, .inr (11, [.ref mh, .ref mg, .ref ms, .ref md, .ref mc, .ref mr, .int (-1), .int 0, .int 0, .int 0, .long 0, .int 0, .int 0, .int 1]))] := hD
                refine lv_aload_n hx hb dX11_ready_102 rfl (lv_at hl 1 rfl) ?_
                refine va_get (D := g.1) (ci := 11) (v := .int 1) (C := RX11) (T := TX11) (N := 14) hx hb htg inG_X11 hown hK hP 0 rfl rfl 13 (by decide) (htg _ k1353) (fun _ h9 => h9) rfl dX11_ready_103 ?_
                refine lv_if_le (tgt := 111) hx hb dX11_ready_106 (by decide) (fun c_51 => absurd c_51 (by decide)) (fun c_51 => ?_)
                refine lv_iconst (v := 0) hx hb dX11_ready_109 (by decide) ?_
                have hP9 := hP.sub (ws' := [(m0, .inr (11, [.ref mh, .ref mg, .ref ms, .ref md, .ref mc, .ref mr, .int (-1), .int 0, .int 0, .int 0, .long 0, .int 0, .int 0, .int 1]))]) [0] rfl
                have hD9 := hD.sub (ws' := [(m0, .inr (11, [.ref mh, .ref mg, .ref ms, .ref md, .ref mc, .ref mr, .int (-1), .int 0, .int 0, .int 0, .long 0, .int 0, .int 0, .int 1]))]) [0] (by decide) rfl
                refine W.widen (k := 20) (n := 100) (Nat.le_of_ble_eq_true rfl) (Nat.le_of_ble_eq_true rfl) ?_
                exact W.zret (v := 0) hx hb hr rfl (fun t ht hW => ⟨⟨0, [(m0, .inr (11, [.ref mh, .ref mg, .ref ms, .ref md, .ref mc, .ref mr, .int (-1), .int 0, .int 0, .int 0, .long 0, .int 0, .int 0, .int 1]))], rfl, Or.inr (⟨by simp only [okRdy]; simp only [inR, Int32.toInt_toInt64, ll0, ll1, ll7, ll99, ll30, ll9, ll40, ll50, ll20, lln20, lln1, fa_lt, fa_le, fa_eq, li0, li1, li97, li99, li103, li109, li115, li120] at c_1 c_33 c_37 c_41 c_42 c_45 c_49 ⊢; omega, rfl, rfl⟩), by rw [ht]; exact hP9, va_K.moved hW.alike hK, hD9⟩, hS.F ht⟩) hS.2.2 dX11_ready_110
              · refine lv_iconst (v := 1) hx hb dX11_ready_48 (by decide) ?_
                refine lv_goto (tgt := 53) hx hb dX11_ready_49 (by decide) ?_
                refine lv_istore_n (lv' := [(3, .int 1), (0, .ref m0), (1, .int n1), (2, .int n2)]) hx hb dX11_ready_53 rfl hl (by decide) rfl (fun ls hl => ?_)
                refine lv_aload_n hx hb dX11_ready_54 rfl (lv_at hl 1 rfl) ?_
                refine lv_iload_n hx hb dX11_ready_55 rfl (lv_at hl 0 rfl) ?_
                refine lv_if_ne (tgt := 63) hx hb dX11_ready_56 (by decide) (fun c_52 => ?_) (fun c_52 => absurd c_52 (by decide))
                refine lv_aload_n hx hb dX11_ready_63 rfl (lv_at hl 1 rfl) ?_
                have hPc := hP.sub (ws' := [(m0, .inr (11, [.ref mh, .ref mg, .ref ms, .ref md, .ref mc, .ref mr, .int (-1), .int 0, .int 0, .int 0, .long 0, .int 0, .int 0, .int 0]))]) [0] rfl
                have hDc := hD.sub (ws' := [(m0, .inr (11, [.ref mh, .ref mg, .ref ms, .ref md, .ref mc, .ref mr, .int (-1), .int 0, .int 0, .int 0, .long 0, .int 0, .int 0, .int 0]))]) [0] (by decide) rfl
                have hFc := va_free (wc := [(m0, .inr (11, [.ref mh, .ref mg, .ref ms, .ref md, .ref mc, .ref mr, .int (-1), .int 0, .int 0, .int 0, .long 0, .int 0, .int 0, .int 0]))]) hD hS hA [0] rfl
                refine q_ci (wr := []) (va_runV (As := []) (rest := [.ref m0]) ⟨hx, hb, hml, hown, htg⟩ (c_X11_isOn l hfl g m0 mh mg ms md mc mr  H.size) ⟨(qB htg k1413 k57 k1410 ok_X11_isOn rfl rfl ⟨Nat.le_of_ble_eq_true rfl, Nat.le_of_ble_eq_true rfl⟩), htg _ k1412, htg _ k17⟩ ⟨(q_pre [.ref m0] hPc hDc hK hS hT hFc).1, va_recv hK hP (ci := 11) (q0 := 0) rfl rfl, (q_pre [.ref m0] hPc hDc hK hS hT hFc).2⟩ rfl rfl hl.1 rfl (lv_room (Nat.le_of_ble_eq_true rfl)) dX11_ready_64 ⟨Nat.le_of_ble_eq_true rfl, Nat.le_of_ble_eq_true rfl⟩) hP hD hS hFc [0] [] rfl rfl (by decide) (by decide) (fun r9 u9 H locs hw hP hD hS => ?_)
                try dsimp only at hw
                rcases hw with ⟨rfl, rfl⟩
                have hP : va_P g.1 CLS [(m0, .inr (11, [.ref mh, .ref mg, .ref ms, .ref md, .ref mc, .ref mr, .int (-1), .int 0, .int 0, .int 0, .long 0, .int 0, .int 0, .int 0]))] H := hP
                have hD : va_D A [(m0, .inr (11, [.ref mh, .ref mg, .ref ms, .ref md, .ref mc, .ref mr, .int (-1), .int 0, .int 0, .int 0, .long 0, .int 0, .int 0, .int 0]))] := hD
                refine W.widen (k := 0) (n := 0) (Nat.le_of_ble_eq_true rfl) (Nat.le_of_ble_eq_true rfl) ?_
                refine lv_if_ne (tgt := 74) hx hb dX11_ready_67 (by decide) (fun c_53 => absurd (by decide) c_53) (fun c_53 => ?_)
                refine lv_iconst (v := 2) hx hb dX11_ready_70 (by decide) ?_
                refine lv_goto (tgt := 99) hx hb dX11_ready_71 (by decide) ?_
                refine va_put (D := g.1) (ci := 11) (v := .int 2) (ty := .int) (C := RX11) (T := TX11) (N := 14) hx hb htg inG_X11 tyX11 tyX11_ok nmX11 hown hK hP hD hS 0 rfl rfl 13 (by decide) (htg _ k1353) (fun _ h9 => h9) rfl (by decide +kernel) rfl rfl (Nat.le_of_ble_eq_true rfl) dX11_ready_99 (fun H locs hP hD hS => ?_)
                have hP : va_P g.1 CLS [(m0, .inr (11, [.ref mh, .ref mg, .ref ms, .ref md, .ref mc, .ref mr, .int (-1), .int 0, .int 0, .int 0, .long 0, .int 0, .int 0, .int 2]))] H := hP
                have hD : va_D A [(m0, .inr (11, [.ref mh, .ref mg, .ref ms, .ref md, .ref mc, .ref mr, .int (-1), .int 0, .int 0, .int 0, .long 0, .int 0, .int 0, .int 2]))] := hD
                refine lv_aload_n hx hb dX11_ready_102 rfl (lv_at hl 1 rfl) ?_
                refine va_get (D := g.1) (ci := 11) (v := .int 2) (C := RX11) (T := TX11) (N := 14) hx hb htg inG_X11 hown hK hP 0 rfl rfl 13 (by decide) (htg _ k1353) (fun _ h9 => h9) rfl dX11_ready_103 ?_
                refine lv_if_le (tgt := 111) hx hb dX11_ready_106 (by decide) (fun c_54 => absurd c_54 (by decide)) (fun c_54 => ?_)
                refine lv_iconst (v := 0) hx hb dX11_ready_109 (by decide) ?_
                have hP9 := hP.sub (ws' := [(m0, .inr (11, [.ref mh, .ref mg, .ref ms, .ref md, .ref mc, .ref mr, .int (-1), .int 0, .int 0, .int 0, .long 0, .int 0, .int 0, .int 2]))]) [0] rfl
                have hD9 := hD.sub (ws' := [(m0, .inr (11, [.ref mh, .ref mg, .ref ms, .ref md, .ref mc, .ref mr, .int (-1), .int 0, .int 0, .int 0, .long 0, .int 0, .int 0, .int 2]))]) [0] (by decide) rfl
                refine W.widen (k := 20) (n := 100) (Nat.le_of_ble_eq_true rfl) (Nat.le_of_ble_eq_true rfl) ?_
                exact W.zret (v := 0) hx hb hr rfl (fun t ht hW => ⟨⟨0, [(m0, .inr (11, [.ref mh, .ref mg, .ref ms, .ref md, .ref mc, .ref mr, .int (-1), .int 0, .int 0, .int 0, .long 0, .int 0, .int 0, .int 2]))], rfl, Or.inl ⟨by simp only [okRdy]; simp only [inR, Int32.toInt_toInt64, ll0, ll1, ll7, ll99, ll30, ll9, ll40, ll50, ll20, lln20, lln1, fa_lt, fa_le, fa_eq, li0, li1, li97, li99, li103, li109, li115, li120] at c_1 c_33 c_37 c_41 c_42 c_45 c_49 ⊢; omega, rfl, rfl⟩, by rw [ht]; exact hP9, va_K.moved hW.alike hK, hD9⟩, hS.F ht⟩) hS.2.2 dX11_ready_110
        · refine lv_iload_n hx hb dX11_ready_24 rfl (lv_at hl 2 rfl) ?_
          refine lv_bipush (v := 115) hx hb dX11_ready_25 (by decide) ?_
          refine lv_icmp_eq (tgt := 48) hx hb dX11_ready_27 (by decide) (fun c_55 => ?_) (fun c_55 => ?_)
          · refine lv_iconst (v := 1) hx hb dX11_ready_48 (by decide) ?_
            refine lv_goto (tgt := 53) hx hb dX11_ready_49 (by decide) ?_
            refine lv_istore_n (lv' := [(3, .int 1), (0, .ref m0), (1, .int n1), (2, .int n2)]) hx hb dX11_ready_53 rfl hl (by decide) rfl (fun ls hl => ?_)
            refine lv_aload_n hx hb dX11_ready_54 rfl (lv_at hl 1 rfl) ?_
            refine lv_iload_n hx hb dX11_ready_55 rfl (lv_at hl 0 rfl) ?_
            refine lv_if_ne (tgt := 63) hx hb dX11_ready_56 (by decide) (fun c_56 => ?_) (fun c_56 => absurd c_56 (by decide))
            refine lv_aload_n hx hb dX11_ready_63 rfl (lv_at hl 1 rfl) ?_
            have hPc := hP.sub (ws' := [(m0, .inr (11, [.ref mh, .ref mg, .ref ms, .ref md, .ref mc, .ref mr, .int (-1), .int 0, .int 0, .int 0, .long 0, .int 0, .int 0, .int 0]))]) [0] rfl
            have hDc := hD.sub (ws' := [(m0, .inr (11, [.ref mh, .ref mg, .ref ms, .ref md, .ref mc, .ref mr, .int (-1), .int 0, .int 0, .int 0, .long 0, .int 0, .int 0, .int 0]))]) [0] (by decide) rfl
            have hFc := va_free (wc := [(m0, .inr (11, [.ref mh, .ref mg, .ref ms, .ref md, .ref mc, .ref mr, .int (-1), .int 0, .int 0, .int 0, .long 0, .int 0, .int 0, .int 0]))]) hD hS hA [0] rfl
            refine q_ci (wr := []) (va_runV (As := []) (rest := [.ref m0]) ⟨hx, hb, hml, hown, htg⟩ (c_X11_isOn l hfl g m0 mh mg ms md mc mr  H.size) ⟨(qB htg k1413 k57 k1410 ok_X11_isOn rfl rfl ⟨Nat.le_of_ble_eq_true rfl, Nat.le_of_ble_eq_true rfl⟩), htg _ k1412, htg _ k17⟩ ⟨(q_pre [.ref m0] hPc hDc hK hS hT hFc).1, va_recv hK hP (ci := 11) (q0 := 0) rfl rfl, (q_pre [.ref m0] hPc hDc hK hS hT hFc).2⟩ rfl rfl hl.1 rfl (lv_room (Nat.le_of_ble_eq_true rfl)) dX11_ready_64 ⟨Nat.le_of_ble_eq_true rfl, Nat.le_of_ble_eq_true rfl⟩) hP hD hS hFc [0] [] rfl rfl (by decide) (by decide) (fun r9 u9 H locs hw hP hD hS => ?_)
            try dsimp only at hw
            rcases hw with ⟨rfl, rfl⟩
            have hP : va_P g.1 CLS [(m0, .inr (11, [.ref mh, .ref mg, .ref ms, .ref md, .ref mc, .ref mr, .int (-1), .int 0, .int 0, .int 0, .long 0, .int 0, .int 0, .int 0]))] H := hP
            have hD : va_D A [(m0, .inr (11, [.ref mh, .ref mg, .ref ms, .ref md, .ref mc, .ref mr, .int (-1), .int 0, .int 0, .int 0, .long 0, .int 0, .int 0, .int 0]))] := hD
            refine W.widen (k := 0) (n := 0) (Nat.le_of_ble_eq_true rfl) (Nat.le_of_ble_eq_true rfl) ?_
            refine lv_if_ne (tgt := 74) hx hb dX11_ready_67 (by decide) (fun c_57 => absurd (by decide) c_57) (fun c_57 => ?_)
            refine lv_iconst (v := 2) hx hb dX11_ready_70 (by decide) ?_
            refine lv_goto (tgt := 99) hx hb dX11_ready_71 (by decide) ?_
            refine va_put (D := g.1) (ci := 11) (v := .int 2) (ty := .int) (C := RX11) (T := TX11) (N := 14) hx hb htg inG_X11 tyX11 tyX11_ok nmX11 hown hK hP hD hS 0 rfl rfl 13 (by decide) (htg _ k1353) (fun _ h9 => h9) rfl (by decide +kernel) rfl rfl (Nat.le_of_ble_eq_true rfl) dX11_ready_99 (fun H locs hP hD hS => ?_)
            have hP : va_P g.1 CLS [(m0, .inr (11, [.ref mh, .ref mg, .ref ms, .ref md, .ref mc, .ref mr, .int (-1), .int 0, .int 0, .int 0, .long 0, .int 0, .int 0, .int 2]))] H := hP
            have hD : va_D A [(m0, .inr (11, [.ref mh, .ref mg, .ref ms, .ref md, .ref mc, .ref mr, .int (-1), .int 0, .int 0, .int 0, .long 0, .int 0, .int 0, .int 2]))] := hD
            refine lv_aload_n hx hb dX11_ready_102 rfl (lv_at hl 1 rfl) ?_
            refine va_get (D := g.1) (ci := 11) (v := .int 2) (C := RX11) (T := TX11) (N := 14) hx hb htg inG_X11 hown hK hP 0 rfl rfl 13 (by decide) (htg _ k1353) (fun _ h9 => h9) rfl dX11_ready_103 ?_
            refine lv_if_le (tgt := 111) hx hb dX11_ready_106 (by decide) (fun c_58 => absurd c_58 (by decide)) (fun c_58 => ?_)
            refine lv_iconst (v := 0) hx hb dX11_ready_109 (by decide) ?_
            have hP9 := hP.sub (ws' := [(m0, .inr (11, [.ref mh, .ref mg, .ref ms, .ref md, .ref mc, .ref mr, .int (-1), .int 0, .int 0, .int 0, .long 0, .int 0, .int 0, .int 2]))]) [0] rfl
            have hD9 := hD.sub (ws' := [(m0, .inr (11, [.ref mh, .ref mg, .ref ms, .ref md, .ref mc, .ref mr, .int (-1), .int 0, .int 0, .int 0, .long 0, .int 0, .int 0, .int 2]))]) [0] (by decide) rfl
            refine W.widen (k := 20) (n := 100) (Nat.le_of_ble_eq_true rfl) (Nat.le_of_ble_eq_true rfl) ?_
            exact W.zret (v := 0) hx hb hr rfl (fun t ht hW => ⟨⟨0, [(m0, .inr (11, [.ref mh, .ref mg, .ref ms, .ref md, .ref mc, .ref mr, .int (-1), .int 0, .int 0, .int 0, .long 0, .int 0, .int 0, .int 2]))], rfl, Or.inl ⟨by simp only [okRdy]; simp only [inR, Int32.toInt_toInt64, ll0, ll1, ll7, ll99, ll30, ll9, ll40, ll50, ll20, lln20, lln1, fa_lt, fa_le, fa_eq, li0, li1, li97, li99, li103, li109, li115, li120] at c_1 c_33 c_37 c_41 c_55 ⊢; omega, rfl, rfl⟩, by rw [ht]; exact hP9, va_K.moved hW.alike hK, hD9⟩, hS.F ht⟩) hS.2.2 dX11_ready_110
          · refine lv_iload_n hx hb dX11_ready_30 rfl (lv_at hl 1 rfl) ?_
            refine lv_bipush (v := 99) hx hb dX11_ready_31 (by decide) ?_
            refine lv_icmp_ne (tgt := 52) hx hb dX11_ready_33 (by decide) (fun c_59 => ?_) (fun c_59 => ?_)
            · refine lv_iconst (v := 0) hx hb dX11_ready_52 (by decide) ?_
              refine lv_istore_n (lv' := [(3, .int 0), (0, .ref m0), (1, .int n1), (2, .int n2)]) hx hb dX11_ready_53 rfl hl (by decide) rfl (fun ls hl => ?_)
              refine lv_aload_n hx hb dX11_ready_54 rfl (lv_at hl 1 rfl) ?_
              refine lv_iload_n hx hb dX11_ready_55 rfl (lv_at hl 0 rfl) ?_
              refine lv_if_ne (tgt := 63) hx hb dX11_ready_56 (by decide) (fun c_60 => absurd (by decide) c_60) (fun c_60 => ?_)
              refine lv_iconst (v := 1) hx hb dX11_ready_59 (by decide) ?_
              refine lv_goto (tgt := 99) hx hb dX11_ready_60 (by decide) ?_
              refine va_put (D := g.1) (ci := 11) (v := .int 1) (ty := .int) (C := RX11) (T := TX11) (N := 14) hx hb htg inG_X11 tyX11 tyX11_ok nmX11 hown hK hP hD hS 0 rfl rfl 13 (by decide) (htg _ k1353) (fun _ h9 => h9) rfl (by decide +kernel) rfl rfl (Nat.le_of_ble_eq_true rfl) dX11_ready_99 (fun H locs hP hD hS => ?_)
              have hP : va_P g.1 CLS [(m0, .inr (11, [.ref mh, .ref mg, .ref ms, .ref md, .ref mc, .ref mr, .int (-1), .int 0, .int 0, .int 0, .long 0, .int 0, .int 0, .int 1]))] H := hP
              have hD : va_D A [(m0, .inr (11, [.ref mh, .ref mg, .ref ms, .ref md, .ref mc, .ref mr, .int (-1), .int 0, .int 0, .int 0, .long 0, .int 0, .int 0, .int 1]))] := hD
              refine lv_aload_n hx hb dX11_ready_102 rfl (lv_at hl 1 rfl) ?_
              refine va_get (D := g.1) (ci := 11) (v := .int 1) (C := RX11) (T := TX11) (N := 14) hx hb htg inG_X11 hown hK hP 0 rfl rfl 13 (by decide) (htg _ k1353) (fun _ h9 => h9) rfl dX11_ready_103 ?_
              refine lv_if_le (tgt := 111) hx hb dX11_ready_106 (by decide) (fun c_61 => absurd c_61 (by decide)) (fun c_61 => ?_)
              refine lv_iconst (v := 0) hx hb dX11_ready_109 (by decide) ?_
              have hP9 := hP.sub (ws' := [(m0, .inr (11, [.ref mh, .ref mg, .ref ms, .ref md, .ref mc, .ref mr, .int (-1), .int 0, .int 0, .int 0, .long 0, .int 0, .int 0, .int 1]))]) [0] rfl
              have hD9 := hD.sub (ws' := [(m0, .inr (11, [.ref mh, .ref mg, .ref ms, .ref md, .ref mc, .ref mr, .int (-1), .int 0, .int 0, .int 0, .long 0, .int 0, .int 0, .int 1]))]) [0] (by decide) rfl
              refine W.widen (k := 20) (n := 100) (Nat.le_of_ble_eq_true rfl) (Nat.le_of_ble_eq_true rfl) ?_
              exact W.zret (v := 0) hx hb hr rfl (fun t ht hW => ⟨⟨0, [(m0, .inr (11, [.ref mh, .ref mg, .ref ms, .ref md, .ref mc, .ref mr, .int (-1), .int 0, .int 0, .int 0, .long 0, .int 0, .int 0, .int 1]))], rfl, Or.inr (⟨by simp only [okRdy]; simp only [inR, Int32.toInt_toInt64, ll0, ll1, ll7, ll99, ll30, ll9, ll40, ll50, ll20, lln20, lln1, fa_lt, fa_le, fa_eq, li0, li1, li97, li99, li103, li109, li115, li120] at c_1 c_33 c_37 c_41 c_55 c_59 ⊢; omega, rfl, rfl⟩), by rw [ht]; exact hP9, va_K.moved hW.alike hK, hD9⟩, hS.F ht⟩) hS.2.2 dX11_ready_110
            · refine lv_iload_n hx hb dX11_ready_36 rfl (lv_at hl 2 rfl) ?_
              refine lv_bipush (v := 120) hx hb dX11_ready_37 (by decide) ?_
              refine lv_icmp_eq (tgt := 48) hx hb dX11_ready_39 (by decide) (fun c_62 => ?_) (fun c_62 => ?_)
              · refine lv_iconst (v := 1) hx hb dX11_ready_48 (by decide) ?_
                refine lv_goto (tgt := 53) hx hb dX11_ready_49 (by decide) ?_
                refine lv_istore_n (lv' := [(3, .int 1), (0, .ref m0), (1, .int n1), (2, .int n2)]) hx hb dX11_ready_53 rfl hl (by decide) rfl (fun ls hl => ?_)
                refine lv_aload_n hx hb dX11_ready_54 rfl (lv_at hl 1 rfl) ?_
                refine lv_iload_n hx hb dX11_ready_55 rfl (lv_at hl 0 rfl) ?_
                refine lv_if_ne (tgt := 63) hx hb dX11_ready_56 (by decide) (fun c_63 => ?_) (fun c_63 => absurd c_63 (by decide))
                refine lv_aload_n hx hb dX11_ready_63 rfl (lv_at hl 1 rfl) ?_
                have hPc := hP.sub (ws' := [(m0, .inr (11, [.ref mh, .ref mg, .ref ms, .ref md, .ref mc, .ref mr, .int (-1), .int 0, .int 0, .int 0, .long 0, .int 0, .int 0, .int 0]))]) [0] rfl
                have hDc := hD.sub (ws' := [(m0, .inr (11, [.ref mh, .ref mg, .ref ms, .ref md, .ref mc, .ref mr, .int (-1), .int 0, .int 0, .int 0, .long 0, .int 0, .int 0, .int 0]))]) [0] (by decide) rfl
                have hFc := va_free (wc := [(m0, .inr (11, [.ref mh, .ref mg, .ref ms, .ref md, .ref mc, .ref mr, .int (-1), .int 0, .int 0, .int 0, .long 0, .int 0, .int 0, .int 0]))]) hD hS hA [0] rfl
                refine q_ci (wr := []) (va_runV (As := []) (rest := [.ref m0]) ⟨hx, hb, hml, hown, htg⟩ (c_X11_isOn l hfl g m0 mh mg ms md mc mr  H.size) ⟨(qB htg k1413 k57 k1410 ok_X11_isOn rfl rfl ⟨Nat.le_of_ble_eq_true rfl, Nat.le_of_ble_eq_true rfl⟩), htg _ k1412, htg _ k17⟩ ⟨(q_pre [.ref m0] hPc hDc hK hS hT hFc).1, va_recv hK hP (ci := 11) (q0 := 0) rfl rfl, (q_pre [.ref m0] hPc hDc hK hS hT hFc).2⟩ rfl rfl hl.1 rfl (lv_room (Nat.le_of_ble_eq_true rfl)) dX11_ready_64 ⟨Nat.le_of_ble_eq_true rfl, Nat.le_of_ble_eq_true rfl⟩) hP hD hS hFc [0] [] rfl rfl (by decide) (by decide) (fun r9 u9 H locs hw hP hD hS => ?_)
                try dsimp only at hw
                rcases hw with ⟨rfl, rfl⟩
                have hP : va_P g.1 CLS [(m0, .inr (11, [.ref mh, .ref mg, .ref ms, .ref md, .ref mc, .ref mr, .int (-1), .int 0, .int 0, .int 0, .long 0, .int 0, .int 0, .int 0]))] H := hP
                have hD : va_D A [(m0, .inr (11, [.ref mh, .ref mg, .ref ms, .ref md, .ref mc, .ref mr, .int (-1), .int 0, .int 0, .int 0, .long 0, .int 0, .int 0, .int 0]))] := hD
                refine W.widen (k := 0) (n := 0) (Nat.le_of_ble_eq_true rfl) (Nat.le_of_ble_eq_true rfl) ?_
                refine lv_if_ne (tgt := 74) hx hb dX11_ready_67 (by decide) (fun c_64 => absurd (by decide) c_64) (fun c_64 => ?_)
                refine lv_iconst (v := 2) hx hb dX11_ready_70 (by decide) ?_
                refine lv_goto (tgt := 99) hx hb dX11_ready_71 (by decide) ?_
                refine va_put (D := g.1) (ci := 11) (v := .int 2) (ty := .int) (C := RX11) (T := TX11) (N := 14) hx hb htg inG_X11 tyX11 tyX11_ok nmX11 hown hK hP hD hS 0 rfl rfl 13 (by decide) (htg _ k1353) (fun _ h9 => h9) rfl (by decide +kernel) rfl rfl (Nat.le_of_ble_eq_true rfl) dX11_ready_99 (fun H locs hP hD hS => ?_)
                have hP : va_P g.1 CLS [(m0, .inr (11, [.ref mh, .ref mg, .ref ms, .ref md, .ref mc, .ref mr, .int (-1), .int 0, .int 0, .int 0, .long 0, .int 0, .int 0, .int 2]))] H := hP
                have hD : va_D A [(m0, .inr (11, [.ref mh, .ref mg, .ref ms, .ref md, .ref mc, .ref mr, .int (-1), .int 0, .int 0, .int 0, .long 0, .int 0, .int 0, .int 2]))] := hD
                refine lv_aload_n hx hb dX11_ready_102 rfl (lv_at hl 1 rfl) ?_
                refine va_get (D := g.1) (ci := 11) (v := .int 2) (C := RX11) (T := TX11) (N := 14) hx hb htg inG_X11 hown hK hP 0 rfl rfl 13 (by decide) (htg _ k1353) (fun _ h9 => h9) rfl dX11_ready_103 ?_
                refine lv_if_le (tgt := 111) hx hb dX11_ready_106 (by decide) (fun c_65 => absurd c_65 (by decide)) (fun c_65 => ?_)
                refine lv_iconst (v := 0) hx hb dX11_ready_109 (by decide) ?_
                have hP9 := hP.sub (ws' := [(m0, .inr (11, [.ref mh, .ref mg, .ref ms, .ref md, .ref mc, .ref mr, .int (-1), .int 0, .int 0, .int 0, .long 0, .int 0, .int 0, .int 2]))]) [0] rfl
                have hD9 := hD.sub (ws' := [(m0, .inr (11, [.ref mh, .ref mg, .ref ms, .ref md, .ref mc, .ref mr, .int (-1), .int 0, .int 0, .int 0, .long 0, .int 0, .int 0, .int 2]))]) [0] (by decide) rfl
                refine W.widen (k := 20) (n := 100) (Nat.le_of_ble_eq_true rfl) (Nat.le_of_ble_eq_true rfl) ?_
                exact W.zret (v := 0) hx hb hr rfl (fun t ht hW => ⟨⟨0, [(m0, .inr (11, [.ref mh, .ref mg, .ref ms, .ref md, .ref mc, .ref mr, .int (-1), .int 0, .int 0, .int 0, .long 0, .int 0, .int 0, .int 2]))], rfl, Or.inl ⟨by simp only [okRdy]; simp only [inR, Int32.toInt_toInt64, ll0, ll1, ll7, ll99, ll30, ll9, ll40, ll50, ll20, lln20, lln1, fa_lt, fa_le, fa_eq, li0, li1, li97, li99, li103, li109, li115, li120] at c_1 c_33 c_37 c_41 c_55 c_59 c_62 ⊢; omega, rfl, rfl⟩, by rw [ht]; exact hP9, va_K.moved hW.alike hK, hD9⟩, hS.F ht⟩) hS.2.2 dX11_ready_110
              · refine lv_iload_n hx hb dX11_ready_42 rfl (lv_at hl 2 rfl) ?_
                refine lv_bipush (v := 115) hx hb dX11_ready_43 (by decide) ?_
                refine lv_icmp_ne (tgt := 52) hx hb dX11_ready_45 (by decide) (fun c_66 => ?_) (fun c_66 => ?_)
                · refine lv_iconst (v := 0) hx hb dX11_ready_52 (by decide) ?_
                  refine lv_istore_n (lv' := [(3, .int 0), (0, .ref m0), (1, .int n1), (2, .int n2)]) hx hb dX11_ready_53 rfl hl (by decide) rfl (fun ls hl => ?_)
                  refine lv_aload_n hx hb dX11_ready_54 rfl (lv_at hl 1 rfl) ?_
                  refine lv_iload_n hx hb dX11_ready_55 rfl (lv_at hl 0 rfl) ?_
                  refine lv_if_ne (tgt := 63) hx hb dX11_ready_56 (by decide) (fun c_67 => absurd (by decide) c_67) (fun c_67 => ?_)
                  refine lv_iconst (v := 1) hx hb dX11_ready_59 (by decide) ?_
                  refine lv_goto (tgt := 99) hx hb dX11_ready_60 (by decide) ?_
                  refine va_put (D := g.1) (ci := 11) (v := .int 1) (ty := .int) (C := RX11) (T := TX11) (N := 14) hx hb htg inG_X11 tyX11 tyX11_ok nmX11 hown hK hP hD hS 0 rfl rfl 13 (by decide) (htg _ k1353) (fun _ h9 => h9) rfl (by decide +kernel) rfl rfl (Nat.le_of_ble_eq_true rfl) dX11_ready_99 (fun H locs hP hD hS => ?_)
                  have hP : va_P g.1 CLS [(m0, .inr (11, [.ref mh, .ref mg, .ref ms, .ref md, .ref mc, .ref mr, .int (-1), .int 0, .int 0, .int 0, .long 0, .int 0, .int 0, .int 1]))] H := hP
                  have hD : va_D A [(m0, .inr (11, [.ref mh, .ref mg, .ref ms, .ref md, .ref mc, .ref mr, .int (-1), .int 0, .int 0, .int 0, .long 0, .int 0, .int 0, .int 1]))] := hD
                  refine lv_aload_n hx hb dX11_ready_102 rfl (lv_at hl 1 rfl) ?_
                  refine va_get (D := g.1) (ci := 11) (v := .int 1) (C := RX11) (T := TX11) (N := 14) hx hb htg inG_X11 hown hK hP 0 rfl rfl 13 (by decide) (htg _ k1353) (fun _ h9 => h9) rfl dX11_ready_103 ?_
                  refine lv_if_le (tgt := 111) hx hb dX11_ready_106 (by decide) (fun c_68 => absurd c_68 (by decide)) (fun c_68 => ?_)
                  refine lv_iconst (v := 0) hx hb dX11_ready_109 (by decide) ?_
                  have hP9 := hP.sub (ws' := [(m0, .inr (11, [.ref mh, .ref mg, .ref ms, .ref md, .ref mc, .ref mr, .int (-1), .int 0, .int 0, .int 0, .long 0, .int 0, .int 0, .int 1]))]) [0] rfl
                  have hD9 := hD.sub (ws' := [(m0, .inr (11, [.ref mh, .ref mg, .ref ms, .ref md, .ref mc, .ref mr, .int (-1), .int 0, .int 0, .int 0, .long 0, .int 0, .int 0, .int 1]))]) [0] (by decide) rfl
                  refine W.widen (k := 20) (n := 100) (Nat.le_of_ble_eq_true rfl) (Nat.le_of_ble_eq_true rfl) ?_
                  exact W.zret (v := 0) hx hb hr rfl (fun t ht hW => ⟨⟨0, [(m0, .inr (11, [.ref mh, .ref mg, .ref ms, .ref md, .ref mc, .ref mr, .int (-1), .int 0, .int 0, .int 0, .long 0, .int 0, .int 0, .int 1]))], rfl, Or.inr (⟨by simp only [okRdy]; simp only [inR, Int32.toInt_toInt64, ll0, ll1, ll7, ll99, ll30, ll9, ll40, ll50, ll20, lln20, lln1, fa_lt, fa_le, fa_eq, li0, li1, li97, li99, li103, li109, li115, li120] at c_1 c_33 c_37 c_41 c_55 c_59 c_62 c_66 ⊢; omega, rfl, rfl⟩), by rw [ht]; exact hP9, va_K.moved hW.alike hK, hD9⟩, hS.F ht⟩) hS.2.2 dX11_ready_110
                · refine lv_iconst (v := 1) hx hb dX11_ready_48 (by decide) ?_
                  refine lv_goto (tgt := 53) hx hb dX11_ready_49 (by decide) ?_
                  refine lv_istore_n (lv' := [(3, .int 1), (0, .ref m0), (1, .int n1), (2, .int n2)]) hx hb dX11_ready_53 rfl hl (by decide) rfl (fun ls hl => ?_)
                  refine lv_aload_n hx hb dX11_ready_54 rfl (lv_at hl 1 rfl) ?_
                  refine lv_iload_n hx hb dX11_ready_55 rfl (lv_at hl 0 rfl) ?_
                  refine lv_if_ne (tgt := 63) hx hb dX11_ready_56 (by decide) (fun c_69 => ?_) (fun c_69 => absurd c_69 (by decide))
                  refine lv_aload_n hx hb dX11_ready_63 rfl (lv_at hl 1 rfl) ?_
                  have hPc := hP.sub (ws' := [(m0, .inr (11, [.ref mh, .ref mg, .ref ms, .ref md, .ref mc, .ref mr, .int (-1), .int 0, .int 0, .int 0, .long 0, .int 0, .int 0, .int 0]))]) [0] rfl
                  have hDc := hD.sub (ws' := [(m0, .inr (11, [.ref mh, .ref mg, .ref ms, .ref md, .ref mc, .ref mr, .int (-1), .int 0, .int 0, .int 0, .long 0, .int 0, .int 0, .int 0]))]) [0] (by decide) rfl
                  have hFc := va_free (wc := [(m0, .inr (11, [.ref mh, .ref mg, .ref ms, .ref md, .ref mc, .ref mr, .int (-1), .int 0, .int 0, .int 0, .long 0, .int 0, .int 0, .int 0]))]) hD hS hA [0] rfl
                  refine q_ci (wr := []) (va_runV (As := []) (rest := [.ref m0]) ⟨hx, hb, hml, hown, htg⟩ (c_X11_isOn l hfl g m0 mh mg ms md mc mr  H.size) ⟨(qB htg k1413 k57 k1410 ok_X11_isOn rfl rfl ⟨Nat.le_of_ble_eq_true rfl, Nat.le_of_ble_eq_true rfl⟩), htg _ k1412, htg _ k17⟩ ⟨(q_pre [.ref m0] hPc hDc hK hS hT hFc).1, va_recv hK hP (ci := 11) (q0 := 0) rfl rfl, (q_pre [.ref m0] hPc hDc hK hS hT hFc).2⟩ rfl rfl hl.1 rfl (lv_room (Nat.le_of_ble_eq_true rfl)) dX11_ready_64 ⟨Nat.le_of_ble_eq_true rfl, Nat.le_of_ble_eq_true rfl⟩) hP hD hS hFc [0] [] rfl rfl (by decide) (by decide) (fun r9 u9 H locs hw hP hD hS => ?_)
                  try dsimp only at hw
                  rcases hw with ⟨rfl, rfl⟩
                  have hP : va_P g.1 CLS [(m0, .inr (11, [.ref mh, .ref mg, .ref ms, .ref md, .ref mc, .ref mr, .int (-1), .int 0, .int 0, .int 0, .long 0, .int 0, .int 0, .int 0]))] H := hP
                  have hD : va_D A [(m0, .inr (11, [.ref mh, .ref mg, .ref ms, .ref md, .ref mc, .ref mr, .int (-1), .int 0, .int 0, .int 0, .long 0, .int 0, .int 0, .int 0]))] := hD
                  refine W.widen (k := 0) (n := 0) (Nat.le_of_ble_eq_true rfl) (Nat.le_of_ble_eq_true rfl) ?_
                  refine lv_if_ne (tgt := 74) hx hb dX11_ready_67 (by decide) (fun c_70 => absurd (by decide) c_70) (fun c_70 => ?_)
                  refine lv_iconst (v := 2) hx hb dX11_ready_70 (by decide) ?_
                  refine lv_goto (tgt := 99) hx hb dX11_ready_71 (by decide) ?_
                  refine va_put (D := g.1) (ci := 11) (v := .int 2) (ty := .int) (C := RX11) (T := TX11) (N := 14) hx hb htg inG_X11 tyX11 tyX11_ok nmX11 hown hK hP hD hS 0 rfl rfl 13 (by decide) (htg _ k1353) (fun _ h9 => h9) rfl (by decide +kernel) rfl rfl (Nat.le_of_ble_eq_true rfl) dX11_ready_99 (fun H locs hP hD hS => ?_)
                  have hP : va_P g.1 CLS [(m0, .inr (11, [.ref mh, .ref mg, .ref ms, .ref md, .ref mc, .ref mr, .int (-1), .int 0, .int 0, .int 0, .long 0, .int 0, .int 0, .int 2]))] H := hP
                  have hD : va_D A [(m0, .inr (11, [.ref mh, .ref mg, .ref ms, .ref md, .ref mc, .ref mr, .int (-1), .int 0, .int 0, .int 0, .long 0, .int 0, .int 0, .int 2]))] := hD
                  refine lv_aload_n hx hb dX11_ready_102 rfl (lv_at hl 1 rfl) ?_
                  refine va_get (D := g.1) (ci := 11) (v := .int 2) (C := RX11) (T := TX11) (N := 14) hx hb htg inG_X11 hown hK hP 0 rfl rfl 13 (by decide) (htg _ k1353) (fun _ h9 => h9) rfl dX11_ready_103 ?_
                  refine lv_if_le (tgt := 111) hx hb dX11_ready_106 (by decide) (fun c_71 => absurd c_71 (by decide)) (fun c_71 => ?_)
                  refine lv_iconst (v := 0) hx hb dX11_ready_109 (by decide) ?_
                  have hP9 := hP.sub (ws' := [(m0, .inr (11, [.ref mh, .ref mg, .ref ms, .ref md, .ref mc, .ref mr, .int (-1), .int 0, .int 0, .int 0, .long 0, .int 0, .int 0, .int 2]))]) [0] rfl
                  have hD9 := hD.sub (ws' := [(m0, .inr (11, [.ref mh, .ref mg, .ref ms, .ref md, .ref mc, .ref mr, .int (-1), .int 0, .int 0, .int 0, .long 0, .int 0, .int 0, .int 2]))]) [0] (by decide) rfl
                  refine W.widen (k := 20) (n := 100) (Nat.le_of_ble_eq_true rfl) (Nat.le_of_ble_eq_true rfl) ?_
                  exact W.zret (v := 0) hx hb hr rfl (fun t ht hW => ⟨⟨0, [(m0, .inr (11, [.ref mh, .ref mg, .ref ms, .ref md, .ref mc, .ref mr, .int (-1), .int 0, .int 0, .int 0, .long 0, .int 0, .int 0, .int 2]))], rfl, Or.inl ⟨by simp only [okRdy]; simp only [inR, Int32.toInt_toInt64, ll0, ll1, ll7, ll99, ll30, ll9, ll40, ll50, ll20, lln20, lln1, fa_lt, fa_le, fa_eq, li0, li1, li97, li99, li103, li109, li115, li120] at c_1 c_33 c_37 c_41 c_55 c_59 c_62 c_66 ⊢; omega, rfl, rfl⟩, by rw [ht]; exact hP9, va_K.moved hW.alike hK, hD9⟩, hS.F ht⟩) hS.2.2 dX11_ready_110

set_option maxHeartbeats 4000000 in
set_option maxRecDepth 100000 in
theorem c_m_cast (l : Launch) (hfl : l.stackTraces = false) (g : GP) (m0 : Nat) (mh : Nat) (mg : Nat) (ms : Nat) (md : Nat) (mc : Nat) (mr : Nat) (n1 : Int32) (n2 : Int32) (n3 : Int32)  : CI l yX11_cast (wG yX11_cast cX11_cast 10 (Option.some Jvm.ClassFile.FieldType.char)) (LV 6 20 100) g [.ref m0, .int n1, .int n2, .int n3] ([(m0, .inr (11, [.ref mh, .ref mg, .ref ms, .ref md, .ref mc, .ref mr, .int (-1), .int 0, .int 0, .int 0, .long 0, .int 0, .int 0, .int 0]))]) (fun (r : Int32) (u : va_W) => ((okCast n1 n2 n3) ∧ r = 32 ∧ u = [(m0, .inr (11, [.ref mh, .ref mg, .ref ms, .ref md, .ref mc, .ref mr, .int (-1), .int 0, .int 0, .int 0, .long 0, .int 0, .int 0, .int 2]))]) ∨ ((¬ okCast n1 n2 n3) ∧ r = 32 ∧ u = [(m0, .inr (11, [.ref mh, .ref mg, .ref ms, .ref md, .ref mc, .ref mr, .int (-1), .int 0, .int 0, .int 0, .long 0, .int 0, .int 0, .int 1]))])) := by
  intro sz
  refine Met.ofW (cc := cX11_cast) (maxL := 10) (ret := (Option.some Jvm.ClassFile.FieldType.char)) (by decide) rfl ?_
  intro p e s m args below meth c s₁ B hml hv
  obtain ⟨rfl, hsz, hP, hK, hD0, hT0⟩ := hv
  have hx := B.exec
  have hb := B.bytes
  have hr := B.returns
  have hts := atoms_spec (ws := (wG yX11_cast cX11_cast 10 (Option.some Jvm.ClassFile.FieldType.char))) B.pre
  have htg : ∀ w ∈ G9, w.before _ s = true := fun w h => hts w (List.mem_cons_of_mem _ h)
  have hown : s.vm.findClass "HeroTableModel" = some m.cls := findClass_of_methodNamed B.named
  have hlocks := B.notSynchronized
  subst hsz
  have hD := hD0.self (sz := s.heap.size)
  have hT := hT0
  clear hT0
  generalize hAe : va_A [(m0, .inr (11, [.ref mh, .ref mg, .ref ms, .ref md, .ref mc, .ref mr, .int (-1), .int 0, .int 0, .int 0, .long 0, .int 0, .int 0, .int 0]))] s.heap.size = A at hD hT ⊢
  have hA : ∀ q : Nat, s.heap.size ≤ q → A q := fun q h => by rw [← hAe]; exact Or.inr h
  obtain ⟨H, hH0⟩ : ∃ H, H = s.heap := ⟨_, rfl⟩
  have hS : va_S A s.heap H [] := by rw [hH0]; exact va_S.rf
  have hP : va_P g.1 CLS [(m0, .inr (11, [.ref mh, .ref mg, .ref ms, .ref md, .ref mc, .ref mr, .int (-1), .int 0, .int 0, .int 0, .long 0, .int 0, .int 0, .int 0]))] H := by rw [hH0]; exact hP
  rw [← hH0]
  have hl := lv_entry ([.ref m0, .int n1, .int n2, .int n3]) (n := 10) (Nat.le_of_ble_eq_true rfl)
  rw [lg_entry_eq]
  generalize (lg_sl ([.ref m0, .int n1, .int n2, .int n3]) ++ List.replicate (10 - (lg_sl ([.ref m0, .int n1, .int n2, .int n3])).length) Slot.unset).toArray = ls at hl ⊢
  have hl : lv_has ls 10 [(0, .ref m0), (1, .int n1), (2, .int n2), (3, .int n3)] := hl
  refine q_ldcSW hx hb hown (hT.2.1 _ (List.mem_of_getElem? (i := 6) rfl)) dX11_cast_0 ?_
  refine lv_iload_n hx hb dX11_cast_3 rfl (lv_at hl 1 rfl) ?_
  have hPc := hP.sub (ws' := []) [] rfl
  have hDc := hD.sub (ws' := []) [] (by decide) rfl
  have hFc := va_free (wc := []) hD hS hA [] rfl
  refine q_ci (wr := [(m0, .inr (11, [.ref mh, .ref mg, .ref ms, .ref md, .ref mc, .ref mr, .int (-1), .int 0, .int 0, .int 0, .long 0, .int 0, .int 0, .int 0]))]) (va_runV (As := [.int n1]) (rest := []) ⟨hx, hb, hml, hown, htg⟩ (c_J0_indexOf_6 l hfl g n1  H.size) ⟨(qB htg k428 k77 k1632 ok_J0_indexOf_0f7a4 rfl rfl ⟨Nat.le_of_ble_eq_true rfl, Nat.le_of_ble_eq_true rfl⟩), htg _ k426, htg _ k427⟩ ⟨(q_pre [.ref (g.2.2 16), .int n1] hPc hDc hK hS hT hFc).1, q_recvS hT hS (i := 6) (by decide), (q_pre [.ref (g.2.2 16), .int n1] hPc hDc hK hS hT hFc).2⟩ rfl rfl hl.1 rfl (lv_room (Nat.le_of_ble_eq_true rfl)) dX11_cast_4 ⟨Nat.le_of_ble_eq_true rfl, Nat.le_of_ble_eq_true rfl⟩) hP hD hS hFc [] [0] rfl rfl (by decide) (by decide) (fun r9 u9 H locs hw hP hD hS => ?_)
  try dsimp only at hw
  rcases hw with ⟨c_1, rfl, rfl⟩ | ⟨c_2, rfl, rfl⟩
  · have hP : va_P g.1 CLS [(m0, .inr (11, [.ref mh, .ref mg, .ref ms, .ref md, .ref mc, .ref mr, .int (-1), .int 0, .int 0, .int 0, .long 0, .int 0, .int 0, .int 0]))] H := hP
    have hD : va_D A [(m0, .inr (11, [.ref mh, .ref mg, .ref ms, .ref md, .ref mc, .ref mr, .int (-1), .int 0, .int 0, .int 0, .long 0, .int 0, .int 0, .int 0]))] := hD
    refine W.widen (k := 0) (n := 0) (Nat.le_of_ble_eq_true rfl) (Nat.le_of_ble_eq_true rfl) ?_
    refine lv_if_lt (tgt := 28) hx hb dX11_cast_7 (by decide) (fun c_3 => ?_) (fun c_3 => ?_)
    · refine lv_iconst (v := 0) hx hb dX11_cast_28 (by decide) ?_
      refine lv_istore (lv' := [(4, .int 0), (0, .ref m0), (1, .int n1), (2, .int n2), (3, .int n3)]) hx hb dX11_cast_29 hl (by decide) rfl (fun ls hl => ?_)
      refine lv_aload_n hx hb dX11_cast_31 rfl (lv_at hl 1 rfl) ?_
      refine lv_iload hx hb dX11_cast_32 (lv_at hl 0 rfl) ?_
      refine lv_if_ne (tgt := 41) hx hb dX11_cast_34 (by decide) (fun c_4 => absurd (by decide) c_4) (fun c_4 => ?_)
      refine lv_iconst (v := 1) hx hb dX11_cast_37 (by decide) ?_
      refine lv_goto (tgt := 53) hx hb dX11_cast_38 (by decide) ?_
      refine va_put (D := g.1) (ci := 11) (v := .int 1) (ty := .int) (C := RX11) (T := TX11) (N := 14) hx hb htg inG_X11 tyX11 tyX11_ok nmX11 hown hK hP hD hS 0 rfl rfl 13 (by decide) (htg _ k1353) (fun _ h9 => h9) rfl (by decide +kernel) rfl rfl (Nat.le_of_ble_eq_true rfl) dX11_cast_53 (fun H locs hP hD hS => ?_)
      have hP : va_P g.1 CLS [(m0, .inr (11, [.ref mh, .ref mg, .ref ms, .ref md, .ref mc, .ref mr, .int (-1), .int 0, .int 0, .int 0, .long 0, .int 0, .int 0, .int 1]))] H := hP
      have hD : va_D A [(m0, .inr (11, [.ref mh, .ref mg, .ref ms, .ref md, .ref mc, .ref mr, .int (-1), .int 0, .int 0, .int 0, .long 0, .int 0, .int 0, .int 1]))] := hD
      refine lv_aload_n hx hb dX11_cast_56 rfl (lv_at hl 1 rfl) ?_
      refine va_get (D := g.1) (ci := 11) (v := .int 1) (C := RX11) (T := TX11) (N := 14) hx hb htg inG_X11 hown hK hP 0 rfl rfl 13 (by decide) (htg _ k1353) (fun _ h9 => h9) rfl dX11_cast_57 ?_
      refine lv_if_le (tgt := 66) hx hb dX11_cast_60 (by decide) (fun c_5 => absurd c_5 (by decide)) (fun c_5 => ?_)
      refine lv_bipush (v := 32) hx hb dX11_cast_63 (by decide) ?_
      have hP9 := hP.sub (ws' := [(m0, .inr (11, [.ref mh, .ref mg, .ref ms, .ref md, .ref mc, .ref mr, .int (-1), .int 0, .int 0, .int 0, .long 0, .int 0, .int 0, .int 1]))]) [0] rfl
      have hD9 := hD.sub (ws' := [(m0, .inr (11, [.ref mh, .ref mg, .ref ms, .ref md, .ref mc, .ref mr, .int (-1), .int 0, .int 0, .int 0, .long 0, .int 0, .int 0, .int 1]))]) [0] (by decide) rfl
      refine W.widen (k := 20) (n := 100) (Nat.le_of_ble_eq_true rfl) (Nat.le_of_ble_eq_true rfl) ?_
      exact W.zret (v := 32) hx hb hr rfl (fun t ht hW => ⟨⟨32, [(m0, .inr (11, [.ref mh, .ref mg, .ref ms, .ref md, .ref mc, .ref mr, .int (-1), .int 0, .int 0, .int 0, .long 0, .int 0, .int 0, .int 1]))], rfl, Or.inr (⟨fun hh => absurd c_3 hh.1.2, rfl, rfl⟩), by rw [ht]; exact hP9, va_K.moved hW.alike hK, hD9⟩, hS.F ht⟩) hS.2.2 dX11_cast_65
    · refine lv_iload_n hx hb dX11_cast_10 rfl (lv_at hl 1 rfl) ?_
      refine lv_bipush (v := 115) hx hb dX11_cast_11 (by decide) ?_
      refine lv_icmp_eq (tgt := 24) hx hb dX11_cast_13 (by decide) (fun c_6 => ?_) (fun c_6 => ?_)
      · refine lv_iconst (v := 1) hx hb dX11_cast_24 (by decide) ?_
        refine lv_goto (tgt := 29) hx hb dX11_cast_25 (by decide) ?_
        refine lv_istore (lv' := [(4, .int 1), (0, .ref m0), (1, .int n1), (2, .int n2), (3, .int n3)]) hx hb dX11_cast_29 hl (by decide) rfl (fun ls hl => ?_)
        refine lv_aload_n hx hb dX11_cast_31 rfl (lv_at hl 1 rfl) ?_
        refine lv_iload hx hb dX11_cast_32 (lv_at hl 0 rfl) ?_
        refine lv_if_ne (tgt := 41) hx hb dX11_cast_34 (by decide) (fun c_7 => ?_) (fun c_7 => absurd c_7 (by decide))
        refine lv_aload_n hx hb dX11_cast_41 rfl (lv_at hl 1 rfl) ?_
        have hPc := hP.sub (ws' := [(m0, .inr (11, [.ref mh, .ref mg, .ref ms, .ref md, .ref mc, .ref mr, .int (-1), .int 0, .int 0, .int 0, .long 0, .int 0, .int 0, .int 0]))]) [0] rfl
        have hDc := hD.sub (ws' := [(m0, .inr (11, [.ref mh, .ref mg, .ref ms, .ref md, .ref mc, .ref mr, .int (-1), .int 0, .int 0, .int 0, .long 0, .int 0, .int 0, .int 0]))]) [0] (by decide) rfl
        have hFc := va_free (wc := [(m0, .inr (11, [.ref mh, .ref mg, .ref ms, .ref md, .ref mc, .ref mr, .int (-1), .int 0, .int 0, .int 0, .long 0, .int 0, .int 0, .int 0]))]) hD hS hA [0] rfl
        refine q_ci (wr := []) (va_runV (As := []) (rest := [.ref m0]) ⟨hx, hb, hml, hown, htg⟩ (c_X11_isOn l hfl g m0 mh mg ms md mc mr  H.size) ⟨(qB htg k1413 k57 k1410 ok_X11_isOn rfl rfl ⟨Nat.le_of_ble_eq_true rfl, Nat.le_of_ble_eq_true rfl⟩), htg _ k1412, htg _ k17⟩ ⟨(q_pre [.ref m0] hPc hDc hK hS hT hFc).1, va_recv hK hP (ci := 11) (q0 := 0) rfl rfl, (q_pre [.ref m0] hPc hDc hK hS hT hFc).2⟩ rfl rfl hl.1 rfl (lv_room (Nat.le_of_ble_eq_true rfl)) dX11_cast_42 ⟨Nat.le_of_ble_eq_true rfl, Nat.le_of_ble_eq_true rfl⟩) hP hD hS hFc [0] [] rfl rfl (by decide) (by decide) (fun r9 u9 H locs hw hP hD hS => ?_)
        try dsimp only at hw
        rcases hw with ⟨rfl, rfl⟩
        have hP : va_P g.1 CLS [(m0, .inr (11, [.ref mh, .ref mg, .ref ms, .ref md, .ref mc, .ref mr, .int (-1), .int 0, .int 0, .int 0, .long 0, .int 0, .int 0, .int 0]))] H := hP
        have hD : va_D A [(m0, .inr (11, [.ref mh, .ref mg, .ref ms, .ref md, .ref mc, .ref mr, .int (-1), .int 0, .int 0, .int 0, .long 0, .int 0, .int 0, .int 0]))] := hD
        refine W.widen (k := 0) (n := 0) (Nat.le_of_ble_eq_true rfl) (Nat.le_of_ble_eq_true rfl) ?_
        refine lv_if_ne (tgt := 52) hx hb dX11_cast_45 (by decide) (fun c_8 => absurd (by decide) c_8) (fun c_8 => ?_)
        refine lv_iconst (v := 2) hx hb dX11_cast_48 (by decide) ?_
        refine lv_goto (tgt := 53) hx hb dX11_cast_49 (by decide) ?_
        refine va_put (D := g.1) (ci := 11) (v := .int 2) (ty := .int) (C := RX11) (T := TX11) (N := 14) hx hb htg inG_X11 tyX11 tyX11_ok nmX11 hown hK hP hD hS 0 rfl rfl 13 (by decide) (htg _ k1353) (fun _ h9 => h9) rfl (by decide +kernel) rfl rfl (Nat.le_of_ble_eq_true rfl) dX11_cast_53 (fun H locs hP hD hS => ?_)
        have hP : va_P g.1 CLS [(m0, .inr (11, [.ref mh, .ref mg, .ref ms, .ref md, .ref mc, .ref mr, .int (-1), .int 0, .int 0, .int 0, .long 0, .int 0, .int 0, .int 2]))] H := hP
        have hD : va_D A [(m0, .inr (11, [.ref mh, .ref mg, .ref ms, .ref md, .ref mc, .ref mr, .int (-1), .int 0, .int 0, .int 0, .long 0, .int 0, .int 0, .int 2]))] := hD
        refine lv_aload_n hx hb dX11_cast_56 rfl (lv_at hl 1 rfl) ?_
        refine va_get (D := g.1) (ci := 11) (v := .int 2) (C := RX11) (T := TX11) (N := 14) hx hb htg inG_X11 hown hK hP 0 rfl rfl 13 (by decide) (htg _ k1353) (fun _ h9 => h9) rfl dX11_cast_57 ?_
        refine lv_if_le (tgt := 66) hx hb dX11_cast_60 (by decide) (fun c_9 => absurd c_9 (by decide)) (fun c_9 => ?_)
        refine lv_bipush (v := 32) hx hb dX11_cast_63 (by decide) ?_
        have hP9 := hP.sub (ws' := [(m0, .inr (11, [.ref mh, .ref mg, .ref ms, .ref md, .ref mc, .ref mr, .int (-1), .int 0, .int 0, .int 0, .long 0, .int 0, .int 0, .int 2]))]) [0] rfl
        have hD9 := hD.sub (ws' := [(m0, .inr (11, [.ref mh, .ref mg, .ref ms, .ref md, .ref mc, .ref mr, .int (-1), .int 0, .int 0, .int 0, .long 0, .int 0, .int 0, .int 2]))]) [0] (by decide) rfl
        refine W.widen (k := 20) (n := 100) (Nat.le_of_ble_eq_true rfl) (Nat.le_of_ble_eq_true rfl) ?_
        exact W.zret (v := 32) hx hb hr rfl (fun t ht hW => ⟨⟨32, [(m0, .inr (11, [.ref mh, .ref mg, .ref ms, .ref md, .ref mc, .ref mr, .int (-1), .int 0, .int 0, .int 0, .long 0, .int 0, .int 0, .int 2]))], rfl, Or.inl ⟨⟨⟨c_1, c_3⟩, Or.inl c_6⟩, rfl, rfl⟩, by rw [ht]; exact hP9, va_K.moved hW.alike hK, hD9⟩, hS.F ht⟩) hS.2.2 dX11_cast_65
      · refine lv_iload_n hx hb dX11_cast_16 rfl (lv_at hl 2 rfl) ?_
        refine lv_iload_n hx hb dX11_cast_17 rfl (lv_at hl 3 rfl) ?_
        have hPc := hP.sub (ws' := []) [] rfl
        have hDc := hD.sub (ws' := []) [] (by decide) rfl
        have hFc := va_free (wc := []) hD hS hA [] rfl
        refine q_ci (wr := [(m0, .inr (11, [.ref mh, .ref mg, .ref ms, .ref md, .ref mc, .ref mr, .int (-1), .int 0, .int 0, .int 0, .long 0, .int 0, .int 0, .int 0]))]) (va_runS (As := [.int n2, .int n3]) (rest := []) ⟨hx, hb, hml, hown, htg⟩ (c_X11_isCell l hfl g n2 n3  H.size) ⟨(qB htg k1398 k57 k1396 ok_X11_isCell rfl rfl ⟨Nat.le_of_ble_eq_true rfl, Nat.le_of_ble_eq_true rfl⟩), htg _ k1397⟩ (q_pre [.int n2, .int n3] hPc hDc hK hS hT hFc) rfl rfl hl.1 rfl (lv_room (Nat.le_of_ble_eq_true rfl)) dX11_cast_18 ⟨Nat.le_of_ble_eq_true rfl, Nat.le_of_ble_eq_true rfl⟩) hP hD hS hFc [] [0] rfl rfl (by decide) (by decide) (fun r9 u9 H locs hw hP hD hS => ?_)
        try dsimp only at hw
        rcases hw with ⟨c_10, rfl, rfl⟩ | ⟨c_11, rfl, rfl⟩
        · have hP : va_P g.1 CLS [(m0, .inr (11, [.ref mh, .ref mg, .ref ms, .ref md, .ref mc, .ref mr, .int (-1), .int 0, .int 0, .int 0, .long 0, .int 0, .int 0, .int 0]))] H := hP
          have hD : va_D A [(m0, .inr (11, [.ref mh, .ref mg, .ref ms, .ref md, .ref mc, .ref mr, .int (-1), .int 0, .int 0, .int 0, .long 0, .int 0, .int 0, .int 0]))] := hD
          refine W.widen (k := 0) (n := 0) (Nat.le_of_ble_eq_true rfl) (Nat.le_of_ble_eq_true rfl) ?_
          refine lv_if_eq (tgt := 28) hx hb dX11_cast_21 (by decide) (fun c_12 => absurd c_12 (by decide)) (fun c_12 => ?_)
          refine lv_iconst (v := 1) hx hb dX11_cast_24 (by decide) ?_
          refine lv_goto (tgt := 29) hx hb dX11_cast_25 (by decide) ?_
          refine lv_istore (lv' := [(4, .int 1), (0, .ref m0), (1, .int n1), (2, .int n2), (3, .int n3)]) hx hb dX11_cast_29 hl (by decide) rfl (fun ls hl => ?_)
          refine lv_aload_n hx hb dX11_cast_31 rfl (lv_at hl 1 rfl) ?_
          refine lv_iload hx hb dX11_cast_32 (lv_at hl 0 rfl) ?_
          refine lv_if_ne (tgt := 41) hx hb dX11_cast_34 (by decide) (fun c_13 => ?_) (fun c_13 => absurd c_13 (by decide))
          refine lv_aload_n hx hb dX11_cast_41 rfl (lv_at hl 1 rfl) ?_
          have hPc := hP.sub (ws' := [(m0, .inr (11, [.ref mh, .ref mg, .ref ms, .ref md, .ref mc, .ref mr, .int (-1), .int 0, .int 0, .int 0, .long 0, .int 0, .int 0, .int 0]))]) [0] rfl
          have hDc := hD.sub (ws' := [(m0, .inr (11, [.ref mh, .ref mg, .ref ms, .ref md, .ref mc, .ref mr, .int (-1), .int 0, .int 0, .int 0, .long 0, .int 0, .int 0, .int 0]))]) [0] (by decide) rfl
          have hFc := va_free (wc := [(m0, .inr (11, [.ref mh, .ref mg, .ref ms, .ref md, .ref mc, .ref mr, .int (-1), .int 0, .int 0, .int 0, .long 0, .int 0, .int 0, .int 0]))]) hD hS hA [0] rfl
          refine q_ci (wr := []) (va_runV (As := []) (rest := [.ref m0]) ⟨hx, hb, hml, hown, htg⟩ (c_X11_isOn l hfl g m0 mh mg ms md mc mr  H.size) ⟨(qB htg k1413 k57 k1410 ok_X11_isOn rfl rfl ⟨Nat.le_of_ble_eq_true rfl, Nat.le_of_ble_eq_true rfl⟩), htg _ k1412, htg _ k17⟩ ⟨(q_pre [.ref m0] hPc hDc hK hS hT hFc).1, va_recv hK hP (ci := 11) (q0 := 0) rfl rfl, (q_pre [.ref m0] hPc hDc hK hS hT hFc).2⟩ rfl rfl hl.1 rfl (lv_room (Nat.le_of_ble_eq_true rfl)) dX11_cast_42 ⟨Nat.le_of_ble_eq_true rfl, Nat.le_of_ble_eq_true rfl⟩) hP hD hS hFc [0] [] rfl rfl (by decide) (by decide) (fun r9 u9 H locs hw hP hD hS => ?_)
          try dsimp only at hw
          rcases hw with ⟨rfl, rfl⟩
          have hP : va_P g.1 CLS [(m0, .inr (11, [.ref mh, .ref mg, .ref ms, .ref md, .ref mc, .ref mr, .int (-1), .int 0, .int 0, .int 0, .long 0, .int 0, .int 0, .int 0]))] H := hP
          have hD : va_D A [(m0, .inr (11, [.ref mh, .ref mg, .ref ms, .ref md, .ref mc, .ref mr, .int (-1), .int 0, .int 0, .int 0, .long 0, .int 0, .int 0, .int 0]))] := hD
          refine W.widen (k := 0) (n := 0) (Nat.le_of_ble_eq_true rfl) (Nat.le_of_ble_eq_true rfl) ?_
          refine lv_if_ne (tgt := 52) hx hb dX11_cast_45 (by decide) (fun c_14 => absurd (by decide) c_14) (fun c_14 => ?_)
          refine lv_iconst (v := 2) hx hb dX11_cast_48 (by decide) ?_
          refine lv_goto (tgt := 53) hx hb dX11_cast_49 (by decide) ?_
          refine va_put (D := g.1) (ci := 11) (v := .int 2) (ty := .int) (C := RX11) (T := TX11) (N := 14) hx hb htg inG_X11 tyX11 tyX11_ok nmX11 hown hK hP hD hS 0 rfl rfl 13 (by decide) (htg _ k1353) (fun _ h9 => h9) rfl (by decide +kernel) rfl rfl (Nat.le_of_ble_eq_true rfl) dX11_cast_53 (fun H locs hP hD hS => ?_)
          have hP : va_P g.1 CLS [(m0, .inr (11, [.ref mh, .ref mg, .ref ms, .ref md, .ref mc, .ref mr, .int (-1), .int 0, .int 0, .int 0, .long 0, .int 0, .int 0, .int 2]))] H := hP
          have hD : va_D A [(m0, .inr (11, [.ref mh, .ref mg, .ref ms, .ref md, .ref mc, .ref mr, .int (-1), .int 0, .int 0, .int 0, .long 0, .int 0, .int 0, .int 2]))] := hD
          refine lv_aload_n hx hb dX11_cast_56 rfl (lv_at hl 1 rfl) ?_
          refine va_get (D := g.1) (ci := 11) (v := .int 2) (C := RX11) (T := TX11) (N := 14) hx hb htg inG_X11 hown hK hP 0 rfl rfl 13 (by decide) (htg _ k1353) (fun _ h9 => h9) rfl dX11_cast_57 ?_
          refine lv_if_le (tgt := 66) hx hb dX11_cast_60 (by decide) (fun c_15 => absurd c_15 (by decide)) (fun c_15 => ?_)
          refine lv_bipush (v := 32) hx hb dX11_cast_63 (by decide) ?_
          have hP9 := hP.sub (ws' := [(m0, .inr (11, [.ref mh, .ref mg, .ref ms, .ref md, .ref mc, .ref mr, .int (-1), .int 0, .int 0, .int 0, .long 0, .int 0, .int 0, .int 2]))]) [0] rfl
          have hD9 := hD.sub (ws' := [(m0, .inr (11, [.ref mh, .ref mg, .ref ms, .ref md, .ref mc, .ref mr, .int (-1), .int 0, .int 0, .int 0, .long 0, .int 0, .int 0, .int 2]))]) [0] (by decide) rfl
          refine W.widen (k := 20) (n := 100) (Nat.le_of_ble_eq_true rfl) (Nat.le_of_ble_eq_true rfl) ?_
          exact W.zret (v := 32) hx hb hr rfl (fun t ht hW => ⟨⟨32, [(m0, .inr (11, [.ref mh, .ref mg, .ref ms, .ref md, .ref mc, .ref mr, .int (-1), .int 0, .int 0, .int 0, .long 0, .int 0, .int 0, .int 2]))], rfl, Or.inl ⟨⟨⟨c_1, c_3⟩, Or.inr c_10⟩, rfl, rfl⟩, by rw [ht]; exact hP9, va_K.moved hW.alike hK, hD9⟩, hS.F ht⟩) hS.2.2 dX11_cast_65
        · have hP : va_P g.1 CLS [(m0, .inr (11, [.ref mh, .ref mg, .ref ms, .ref md, .ref mc, .ref mr, .int (-1), .int 0, .int 0, .int 0, .long 0, .int 0, .int 0, .int 0]))] H := hP
          have hD : va_D A [(m0, .inr (11, [.ref mh, .ref mg, .ref ms, .ref md, .ref mc, .ref mr, .int (-1), .int 0, .int 0, .int 0, .long 0, .int 0, .int 0, .int 0]))] := hD
          refine W.widen (k := 0) (n := 0) (Nat.le_of_ble_eq_true rfl) (Nat.le_of_ble_eq_true rfl) ?_
          refine lv_if_eq (tgt := 28) hx hb dX11_cast_21 (by decide) (fun c_16 => ?_) (fun c_16 => absurd (by decide) c_16)
          refine lv_iconst (v := 0) hx hb dX11_cast_28 (by decide) ?_
          refine lv_istore (lv' := [(4, .int 0), (0, .ref m0), (1, .int n1), (2, .int n2), (3, .int n3)]) hx hb dX11_cast_29 hl (by decide) rfl (fun ls hl => ?_)
          refine lv_aload_n hx hb dX11_cast_31 rfl (lv_at hl 1 rfl) ?_
          refine lv_iload hx hb dX11_cast_32 (lv_at hl 0 rfl) ?_
          refine lv_if_ne (tgt := 41) hx hb dX11_cast_34 (by decide) (fun c_17 => absurd (by decide) c_17) (fun c_17 => ?_)
          refine lv_iconst (v := 1) hx hb dX11_cast_37 (by decide) ?_
          refine lv_goto (tgt := 53) hx hb dX11_cast_38 (by decide) ?_
          refine va_put (D := g.1) (ci := 11) (v := .int 1) (ty := .int) (C := RX11) (T := TX11) (N := 14) hx hb htg inG_X11 tyX11 tyX11_ok nmX11 hown hK hP hD hS 0 rfl rfl 13 (by decide) (htg _ k1353) (fun _ h9 => h9) rfl (by decide +kernel) rfl rfl (Nat.le_of_ble_eq_true rfl) dX11_cast_53 (fun H locs hP hD hS => ?_)
          have hP : va_P g.1 CLS [(m0, .inr (11, [.ref mh, .ref mg, .ref ms, .ref md, .ref mc, .ref mr, .int (-1), .int 0, .int 0, .int 0, .long 0, .int 0, .int 0, .int 1]))] H := hP
          have hD : va_D A [(m0, .inr (11, [.ref mh, .ref mg, .ref ms, .ref md, .ref mc, .ref mr, .int (-1), .int 0, .int 0, .int 0, .long 0, .int 0, .int 0, .int 1]))] := hD
          refine lv_aload_n hx hb dX11_cast_56 rfl (lv_at hl 1 rfl) ?_
          refine va_get (D := g.1) (ci := 11) (v := .int 1) (C := RX11) (T := TX11) (N := 14) hx hb htg inG_X11 hown hK hP 0 rfl rfl 13 (by decide) (htg _ k1353) (fun _ h9 => h9) rfl dX11_cast_57 ?_
          refine lv_if_le (tgt := 66) hx hb dX11_cast_60 (by decide) (fun c_18 => absurd c_18 (by decide)) (fun c_18 => ?_)
          refine lv_bipush (v := 32) hx hb dX11_cast_63 (by decide) ?_
          have hP9 := hP.sub (ws' := [(m0, .inr (11, [.ref mh, .ref mg, .ref ms, .ref md, .ref mc, .ref mr, .int (-1), .int 0, .int 0, .int 0, .long 0, .int 0, .int 0, .int 1]))]) [0] rfl
          have hD9 := hD.sub (ws' := [(m0, .inr (11, [.ref mh, .ref mg, .ref ms, .ref md, .ref mc, .ref mr, .int (-1), .int 0, .int 0, .int 0, .long 0, .int 0, .int 0, .int 1]))]) [0] (by decide) rfl
          refine W.widen (k := 20) (n := 100) (Nat.le_of_ble_eq_true rfl) (Nat.le_of_ble_eq_true rfl) ?_
          exact W.zret (v := 32) hx hb hr rfl (fun t ht hW => ⟨⟨32, [(m0, .inr (11, [.ref mh, .ref mg, .ref ms, .ref md, .ref mc, .ref mr, .int (-1), .int 0, .int 0, .int 0, .long 0, .int 0, .int 0, .int 1]))], rfl, Or.inr (⟨fun hh => hh.2.elim (fun e => absurd e c_6) (fun e => absurd e c_11), rfl, rfl⟩), by rw [ht]; exact hP9, va_K.moved hW.alike hK, hD9⟩, hS.F ht⟩) hS.2.2 dX11_cast_65
  · have hP : va_P g.1 CLS [(m0, .inr (11, [.ref mh, .ref mg, .ref ms, .ref md, .ref mc, .ref mr, .int (-1), .int 0, .int 0, .int 0, .long 0, .int 0, .int 0, .int 0]))] H := hP
    have hD : va_D A [(m0, .inr (11, [.ref mh, .ref mg, .ref ms, .ref md, .ref mc, .ref mr, .int (-1), .int 0, .int 0, .int 0, .long 0, .int 0, .int 0, .int 0]))] := hD
    refine W.widen (k := 0) (n := 0) (Nat.le_of_ble_eq_true rfl) (Nat.le_of_ble_eq_true rfl) ?_
    refine lv_if_lt (tgt := 28) hx hb dX11_cast_7 (by decide) (fun c_19 => ?_) (fun c_19 => absurd (by decide) c_19)
    refine lv_iconst (v := 0) hx hb dX11_cast_28 (by decide) ?_
    refine lv_istore (lv' := [(4, .int 0), (0, .ref m0), (1, .int n1), (2, .int n2), (3, .int n3)]) hx hb dX11_cast_29 hl (by decide) rfl (fun ls hl => ?_)
    refine lv_aload_n hx hb dX11_cast_31 rfl (lv_at hl 1 rfl) ?_
    refine lv_iload hx hb dX11_cast_32 (lv_at hl 0 rfl) ?_
    refine lv_if_ne (tgt := 41) hx hb dX11_cast_34 (by decide) (fun c_20 => absurd (by decide) c_20) (fun c_20 => ?_)
    refine lv_iconst (v := 1) hx hb dX11_cast_37 (by decide) ?_
    refine lv_goto (tgt := 53) hx hb dX11_cast_38 (by decide) ?_
    refine va_put (D := g.1) (ci := 11) (v := .int 1) (ty := .int) (C := RX11) (T := TX11) (N := 14) hx hb htg inG_X11 tyX11 tyX11_ok nmX11 hown hK hP hD hS 0 rfl rfl 13 (by decide) (htg _ k1353) (fun _ h9 => h9) rfl (by decide +kernel) rfl rfl (Nat.le_of_ble_eq_true rfl) dX11_cast_53 (fun H locs hP hD hS => ?_)
    have hP : va_P g.1 CLS [(m0, .inr (11, [.ref mh, .ref mg, .ref ms, .ref md, .ref mc, .ref mr, .int (-1), .int 0, .int 0, .int 0, .long 0, .int 0, .int 0, .int 1]))] H := hP
    have hD : va_D A [(m0, .inr (11, [.ref mh, .ref mg, .ref ms, .ref md, .ref mc, .ref mr, .int (-1), .int 0, .int 0, .int 0, .long 0, .int 0, .int 0, .int 1]))] := hD
    refine lv_aload_n hx hb dX11_cast_56 rfl (lv_at hl 1 rfl) ?_
    refine va_get (D := g.1) (ci := 11) (v := .int 1) (C := RX11) (T := TX11) (N := 14) hx hb htg inG_X11 hown hK hP 0 rfl rfl 13 (by decide) (htg _ k1353) (fun _ h9 => h9) rfl dX11_cast_57 ?_
    refine lv_if_le (tgt := 66) hx hb dX11_cast_60 (by decide) (fun c_21 => absurd c_21 (by decide)) (fun c_21 => ?_)
    refine lv_bipush (v := 32) hx hb dX11_cast_63 (by decide) ?_
    have hP9 := hP.sub (ws' := [(m0, .inr (11, [.ref mh, .ref mg, .ref ms, .ref md, .ref mc, .ref mr, .int (-1), .int 0, .int 0, .int 0, .long 0, .int 0, .int 0, .int 1]))]) [0] rfl
    have hD9 := hD.sub (ws' := [(m0, .inr (11, [.ref mh, .ref mg, .ref ms, .ref md, .ref mc, .ref mr, .int (-1), .int 0, .int 0, .int 0, .long 0, .int 0, .int 0, .int 1]))]) [0] (by decide) rfl
    refine W.widen (k := 20) (n := 100) (Nat.le_of_ble_eq_true rfl) (Nat.le_of_ble_eq_true rfl) ?_
    exact W.zret (v := 32) hx hb hr rfl (fun t ht hW => ⟨⟨32, [(m0, .inr (11, [.ref mh, .ref mg, .ref ms, .ref md, .ref mc, .ref mr, .int (-1), .int 0, .int 0, .int 0, .long 0, .int 0, .int 0, .int 1]))], rfl, Or.inr (⟨fun hh => absurd hh.1.1 c_2, rfl, rfl⟩), by rw [ht]; exact hP9, va_K.moved hW.alike hK, hD9⟩, hS.F ht⟩) hS.2.2 dX11_cast_65

set_option maxHeartbeats 4000000 in
set_option maxRecDepth 100000 in
theorem c_m_again (l : Launch) (hfl : l.stackTraces = false) (g : GP) (m0 : Nat) (mh : Nat) (mg : Nat) (ms : Nat) (md : Nat) (mc : Nat) (mr : Nat) (n1 : Int32) (n2 : Int32) (n3 : Int32)  : CI l yX11_again (wG yX11_again cX11_again 10 (Option.some Jvm.ClassFile.FieldType.int)) (LV 5 20 100) g [.ref m0, .int n1, .int n2, .int n3] ([(m0, .inr (11, [.ref mh, .ref mg, .ref ms, .ref md, .ref mc, .ref mr, .int (-1), .int 0, .int 0, .int 0, .long 0, .int 0, .int 0, .int 0])), (mh, .inr (1, [.int 0, .ref (g.2.2 1), .int 0])), (mc, .inr (1, [.int 0, .ref (g.2.2 1), .int 0]))]) (fun (r : Int32) (u : va_W) => r = (-1) ∧ u = [(m0, .inr (11, [.ref mh, .ref mg, .ref ms, .ref md, .ref mc, .ref mr, .int (-1), .int 0, .int 0, .int 0, .long 0, .int 0, .int 0, .int 1]))]) := by
  intro sz
  refine Met.ofW (cc := cX11_again) (maxL := 10) (ret := (Option.some Jvm.ClassFile.FieldType.int)) (by decide) rfl ?_
  intro p e s m args below meth c s₁ B hml hv
  obtain ⟨rfl, hsz, hP, hK, hD0, hT0⟩ := hv
  have hx := B.exec
  have hb := B.bytes
  have hr := B.returns
  have hts := atoms_spec (ws := (wG yX11_again cX11_again 10 (Option.some Jvm.ClassFile.FieldType.int))) B.pre
  have htg : ∀ w ∈ G9, w.before _ s = true := fun w h => hts w (List.mem_cons_of_mem _ h)
  have hown : s.vm.findClass "HeroTableModel" = some m.cls := findClass_of_methodNamed B.named
  have hlocks := B.notSynchronized
  subst hsz
  have hD := hD0.self (sz := s.heap.size)
  have hT := hT0
  clear hT0
  generalize hAe : va_A [(m0, .inr (11, [.ref mh, .ref mg, .ref ms, .ref md, .ref mc, .ref mr, .int (-1), .int 0, .int 0, .int 0, .long 0, .int 0, .int 0, .int 0])), (mh, .inr (1, [.int 0, .ref (g.2.2 1), .int 0])), (mc, .inr (1, [.int 0, .ref (g.2.2 1), .int 0]))] s.heap.size = A at hD hT ⊢
  have hA : ∀ q : Nat, s.heap.size ≤ q → A q := fun q h => by rw [← hAe]; exact Or.inr h
  obtain ⟨H, hH0⟩ : ∃ H, H = s.heap := ⟨_, rfl⟩
  have hS : va_S A s.heap H [] := by rw [hH0]; exact va_S.rf
  have hP : va_P g.1 CLS [(m0, .inr (11, [.ref mh, .ref mg, .ref ms, .ref md, .ref mc, .ref mr, .int (-1), .int 0, .int 0, .int 0, .long 0, .int 0, .int 0, .int 0])), (mh, .inr (1, [.int 0, .ref (g.2.2 1), .int 0])), (mc, .inr (1, [.int 0, .ref (g.2.2 1), .int 0]))] H := by rw [hH0]; exact hP
  rw [← hH0]
  have hl := lv_entry ([.ref m0, .int n1, .int n2, .int n3]) (n := 10) (Nat.le_of_ble_eq_true rfl)
  rw [lg_entry_eq]
  generalize (lg_sl ([.ref m0, .int n1, .int n2, .int n3]) ++ List.replicate (10 - (lg_sl ([.ref m0, .int n1, .int n2, .int n3])).length) Slot.unset).toArray = ls at hl ⊢
  have hl : lv_has ls 10 [(0, .ref m0), (1, .int n1), (2, .int n2), (3, .int n3)] := hl
  refine lv_iconst (v := 0) hx hb dX11_again_0 (by decide) ?_
  refine lv_istore (lv' := [(4, .int 0), (0, .ref m0), (1, .int n1), (2, .int n2), (3, .int n3)]) hx hb dX11_again_1 hl (by decide) rfl (fun ls hl => ?_)
  refine lv_aload_n hx hb dX11_again_3 rfl (lv_at hl 1 rfl) ?_
  refine va_get (D := g.1) (ci := 11) (v := .ref mc) (C := RX11) (T := TX11) (N := 14) hx hb htg inG_X11 hown hK hP 0 rfl rfl 4 (by decide) (htg _ k1344) (fun _ h9 => h9) rfl dX11_again_4 ?_
  have hPc := hP.sub (ws' := [(mc, .inr (1, [.int 0, .ref (g.2.2 1), .int 0]))]) [2] rfl
  have hDc := hD.sub (ws' := [(mc, .inr (1, [.int 0, .ref (g.2.2 1), .int 0]))]) [2] (by decide) rfl
  have hFc := va_free (wc := [(mc, .inr (1, [.int 0, .ref (g.2.2 1), .int 0]))]) hD hS hA [2] rfl
  refine q_cFq (wr := [(m0, .inr (11, [.ref mh, .ref mg, .ref ms, .ref md, .ref mc, .ref mr, .int (-1), .int 0, .int 0, .int 0, .long 0, .int 0, .int 0, .int 0])), (mh, .inr (1, [.int 0, .ref (g.2.2 1), .int 0]))]) (va_runF (As := []) (rest := []) (hK.1 1 _ rfl).2 ⟨hx, hb, hml, hown, htg⟩ (c_L_iterator l hfl g mc  H.size) (qI5 htg k1426 k60 k1419 k1422 k1424 (hT.1.2.2.1.2.2.1) okx_iterator rfl rfl ⟨Nat.le_of_ble_eq_true rfl, Nat.le_of_ble_eq_true rfl⟩) ⟨(q_pre [.ref mc] hPc hDc hK hS hT hFc).1, va_recv hK hP (ci := 1) (q0 := 2) rfl rfl, (q_pre [.ref mc] hPc hDc hK hS hT hFc).2⟩ rfl rfl hl.1 rfl (lv_room (Nat.le_of_ble_eq_true rfl)) dX11_again_7 ⟨Nat.le_of_ble_eq_true rfl, Nat.le_of_ble_eq_true rfl⟩) hP hD hS hFc [2] [0, 1] rfl rfl (by decide) (by decide) (fun r9 u9 H locs hw hP hD hS => ?_)
  try dsimp only at hw
  rcases hw with ⟨q_1, rfl, rfl⟩
  have hP : va_P g.1 CLS [(m0, .inr (11, [.ref mh, .ref mg, .ref ms, .ref md, .ref mc, .ref mr, .int (-1), .int 0, .int 0, .int 0, .long 0, .int 0, .int 0, .int 0])), (mh, .inr (1, [.int 0, .ref (g.2.2 1), .int 0])), (mc, .inr (1, [.int 0, .ref (g.2.2 1), .int 0])), (q_1, .inr (0, [.int 0, .int (-1), .int 0, .ref mc]))] H := hP
  have hD : va_D A [(m0, .inr (11, [.ref mh, .ref mg, .ref ms, .ref md, .ref mc, .ref mr, .int (-1), .int 0, .int 0, .int 0, .long 0, .int 0, .int 0, .int 0])), (mh, .inr (1, [.int 0, .ref (g.2.2 1), .int 0])), (mc, .inr (1, [.int 0, .ref (g.2.2 1), .int 0])), (q_1, .inr (0, [.int 0, .int (-1), .int 0, .ref mc]))] := hD
  refine W.widen (k := 1) (n := 4) (Nat.le_of_ble_eq_true rfl) (Nat.le_of_ble_eq_true rfl) ?_
  refine lv_astore (lv' := [(5, .ref q_1), (4, .int 0), (0, .ref m0), (1, .int n1), (2, .int n2), (3, .int n3)]) hx hb dX11_again_12 hl (by decide) rfl (fun ls hl => ?_)
  refine lv_aload hx hb dX11_again_14 (lv_at hl 0 rfl) ?_
  have hPc := hP.sub (ws' := [(q_1, .inr (0, [.int 0, .int (-1), .int 0, .ref mc])), (mc, .inr (1, [.int 0, .ref (g.2.2 1), .int 0]))]) [3, 2] rfl
  have hDc := hD.sub (ws' := [(q_1, .inr (0, [.int 0, .int (-1), .int 0, .ref mc])), (mc, .inr (1, [.int 0, .ref (g.2.2 1), .int 0]))]) [3, 2] (by decide) rfl
  have hFc := va_free (wc := [(q_1, .inr (0, [.int 0, .int (-1), .int 0, .ref mc])), (mc, .inr (1, [.int 0, .ref (g.2.2 1), .int 0]))]) hD hS hA [3, 2] rfl
  refine q_cFi (wr := [(m0, .inr (11, [.ref mh, .ref mg, .ref ms, .ref md, .ref mc, .ref mr, .int (-1), .int 0, .int 0, .int 0, .long 0, .int 0, .int 0, .int 0])), (mh, .inr (1, [.int 0, .ref (g.2.2 1), .int 0]))]) (va_runF (As := []) (rest := []) (hK.1 0 _ rfl).2 ⟨hx, hb, hml, hown, htg⟩ (c_Itr_hasNext l hfl g q_1 mc  H.size) (qI5 htg k1455 k73 k1447 k1451 k1453 (hT.1.2.2.1.2.2.2.2) okx_hasNext rfl rfl ⟨Nat.le_of_ble_eq_true rfl, Nat.le_of_ble_eq_true rfl⟩) ⟨(q_pre [.ref q_1] hPc hDc hK hS hT hFc).1, va_recv hK hP (ci := 0) (q0 := 3) rfl rfl, (q_pre [.ref q_1] hPc hDc hK hS hT hFc).2⟩ rfl rfl hl.1 rfl (lv_room (Nat.le_of_ble_eq_true rfl)) dX11_again_16 ⟨Nat.le_of_ble_eq_true rfl, Nat.le_of_ble_eq_true rfl⟩) hP hD hS hFc [3, 2] [0, 1] rfl rfl (by decide) (by decide) (fun r9 u9 H locs hw hP hD hS => ?_)
  try dsimp only at hw
  rcases hw with ⟨rfl, rfl⟩
  have hP : va_P g.1 CLS [(m0, .inr (11, [.ref mh, .ref mg, .ref ms, .ref md, .ref mc, .ref mr, .int (-1), .int 0, .int 0, .int 0, .long 0, .int 0, .int 0, .int 0])), (mh, .inr (1, [.int 0, .ref (g.2.2 1), .int 0])), (q_1, .inr (0, [.int 0, .int (-1), .int 0, .ref mc])), (mc, .inr (1, [.int 0, .ref (g.2.2 1), .int 0]))] H := hP
  have hD : va_D A [(m0, .inr (11, [.ref mh, .ref mg, .ref ms, .ref md, .ref mc, .ref mr, .int (-1), .int 0, .int 0, .int 0, .long 0, .int 0, .int 0, .int 0])), (mh, .inr (1, [.int 0, .ref (g.2.2 1), .int 0])), (q_1, .inr (0, [.int 0, .int (-1), .int 0, .ref mc])), (mc, .inr (1, [.int 0, .ref (g.2.2 1), .int 0]))] := hD
  refine W.widen (k := 1) (n := 4) (Nat.le_of_ble_eq_true rfl) (Nat.le_of_ble_eq_true rfl) ?_
  refine lv_if_eq (tgt := 59) hx hb dX11_again_21 (by decide) (fun c_2 => ?_) (fun c_2 => absurd (by decide) c_2)
  refine lv_aload_n hx hb dX11_again_59 rfl (lv_at hl 2 rfl) ?_
  refine lv_iload_n hx hb dX11_again_60 rfl (lv_at hl 3 rfl) ?_
  refine lv_i2l (v := n1.toInt64) hx hb dX11_again_61 rfl ?_
  refine lv_lconst (v := 0) hx hb dX11_again_62 (by decide) ?_
  refine lv_iload hx hb dX11_again_63 (lv_at hl 1 rfl) ?_
  refine lv_iconst (v := 1) hx hb dX11_again_65 (by decide) ?_
  refine lv_isub hx hb dX11_again_66 ?_
  refine lv_topi (fun x_3 ex_3 => ?_)
  obtain rfl : x_3 = (-1) := ex_3.trans (by decide)
  refine lv_i2l (v := (-1)) hx hb dX11_again_67 (by decide) ?_
  have hPc := hP.sub (ws' := []) [] rfl
  have hDc := hD.sub (ws' := []) [] (by decide) rfl
  have hFc := va_free (wc := []) hD hS hA [] rfl
  refine q_ci (wr := [(m0, .inr (11, [.ref mh, .ref mg, .ref ms, .ref md, .ref mc, .ref mr, .int (-1), .int 0, .int 0, .int 0, .long 0, .int 0, .int 0, .int 0])), (mh, .inr (1, [.int 0, .ref (g.2.2 1), .int 0])), (q_1, .inr (0, [.int 0, .int (-1), .int 0, .ref mc])), (mc, .inr (1, [.int 0, .ref (g.2.2 1), .int 0]))]) (va_runS (As := [.long n1.toInt64, .long 0, .long (-1)]) (rest := [.ref m0]) ⟨hx, hb, hml, hown, htg⟩ (c_X11_in l hfl g n1.toInt64 0 (-1)  H.size) ⟨(qB htg k1393 k57 k1391 ok_X11_in rfl rfl ⟨Nat.le_of_ble_eq_true rfl, Nat.le_of_ble_eq_true rfl⟩), htg _ k1392⟩ (q_pre [.long n1.toInt64, .long 0, .long (-1)] hPc hDc hK hS hT hFc) rfl rfl hl.1 rfl (lv_room (Nat.le_of_ble_eq_true rfl)) dX11_again_68 ⟨Nat.le_of_ble_eq_true rfl, Nat.le_of_ble_eq_true rfl⟩) hP hD hS hFc [] [0, 1, 2, 3] rfl rfl (by decide) (by decide) (fun r9 u9 H locs hw hP hD hS => ?_)
  try dsimp only at hw
  rcases hw with ⟨c_4, rfl, rfl⟩ | ⟨c_5, rfl, rfl⟩
  · exact absurd c_4 inNo
  · have hP : va_P g.1 CLS [(m0, .inr (11, [.ref mh, .ref mg, .ref ms, .ref md, .ref mc, .ref mr, .int (-1), .int 0, .int 0, .int 0, .long 0, .int 0, .int 0, .int 0])), (mh, .inr (1, [.int 0, .ref (g.2.2 1), .int 0])), (q_1, .inr (0, [.int 0, .int (-1), .int 0, .ref mc])), (mc, .inr (1, [.int 0, .ref (g.2.2 1), .int 0]))] H := hP
    have hD : va_D A [(m0, .inr (11, [.ref mh, .ref mg, .ref ms, .ref md, .ref mc, .ref mr, .int (-1), .int 0, .int 0, .int 0, .long 0, .int 0, .int 0, .int 0])), (mh, .inr (1, [.int 0, .ref (g.2.2 1), .int 0])), (q_1, .inr (0, [.int 0, .int (-1), .int 0, .ref mc])), (mc, .inr (1, [.int 0, .ref (g.2.2 1), .int 0]))] := hD
    refine W.widen (k := 1) (n := 4) (Nat.le_of_ble_eq_true rfl) (Nat.le_of_ble_eq_true rfl) ?_
    refine lv_if_eq (tgt := 82) hx hb dX11_again_71 (by decide) (fun c_6 => ?_) (fun c_6 => absurd (by decide) c_6)
    refine lv_iconst (v := 1) hx hb dX11_again_82 (by decide) ?_
    refine lv_goto (tgt := 103) hx hb dX11_again_83 (by decide) ?_
    refine va_put (D := g.1) (ci := 11) (v := .int 1) (ty := .int) (C := RX11) (T := TX11) (N := 14) hx hb htg inG_X11 tyX11 tyX11_ok nmX11 hown hK hP hD hS 0 rfl rfl 13 (by decide) (htg _ k1353) (fun _ h9 => h9) rfl (by decide +kernel) rfl rfl (Nat.le_of_ble_eq_true rfl) dX11_again_103 (fun H locs hP hD hS => ?_)
    have hP : va_P g.1 CLS [(m0, .inr (11, [.ref mh, .ref mg, .ref ms, .ref md, .ref mc, .ref mr, .int (-1), .int 0, .int 0, .int 0, .long 0, .int 0, .int 0, .int 1])), (mh, .inr (1, [.int 0, .ref (g.2.2 1), .int 0])), (q_1, .inr (0, [.int 0, .int (-1), .int 0, .ref mc])), (mc, .inr (1, [.int 0, .ref (g.2.2 1), .int 0]))] H := hP
    have hD : va_D A [(m0, .inr (11, [.ref mh, .ref mg, .ref ms, .ref md, .ref mc, .ref mr, .int (-1), .int 0, .int 0, .int 0, .long 0, .int 0, .int 0, .int 1])), (mh, .inr (1, [.int 0, .ref (g.2.2 1), .int 0])), (q_1, .inr (0, [.int 0, .int (-1), .int 0, .ref mc])), (mc, .inr (1, [.int 0, .ref (g.2.2 1), .int 0]))] := hD
    refine lv_aload_n hx hb dX11_again_106 rfl (lv_at hl 2 rfl) ?_
    refine va_get (D := g.1) (ci := 11) (v := .int 1) (C := RX11) (T := TX11) (N := 14) hx hb htg inG_X11 hown hK hP 0 rfl rfl 13 (by decide) (htg _ k1353) (fun _ h9 => h9) rfl dX11_again_107 ?_
    refine lv_if_le (tgt := 115) hx hb dX11_again_110 (by decide) (fun c_7 => absurd c_7 (by decide)) (fun c_7 => ?_)
    refine lv_iconst (v := (-1)) hx hb dX11_again_113 (by decide) ?_
    have hP9 := hP.sub (ws' := [(m0, .inr (11, [.ref mh, .ref mg, .ref ms, .ref md, .ref mc, .ref mr, .int (-1), .int 0, .int 0, .int 0, .long 0, .int 0, .int 0, .int 1]))]) [0] rfl
    have hD9 := hD.sub (ws' := [(m0, .inr (11, [.ref mh, .ref mg, .ref ms, .ref md, .ref mc, .ref mr, .int (-1), .int 0, .int 0, .int 0, .long 0, .int 0, .int 0, .int 1]))]) [0] (by decide) rfl
    refine W.widen (k := 20) (n := 100) (Nat.le_of_ble_eq_true rfl) (Nat.le_of_ble_eq_true rfl) ?_
    exact W.iret (v := (-1)) hx hb hr (fun t ht hW => ⟨⟨(-1), [(m0, .inr (11, [.ref mh, .ref mg, .ref ms, .ref md, .ref mc, .ref mr, .int (-1), .int 0, .int 0, .int 0, .long 0, .int 0, .int 0, .int 1]))], rfl, ⟨rfl, rfl⟩, by rw [ht]; exact hP9, va_K.moved hW.alike hK, hD9⟩, hS.F ht⟩) hS.2.2 dX11_again_114

set_option maxHeartbeats 4000000 in
set_option maxRecDepth 100000 in
theorem c_m_hitShare (l : Launch) (hfl : l.stackTraces = false) (g : GP) (m0 : Nat) (mh : Nat) (mg : Nat) (ms : Nat) (md : Nat) (mc : Nat) (mr : Nat)  : CF l yX11_hitShare (wG yX11_hitShare cX11_hitShare 1 (Option.some Jvm.ClassFile.FieldType.float)) (LV 1 0 0) g [.ref m0] ([(m0, .inr (11, [.ref mh, .ref mg, .ref ms, .ref md, .ref mc, .ref mr, .int (-1), .int 0, .int 0, .int 0, .long 0, .int 0, .int 0, .int 0]))]) (fun (r : UInt32) (u : va_W) => r = FP.fconst0 ∧ u = [(m0, .inr (11, [.ref mh, .ref mg, .ref ms, .ref md, .ref mc, .ref mr, .int (-1), .int 0, .int 0, .int 0, .long 0, .int 0, .int 0, .int 1]))]) := by
  intro sz
  refine Met.ofW (cc := cX11_hitShare) (maxL := 1) (ret := (Option.some Jvm.ClassFile.FieldType.float)) (by decide) rfl ?_
  intro p e s m args below meth c s₁ B hml hv
  obtain ⟨rfl, hsz, hP, hK, hD0, hT0⟩ := hv
  have hx := B.exec
  have hb := B.bytes
  have hr := B.returns
  have hts := atoms_spec (ws := (wG yX11_hitShare cX11_hitShare 1 (Option.some Jvm.ClassFile.FieldType.float))) B.pre
  have htg : ∀ w ∈ G9, w.before _ s = true := fun w h => hts w (List.mem_cons_of_mem _ h)
  have hown : s.vm.findClass "HeroTableModel" = some m.cls := findClass_of_methodNamed B.named
  have hlocks := B.notSynchronized
  subst hsz
  have hD := hD0.self (sz := s.heap.size)
  have hT := hT0
  clear hT0
  generalize hAe : va_A [(m0, .inr (11, [.ref mh, .ref mg, .ref ms, .ref md, .ref mc, .ref mr, .int (-1), .int 0, .int 0, .int 0, .long 0, .int 0, .int 0, .int 0]))] s.heap.size = A at hD hT ⊢
  have hA : ∀ q : Nat, s.heap.size ≤ q → A q := fun q h => by rw [← hAe]; exact Or.inr h
  obtain ⟨H, hH0⟩ : ∃ H, H = s.heap := ⟨_, rfl⟩
  have hS : va_S A s.heap H [] := by rw [hH0]; exact va_S.rf
  have hP : va_P g.1 CLS [(m0, .inr (11, [.ref mh, .ref mg, .ref ms, .ref md, .ref mc, .ref mr, .int (-1), .int 0, .int 0, .int 0, .long 0, .int 0, .int 0, .int 0]))] H := by rw [hH0]; exact hP
  rw [← hH0]
  have hl := lv_entry ([.ref m0]) (n := 1) (Nat.le_of_ble_eq_true rfl)
  rw [lg_entry_eq]
  generalize (lg_sl ([.ref m0]) ++ List.replicate (1 - (lg_sl ([.ref m0])).length) Slot.unset).toArray = ls at hl ⊢
  have hl : lv_has ls 1 [(0, .ref m0)] := hl
  refine lv_aload_n hx hb dX11_hitShare_0 rfl (lv_at hl 0 rfl) ?_
  refine lv_aload_n hx hb dX11_hitShare_1 rfl (lv_at hl 0 rfl) ?_
  refine va_get (D := g.1) (ci := 11) (v := .int 0) (C := RX11) (T := TX11) (N := 14) hx hb htg inG_X11 hown hK hP 0 rfl rfl 11 (by decide) (htg _ k1351) (fun _ h9 => h9) rfl dX11_hitShare_2 ?_
  refine lv_if_ne (tgt := 12) hx hb dX11_hitShare_5 (by decide) (fun c_1 => absurd (by decide) c_1) (fun c_1 => ?_)
  refine lv_iconst (v := 1) hx hb dX11_hitShare_8 (by decide) ?_
  refine lv_goto (tgt := 13) hx hb dX11_hitShare_9 (by decide) ?_
  refine va_put (D := g.1) (ci := 11) (v := .int 1) (ty := .int) (C := RX11) (T := TX11) (N := 14) hx hb htg inG_X11 tyX11 tyX11_ok nmX11 hown hK hP hD hS 0 rfl rfl 13 (by decide) (htg _ k1353) (fun _ h9 => h9) rfl (by decide +kernel) rfl rfl (Nat.le_of_ble_eq_true rfl) dX11_hitShare_13 (fun H locs hP hD hS => ?_)
  have hP : va_P g.1 CLS [(m0, .inr (11, [.ref mh, .ref mg, .ref ms, .ref md, .ref mc, .ref mr, .int (-1), .int 0, .int 0, .int 0, .long 0, .int 0, .int 0, .int 1]))] H := hP
  have hD : va_D A [(m0, .inr (11, [.ref mh, .ref mg, .ref ms, .ref md, .ref mc, .ref mr, .int (-1), .int 0, .int 0, .int 0, .long 0, .int 0, .int 0, .int 1]))] := hD
  refine lv_aload_n hx hb dX11_hitShare_16 rfl (lv_at hl 0 rfl) ?_
  refine va_get (D := g.1) (ci := 11) (v := .int 1) (C := RX11) (T := TX11) (N := 14) hx hb htg inG_X11 hown hK hP 0 rfl rfl 13 (by decide) (htg _ k1353) (fun _ h9 => h9) rfl dX11_hitShare_17 ?_
  refine lv_if_ne (tgt := 37) hx hb dX11_hitShare_20 (by decide) (fun c_2 => ?_) (fun c_2 => absurd c_2 (by decide))
  refine lv_fconst0 hx hb dX11_hitShare_37 ?_
  have hP9 := hP.sub (ws' := [(m0, .inr (11, [.ref mh, .ref mg, .ref ms, .ref md, .ref mc, .ref mr, .int (-1), .int 0, .int 0, .int 0, .long 0, .int 0, .int 0, .int 1]))]) [0] rfl
  have hD9 := hD.sub (ws' := [(m0, .inr (11, [.ref mh, .ref mg, .ref ms, .ref md, .ref mc, .ref mr, .int (-1), .int 0, .int 0, .int 0, .long 0, .int 0, .int 0, .int 1]))]) [0] (by decide) rfl
  refine W.widen (k := 0) (n := 0) (Nat.le_of_ble_eq_true rfl) (Nat.le_of_ble_eq_true rfl) ?_
  exact W.fret (v := FP.fconst0) hx hb hr (fun t ht hW => ⟨⟨FP.fconst0, [(m0, .inr (11, [.ref mh, .ref mg, .ref ms, .ref md, .ref mc, .ref mr, .int (-1), .int 0, .int 0, .int 0, .long 0, .int 0, .int 0, .int 1]))], rfl, ⟨rfl, rfl⟩, by rw [ht]; exact hP9, va_K.moved hW.alike hK, hD9⟩, hS.F ht⟩) hS.2.2 dX11_hitShare_38

set_option maxHeartbeats 4000000 in
set_option maxRecDepth 100000 in
theorem c_m_meanLife (l : Launch) (hfl : l.stackTraces = false) (g : GP) (m0 : Nat) (mh : Nat) (mg : Nat) (ms : Nat) (md : Nat) (mc : Nat) (mr : Nat)  : CD l yX11_meanLife (wG yX11_meanLife cX11_meanLife 4 (Option.some Jvm.ClassFile.FieldType.double)) (LV 5 20 100) g [.ref m0] ([(m0, .inr (11, [.ref mh, .ref mg, .ref ms, .ref md, .ref mc, .ref mr, .int (-1), .int 0, .int 0, .int 0, .long 0, .int 0, .int 0, .int 0])), (mh, .inr (1, [.int 0, .ref (g.2.2 1), .int 0]))]) (fun (r : UInt64) (u : va_W) => r = FP.dconst0 ∧ u = [(m0, .inr (11, [.ref mh, .ref mg, .ref ms, .ref md, .ref mc, .ref mr, .int (-1), .int 0, .int 0, .int 0, .long 0, .int 0, .int 0, .int 1]))]) := by
  intro sz
  refine Met.ofW (cc := cX11_meanLife) (maxL := 4) (ret := (Option.some Jvm.ClassFile.FieldType.double)) (by decide) rfl ?_
  intro p e s m args below meth c s₁ B hml hv
  obtain ⟨rfl, hsz, hP, hK, hD0, hT0⟩ := hv
  have hx := B.exec
  have hb := B.bytes
  have hr := B.returns
  have hts := atoms_spec (ws := (wG yX11_meanLife cX11_meanLife 4 (Option.some Jvm.ClassFile.FieldType.double))) B.pre
  have htg : ∀ w ∈ G9, w.before _ s = true := fun w h => hts w (List.mem_cons_of_mem _ h)
  have hown : s.vm.findClass "HeroTableModel" = some m.cls := findClass_of_methodNamed B.named
  have hlocks := B.notSynchronized
  subst hsz
  have hD := hD0.self (sz := s.heap.size)
  have hT := hT0
  clear hT0
  generalize hAe : va_A [(m0, .inr (11, [.ref mh, .ref mg, .ref ms, .ref md, .ref mc, .ref mr, .int (-1), .int 0, .int 0, .int 0, .long 0, .int 0, .int 0, .int 0])), (mh, .inr (1, [.int 0, .ref (g.2.2 1), .int 0]))] s.heap.size = A at hD hT ⊢
  have hA : ∀ q : Nat, s.heap.size ≤ q → A q := fun q h => by rw [← hAe]; exact Or.inr h
  obtain ⟨H, hH0⟩ : ∃ H, H = s.heap := ⟨_, rfl⟩
  have hS : va_S A s.heap H [] := by rw [hH0]; exact va_S.rf
  have hP : va_P g.1 CLS [(m0, .inr (11, [.ref mh, .ref mg, .ref ms, .ref md, .ref mc, .ref mr, .int (-1), .int 0, .int 0, .int 0, .long 0, .int 0, .int 0, .int 0])), (mh, .inr (1, [.int 0, .ref (g.2.2 1), .int 0]))] H := by rw [hH0]; exact hP
  rw [← hH0]
  have hl := lv_entry ([.ref m0]) (n := 4) (Nat.le_of_ble_eq_true rfl)
  rw [lg_entry_eq]
  generalize (lg_sl ([.ref m0]) ++ List.replicate (4 - (lg_sl ([.ref m0])).length) Slot.unset).toArray = ls at hl ⊢
  have hl : lv_has ls 4 [(0, .ref m0)] := hl
  refine lv_aload_n hx hb dX11_meanLife_0 rfl (lv_at hl 0 rfl) ?_
  refine lv_aload_n hx hb dX11_meanLife_1 rfl (lv_at hl 0 rfl) ?_
  refine va_get (D := g.1) (ci := 11) (v := .ref mh) (C := RX11) (T := TX11) (N := 14) hx hb htg inG_X11 hown hK hP 0 rfl rfl 0 (by decide) (htg _ k1340) (fun _ h9 => h9) rfl dX11_meanLife_2 ?_
  have hPc := hP.sub (ws' := [(mh, .inr (1, [.int 0, .ref (g.2.2 1), .int 0]))]) [1] rfl
  have hDc := hD.sub (ws' := [(mh, .inr (1, [.int 0, .ref (g.2.2 1), .int 0]))]) [1] (by decide) rfl
  have hFc := va_free (wc := [(mh, .inr (1, [.int 0, .ref (g.2.2 1), .int 0]))]) hD hS hA [1] rfl
  refine q_cFi (wr := [(m0, .inr (11, [.ref mh, .ref mg, .ref ms, .ref md, .ref mc, .ref mr, .int (-1), .int 0, .int 0, .int 0, .long 0, .int 0, .int 0, .int 0]))]) (va_runF (As := []) (rest := [.ref m0]) (hK.1 1 _ rfl).2 ⟨hx, hb, hml, hown, htg⟩ (c_L_isEmpty l hfl g mh  H.size) (qI5 htg k1876 k60 k1869 k1872 k1874 (hT.1.2.2.1.2.1) okx_isEmpty rfl rfl ⟨Nat.le_of_ble_eq_true rfl, Nat.le_of_ble_eq_true rfl⟩) ⟨(q_pre [.ref mh] hPc hDc hK hS hT hFc).1, va_recv hK hP (ci := 1) (q0 := 1) rfl rfl, (q_pre [.ref mh] hPc hDc hK hS hT hFc).2⟩ rfl rfl hl.1 rfl (lv_room (Nat.le_of_ble_eq_true rfl)) dX11_meanLife_5 ⟨Nat.le_of_ble_eq_true rfl, Nat.le_of_ble_eq_true rfl⟩) hP hD hS hFc [1] [0] rfl rfl (by decide) (by decide) (fun r9 u9 H locs hw hP hD hS => ?_)
  try dsimp only at hw
  rcases hw with ⟨rfl, rfl⟩
  have hP : va_P g.1 CLS [(m0, .inr (11, [.ref mh, .ref mg, .ref ms, .ref md, .ref mc, .ref mr, .int (-1), .int 0, .int 0, .int 0, .long 0, .int 0, .int 0, .int 0])), (mh, .inr (1, [.int 0, .ref (g.2.2 1), .int 0]))] H := hP
  have hD : va_D A [(m0, .inr (11, [.ref mh, .ref mg, .ref ms, .ref md, .ref mc, .ref mr, .int (-1), .int 0, .int 0, .int 0, .long 0, .int 0, .int 0, .int 0])), (mh, .inr (1, [.int 0, .ref (g.2.2 1), .int 0]))] := hD
  refine W.widen (k := 0) (n := 0) (Nat.le_of_ble_eq_true rfl) (Nat.le_of_ble_eq_true rfl) ?_
  refine lv_if_eq (tgt := 17) hx hb dX11_meanLife_10 (by decide) (fun c_1 => absurd c_1 (by decide)) (fun c_1 => ?_)
  refine lv_iconst (v := 1) hx hb dX11_meanLife_13 (by decide) ?_
  refine lv_goto (tgt := 18) hx hb dX11_meanLife_14 (by decide) ?_
  refine va_put (D := g.1) (ci := 11) (v := .int 1) (ty := .int) (C := RX11) (T := TX11) (N := 14) hx hb htg inG_X11 tyX11 tyX11_ok nmX11 hown hK hP hD hS 0 rfl rfl 13 (by decide) (htg _ k1353) (fun _ h9 => h9) rfl (by decide +kernel) rfl rfl (Nat.le_of_ble_eq_true rfl) dX11_meanLife_18 (fun H locs hP hD hS => ?_)
  have hP : va_P g.1 CLS [(m0, .inr (11, [.ref mh, .ref mg, .ref ms, .ref md, .ref mc, .ref mr, .int (-1), .int 0, .int 0, .int 0, .long 0, .int 0, .int 0, .int 1])), (mh, .inr (1, [.int 0, .ref (g.2.2 1), .int 0]))] H := hP
  have hD : va_D A [(m0, .inr (11, [.ref mh, .ref mg, .ref ms, .ref md, .ref mc, .ref mr, .int (-1), .int 0, .int 0, .int 0, .long 0, .int 0, .int 0, .int 1])), (mh, .inr (1, [.int 0, .ref (g.2.2 1), .int 0]))] := hD
  refine lv_iconst (v := 0) hx hb dX11_meanLife_21 (by decide) ?_
  refine lv_istore_n (lv' := [(1, .int 0), (0, .ref m0)]) hx hb dX11_meanLife_22 rfl hl (by decide) rfl (fun ls hl => ?_)
  refine lv_aload_n hx hb dX11_meanLife_23 rfl (lv_at hl 1 rfl) ?_
  refine va_get (D := g.1) (ci := 11) (v := .ref mh) (C := RX11) (T := TX11) (N := 14) hx hb htg inG_X11 hown hK hP 0 rfl rfl 0 (by decide) (htg _ k1340) (fun _ h9 => h9) rfl dX11_meanLife_24 ?_
  have hPc := hP.sub (ws' := [(mh, .inr (1, [.int 0, .ref (g.2.2 1), .int 0]))]) [1] rfl
  have hDc := hD.sub (ws' := [(mh, .inr (1, [.int 0, .ref (g.2.2 1), .int 0]))]) [1] (by decide) rfl
  have hFc := va_free (wc := [(mh, .inr (1, [.int 0, .ref (g.2.2 1), .int 0]))]) hD hS hA [1] rfl
  refine q_cFq (wr := [(m0, .inr (11, [.ref mh, .ref mg, .ref ms, .ref md, .ref mc, .ref mr, .int (-1), .int 0, .int 0, .int 0, .long 0, .int 0, .int 0, .int 1]))]) (va_runF (As := []) (rest := []) (hK.1 1 _ rfl).2 ⟨hx, hb, hml, hown, htg⟩ (c_L_iterator l hfl g mh  H.size) (qI5 htg k1426 k60 k1419 k1422 k1424 (hT.1.2.2.1.2.2.1) okx_iterator rfl rfl ⟨Nat.le_of_ble_eq_true rfl, Nat.le_of_ble_eq_true rfl⟩) ⟨(q_pre [.ref mh] hPc hDc hK hS hT hFc).1, va_recv hK hP (ci := 1) (q0 := 1) rfl rfl, (q_pre [.ref mh] hPc hDc hK hS hT hFc).2⟩ rfl rfl hl.1 rfl (lv_room (Nat.le_of_ble_eq_true rfl)) dX11_meanLife_27 ⟨Nat.le_of_ble_eq_true rfl, Nat.le_of_ble_eq_true rfl⟩) hP hD hS hFc [1] [0] rfl rfl (by decide) (by decide) (fun r9 u9 H locs hw hP hD hS => ?_)
  try dsimp only at hw
  rcases hw with ⟨q_2, rfl, rfl⟩
  have hP : va_P g.1 CLS [(m0, .inr (11, [.ref mh, .ref mg, .ref ms, .ref md, .ref mc, .ref mr, .int (-1), .int 0, .int 0, .int 0, .long 0, .int 0, .int 0, .int 1])), (mh, .inr (1, [.int 0, .ref (g.2.2 1), .int 0])), (q_2, .inr (0, [.int 0, .int (-1), .int 0, .ref mh]))] H := hP
  have hD : va_D A [(m0, .inr (11, [.ref mh, .ref mg, .ref ms, .ref md, .ref mc, .ref mr, .int (-1), .int 0, .int 0, .int 0, .long 0, .int 0, .int 0, .int 1])), (mh, .inr (1, [.int 0, .ref (g.2.2 1), .int 0])), (q_2, .inr (0, [.int 0, .int (-1), .int 0, .ref mh]))] := hD
  refine W.widen (k := 1) (n := 4) (Nat.le_of_ble_eq_true rfl) (Nat.le_of_ble_eq_true rfl) ?_
  refine lv_astore_n (lv' := [(2, .ref q_2), (1, .int 0), (0, .ref m0)]) hx hb dX11_meanLife_32 rfl hl (by decide) rfl (fun ls hl => ?_)
  refine lv_aload_n hx hb dX11_meanLife_33 rfl (lv_at hl 0 rfl) ?_
  have hPc := hP.sub (ws' := [(q_2, .inr (0, [.int 0, .int (-1), .int 0, .ref mh])), (mh, .inr (1, [.int 0, .ref (g.2.2 1), .int 0]))]) [2, 1] rfl
  have hDc := hD.sub (ws' := [(q_2, .inr (0, [.int 0, .int (-1), .int 0, .ref mh])), (mh, .inr (1, [.int 0, .ref (g.2.2 1), .int 0]))]) [2, 1] (by decide) rfl
  have hFc := va_free (wc := [(q_2, .inr (0, [.int 0, .int (-1), .int 0, .ref mh])), (mh, .inr (1, [.int 0, .ref (g.2.2 1), .int 0]))]) hD hS hA [2, 1] rfl
  refine q_cFi (wr := [(m0, .inr (11, [.ref mh, .ref mg, .ref ms, .ref md, .ref mc, .ref mr, .int (-1), .int 0, .int 0, .int 0, .long 0, .int 0, .int 0, .int 1]))]) (va_runF (As := []) (rest := []) (hK.1 0 _ rfl).2 ⟨hx, hb, hml, hown, htg⟩ (c_Itr_hasNext l hfl g q_2 mh  H.size) (qI5 htg k1455 k73 k1447 k1451 k1453 (hT.1.2.2.1.2.2.2.2) okx_hasNext rfl rfl ⟨Nat.le_of_ble_eq_true rfl, Nat.le_of_ble_eq_true rfl⟩) ⟨(q_pre [.ref q_2] hPc hDc hK hS hT hFc).1, va_recv hK hP (ci := 0) (q0 := 2) rfl rfl, (q_pre [.ref q_2] hPc hDc hK hS hT hFc).2⟩ rfl rfl hl.1 rfl (lv_room (Nat.le_of_ble_eq_true rfl)) dX11_meanLife_34 ⟨Nat.le_of_ble_eq_true rfl, Nat.le_of_ble_eq_true rfl⟩) hP hD hS hFc [2, 1] [0] rfl rfl (by decide) (by decide) (fun r9 u9 H locs hw hP hD hS => ?_)
  try dsimp only at hw
  rcases hw with ⟨rfl, rfl⟩
  have hP : va_P g.1 CLS [(m0, .inr (11, [.ref mh, .ref mg, .ref ms, .ref md, .ref mc, .ref mr, .int (-1), .int 0, .int 0, .int 0, .long 0, .int 0, .int 0, .int 1])), (q_2, .inr (0, [.int 0, .int (-1), .int 0, .ref mh])), (mh, .inr (1, [.int 0, .ref (g.2.2 1), .int 0]))] H := hP
  have hD : va_D A [(m0, .inr (11, [.ref mh, .ref mg, .ref ms, .ref md, .ref mc, .ref mr, .int (-1), .int 0, .int 0, .int 0, .long 0, .int 0, .int 0, .int 1])), (q_2, .inr (0, [.int 0, .int (-1), .int 0, .ref mh])), (mh, .inr (1, [.int 0, .ref (g.2.2 1), .int 0]))] := hD
  refine W.widen (k := 1) (n := 4) (Nat.le_of_ble_eq_true rfl) (Nat.le_of_ble_eq_true rfl) ?_
  refine lv_if_eq (tgt := 62) hx hb dX11_meanLife_39 (by decide) (fun c_3 => ?_) (fun c_3 => absurd (by decide) c_3)
  refine lv_aload_n hx hb dX11_meanLife_62 rfl (lv_at hl 2 rfl) ?_
  refine va_get (D := g.1) (ci := 11) (v := .int 1) (C := RX11) (T := TX11) (N := 14) hx hb htg inG_X11 hown hK hP 0 rfl rfl 13 (by decide) (htg _ k1353) (fun _ h9 => h9) rfl dX11_meanLife_63 ?_
  refine lv_if_ne (tgt := 85) hx hb dX11_meanLife_66 (by decide) (fun c_4 => ?_) (fun c_4 => absurd c_4 (by decide))
  refine lv_dconst0 hx hb dX11_meanLife_85 ?_
  have hP9 := hP.sub (ws' := [(m0, .inr (11, [.ref mh, .ref mg, .ref ms, .ref md, .ref mc, .ref mr, .int (-1), .int 0, .int 0, .int 0, .long 0, .int 0, .int 0, .int 1]))]) [0] rfl
  have hD9 := hD.sub (ws' := [(m0, .inr (11, [.ref mh, .ref mg, .ref ms, .ref md, .ref mc, .ref mr, .int (-1), .int 0, .int 0, .int 0, .long 0, .int 0, .int 0, .int 1]))]) [0] (by decide) rfl
  refine W.widen (k := 20) (n := 100) (Nat.le_of_ble_eq_true rfl) (Nat.le_of_ble_eq_true rfl) ?_
  exact W.dret (v := FP.dconst0) hx hb hr (fun t ht hW => ⟨⟨FP.dconst0, [(m0, .inr (11, [.ref mh, .ref mg, .ref ms, .ref md, .ref mc, .ref mr, .int (-1), .int 0, .int 0, .int 0, .long 0, .int 0, .int 0, .int 1]))], rfl, ⟨rfl, rfl⟩, by rw [ht]; exact hP9, va_K.moved hW.alike hK, hD9⟩, hS.F ht⟩) hS.2.2 dX11_meanLife_86

set_option maxHeartbeats 4000000 in
set_option maxRecDepth 100000 in
theorem c_m_isSound (l : Launch) (hfl : l.stackTraces = false) (g : GP) (m0 : Nat) (mh : Nat) (mg : Nat) (ms : Nat) (md : Nat) (mc : Nat) (mr : Nat)  : CI l yX11_isSound (wG yX11_isSound cX11_isSound 1 (Option.some Jvm.ClassFile.FieldType.boolean)) (LV 1 0 0) g [.ref m0] ([(m0, .inr (11, [.ref mh, .ref mg, .ref ms, .ref md, .ref mc, .ref mr, .int (-1), .int 0, .int 0, .int 0, .long 0, .int 0, .int 0, .int 0]))]) (fun (r : Int32) (u : va_W) => r = 1 ∧ u = [(m0, .inr (11, [.ref mh, .ref mg, .ref ms, .ref md, .ref mc, .ref mr, .int (-1), .int 0, .int 0, .int 0, .long 0, .int 0, .int 0, .int 0]))]) := by
  intro sz
  refine Met.ofW (cc := cX11_isSound) (maxL := 1) (ret := (Option.some Jvm.ClassFile.FieldType.boolean)) (by decide) rfl ?_
  intro p e s m args below meth c s₁ B hml hv
  obtain ⟨rfl, hsz, hP, hK, hD0, hT0⟩ := hv
  have hx := B.exec
  have hb := B.bytes
  have hr := B.returns
  have hts := atoms_spec (ws := (wG yX11_isSound cX11_isSound 1 (Option.some Jvm.ClassFile.FieldType.boolean))) B.pre
  have htg : ∀ w ∈ G9, w.before _ s = true := fun w h => hts w (List.mem_cons_of_mem _ h)
  have hown : s.vm.findClass "HeroTableModel" = some m.cls := findClass_of_methodNamed B.named
  have hlocks := B.notSynchronized
  subst hsz
  have hD := hD0.self (sz := s.heap.size)
  have hT := hT0
  clear hT0
  generalize hAe : va_A [(m0, .inr (11, [.ref mh, .ref mg, .ref ms, .ref md, .ref mc, .ref mr, .int (-1), .int 0, .int 0, .int 0, .long 0, .int 0, .int 0, .int 0]))] s.heap.size = A at hD hT ⊢
  have hA : ∀ q : Nat, s.heap.size ≤ q → A q := fun q h => by rw [← hAe]; exact Or.inr h
  obtain ⟨H, hH0⟩ : ∃ H, H = s.heap := ⟨_, rfl⟩
  have hS : va_S A s.heap H [] := by rw [hH0]; exact va_S.rf
  have hP : va_P g.1 CLS [(m0, .inr (11, [.ref mh, .ref mg, .ref ms, .ref md, .ref mc, .ref mr, .int (-1), .int 0, .int 0, .int 0, .long 0, .int 0, .int 0, .int 0]))] H := by rw [hH0]; exact hP
  rw [← hH0]
  have hl := lv_entry ([.ref m0]) (n := 1) (Nat.le_of_ble_eq_true rfl)
  rw [lg_entry_eq]
  generalize (lg_sl ([.ref m0]) ++ List.replicate (1 - (lg_sl ([.ref m0])).length) Slot.unset).toArray = ls at hl ⊢
  have hl : lv_has ls 1 [(0, .ref m0)] := hl
  refine lv_aload_n hx hb dX11_isSound_0 rfl (lv_at hl 0 rfl) ?_
  refine lv_iconst (v := 0) hx hb dX11_isSound_1 (by decide) ?_
  refine va_put (D := g.1) (ci := 11) (v := .int 0) (ty := .int) (C := RX11) (T := TX11) (N := 14) hx hb htg inG_X11 tyX11 tyX11_ok nmX11 hown hK hP hD hS 0 rfl rfl 13 (by decide) (htg _ k1353) (fun _ h9 => h9) rfl (by decide +kernel) rfl rfl (Nat.le_of_ble_eq_true rfl) dX11_isSound_2 (fun H locs hP hD hS => ?_)
  have hP : va_P g.1 CLS [(m0, .inr (11, [.ref mh, .ref mg, .ref ms, .ref md, .ref mc, .ref mr, .int (-1), .int 0, .int 0, .int 0, .long 0, .int 0, .int 0, .int 0]))] H := hP
  have hD : va_D A [(m0, .inr (11, [.ref mh, .ref mg, .ref ms, .ref md, .ref mc, .ref mr, .int (-1), .int 0, .int 0, .int 0, .long 0, .int 0, .int 0, .int 0]))] := hD
  refine lv_iconst (v := 1) hx hb dX11_isSound_5 (by decide) ?_
  have hP9 := hP.sub (ws' := [(m0, .inr (11, [.ref mh, .ref mg, .ref ms, .ref md, .ref mc, .ref mr, .int (-1), .int 0, .int 0, .int 0, .long 0, .int 0, .int 0, .int 0]))]) [0] rfl
  have hD9 := hD.sub (ws' := [(m0, .inr (11, [.ref mh, .ref mg, .ref ms, .ref md, .ref mc, .ref mr, .int (-1), .int 0, .int 0, .int 0, .long 0, .int 0, .int 0, .int 0]))]) [0] (by decide) rfl
  refine W.widen (k := 0) (n := 0) (Nat.le_of_ble_eq_true rfl) (Nat.le_of_ble_eq_true rfl) ?_
  exact W.zret (v := 1) hx hb hr rfl (fun t ht hW => ⟨⟨1, [(m0, .inr (11, [.ref mh, .ref mg, .ref ms, .ref md, .ref mc, .ref mr, .int (-1), .int 0, .int 0, .int 0, .long 0, .int 0, .int 0, .int 0]))], rfl, ⟨rfl, rfl⟩, by rw [ht]; exact hP9, va_K.moved hW.alike hK, hD9⟩, hS.F ht⟩) hS.2.2 dX11_isSound_6

set_option maxHeartbeats 4000000 in
set_option maxRecDepth 100000 in
theorem c_X11_init (l : Launch) (hfl : l.stackTraces = false) (g : GP) (m0 : Nat)  : CV l yX11_init (wG yX11_init cX11_init 2 (Option.none : Option Jvm.ClassFile.FieldType)) (LV 6 20 200) g [.ref m0] ([(m0, .inr (11, [.null, .null, .null, .null, .null, .null, .int 0, .int 0, .int 0, .int 0, .long 0, .int 0, .int 0, .int 0]))]) (fun (u : va_W) => ∃ (mh : Nat) (mg : Nat) (ms : Nat) (md : Nat) (mc : Nat) (mr : Nat) (me : Nat) (fm : Nat → Int32), (∀ j : Nat, j < 64 → fm j = 46) ∧ u = [(m0, .inr (11, [.ref mh, .ref mg, .ref ms, .ref md, .ref mc, .ref mr, .int (-1), .int 0, .int 0, .int 0, .long 0, .int 0, .int 0, .int 0])), (mh, .inr (1, [.int 0, .ref (g.2.2 1), .int 0])), (mg, .inl (g.2.1 0, 64, .inl fm)), (ms, .inr (1, [.int 0, .ref (g.2.2 1), .int 0])), (md, .inr (12, [.ref me, .int 0, .int 0])), (me, .inl (g.2.1 5, 17, .inr (.inr (.inr (.inr (fun _ => none)))))), (mc, .inr (1, [.int 0, .ref (g.2.2 1), .int 0])), (mr, .inr (1, [.int 0, .ref (g.2.2 1), .int 0]))]) := by
  intro sz
  refine Met.ofW (cc := cX11_init) (maxL := 2) (ret := (Option.none : Option Jvm.ClassFile.FieldType)) (by decide) rfl ?_
  intro p e s m args below meth c s₁ B hml hv
  obtain ⟨rfl, hsz, hP, hK, hD0, hT0⟩ := hv
  have hx := B.exec
  have hb := B.bytes
  have hr := B.returns
  have hts := atoms_spec (ws := (wG yX11_init cX11_init 2 (Option.none : Option Jvm.ClassFile.FieldType))) B.pre
  have htg : ∀ w ∈ G9, w.before _ s = true := fun w h => hts w (List.mem_cons_of_mem _ h)
  have hown : s.vm.findClass "HeroTableModel" = some m.cls := findClass_of_methodNamed B.named
  have hlocks := B.notSynchronized
  have hin : meth.name = "<init>" := (name_of_methodNamed B.named B.method).1
  subst hsz
  have hD := hD0.self (sz := s.heap.size)
  have hT := hT0
  clear hT0
  generalize hAe : va_A [(m0, .inr (11, [.null, .null, .null, .null, .null, .null, .int 0, .int 0, .int 0, .int 0, .long 0, .int 0, .int 0, .int 0]))] s.heap.size = A at hD hT ⊢
  have hA : ∀ q : Nat, s.heap.size ≤ q → A q := fun q h => by rw [← hAe]; exact Or.inr h
  obtain ⟨H, hH0⟩ : ∃ H, H = s.heap := ⟨_, rfl⟩
  have hS : va_S A s.heap H [] := by rw [hH0]; exact va_S.rf
  have hP : va_P g.1 CLS [(m0, .inr (11, [.null, .null, .null, .null, .null, .null, .int 0, .int 0, .int 0, .int 0, .long 0, .int 0, .int 0, .int 0]))] H := by rw [hH0]; exact hP
  rw [← hH0]
  have hl := lv_entry ([.ref m0]) (n := 2) (Nat.le_of_ble_eq_true rfl)
  rw [lg_entry_eq]
  generalize (lg_sl ([.ref m0]) ++ List.replicate (2 - (lg_sl ([.ref m0])).length) Slot.unset).toArray = ls at hl ⊢
  have hl : lv_has ls 2 [(0, .ref m0)] := hl
  refine lv_aload_n hx hb dX11_init_0 rfl (lv_at hl 0 rfl) ?_
  refine W.objInit hx hb hown (htg _ k1292) (htg _ k98) (htg _ k99) rfl (by rw [hml]; exact hl.1) rfl dX11_init_1 (Nat.le_of_ble_eq_true rfl) (Nat.le_of_ble_eq_true rfl) ?_
  refine W.eq (g2 := F0 m 4 ls []) rfl ?_
  refine lv_aload_n hx hb dX11_init_4 rfl (lv_at hl 0 rfl) ?_
  refine va_new (ci := 1) (fs := [.int 0, .null, .int 0]) (C := RJx4a65c) (T := TJx4a65c) (N := 3) hx hb htg inG_Jx4a65c tyJx4a65c tyJx4a65c_ok hown (htg _ k1293) (htg _ k1294) (htg _ k60) hK hP hD hS hA rfl (by decide) (Nat.le_of_ble_eq_true rfl) (Nat.le_of_ble_eq_true rfl) dX11_init_5 (fun q_1 H hP hD hS => ?_)
  have hP : va_P g.1 CLS [(m0, .inr (11, [.null, .null, .null, .null, .null, .null, .int 0, .int 0, .int 0, .int 0, .long 0, .int 0, .int 0, .int 0])), (q_1, .inr (1, [.int 0, .null, .int 0]))] H := hP
  have hD : va_D A [(m0, .inr (11, [.null, .null, .null, .null, .null, .null, .int 0, .int 0, .int 0, .int 0, .long 0, .int 0, .int 0, .int 0])), (q_1, .inr (1, [.int 0, .null, .int 0]))] := hD
  refine W.widen (k := 1) (n := 3) (Nat.le_of_ble_eq_true rfl) (Nat.le_of_ble_eq_true rfl) ?_
  refine lv_dup hx hb dX11_init_8 rfl ?_
  have hPc := hP.sub (ws' := [(q_1, .inr (1, [.int 0, .null, .int 0]))]) [1] rfl
  have hDc := hD.sub (ws' := [(q_1, .inr (1, [.int 0, .null, .int 0]))]) [1] (by decide) rfl
  have hFc := va_free (wc := [(q_1, .inr (1, [.int 0, .null, .int 0]))]) hD hS hA [1] rfl
  refine q_cv (wr := [(m0, .inr (11, [.null, .null, .null, .null, .null, .null, .int 0, .int 0, .int 0, .int 0, .long 0, .int 0, .int 0, .int 0]))]) (va_runI (As := []) (rest := [.ref q_1, .ref m0]) ⟨hx, hb, hml, hown, htg⟩ (c_L_init l hfl g q_1  H.size) ⟨(qB htg k1297 k60 k1295 ok_Jx4a65c_init_da8c8 rfl rfl ⟨Nat.le_of_ble_eq_true rfl, Nat.le_of_ble_eq_true rfl⟩), rfl, htg _ k1296⟩ (q_pre [.ref q_1] hPc hDc hK hS hT hFc) rfl rfl hl.1 rfl (lv_room (Nat.le_of_ble_eq_true rfl)) dX11_init_9 ⟨Nat.le_of_ble_eq_true rfl, Nat.le_of_ble_eq_true rfl⟩) hP hD hS hFc [1] [0] rfl rfl (by decide) (by decide) (fun u9 H locs hw hP hD hS => ?_)
  try dsimp only at hw
  rcases hw with rfl
  have hP : va_P g.1 CLS [(m0, .inr (11, [.null, .null, .null, .null, .null, .null, .int 0, .int 0, .int 0, .int 0, .long 0, .int 0, .int 0, .int 0])), (q_1, .inr (1, [.int 0, .ref (g.2.2 1), .int 0]))] H := hP
  have hD : va_D A [(m0, .inr (11, [.null, .null, .null, .null, .null, .null, .int 0, .int 0, .int 0, .int 0, .long 0, .int 0, .int 0, .int 0])), (q_1, .inr (1, [.int 0, .ref (g.2.2 1), .int 0]))] := hD
  refine W.widen (k := 1) (n := 3) (Nat.le_of_ble_eq_true rfl) (Nat.le_of_ble_eq_true rfl) ?_
  refine va_putF (D := g.1) (ci := 11) (v := .ref q_1) (ty := (.object "java/util/List")) (C := RX11) (T := TX11) (N := 14) hx hb htg inG_X11 tyX11 tyX11_ok nmX11 hown hK hP hD hS 0 rfl rfl 0 (by decide) (htg _ k1340) (fun _ h9 => h9) rfl hin rfl (by decide +kernel) rfl rfl (Nat.le_of_ble_eq_true rfl) dX11_init_12 (fun H locs hP hD hS => ?_)
  have hP : va_P g.1 CLS [(m0, .inr (11, [.ref q_1, .null, .null, .null, .null, .null, .int 0, .int 0, .int 0, .int 0, .long 0, .int 0, .int 0, .int 0])), (q_1, .inr (1, [.int 0, .ref (g.2.2 1), .int 0]))] H := hP
  have hD : va_D A [(m0, .inr (11, [.ref q_1, .null, .null, .null, .null, .null, .int 0, .int 0, .int 0, .int 0, .long 0, .int 0, .int 0, .int 0])), (q_1, .inr (1, [.int 0, .ref (g.2.2 1), .int 0]))] := hD
  refine lv_aload_n hx hb dX11_init_15 rfl (lv_at hl 0 rfl) ?_
  refine lv_bipush (v := 64) hx hb dX11_init_16 (by decide) ?_
  refine va_newa (atype := .char) (ty := .char) (a0 := (64, .inl (fun _ => 0))) (N' := 64) hx hb (htg _ k138) rfl hK hP hD hS hA (fun _ => rfl) (by decide) (by decide) (by decide) (Nat.le_of_ble_eq_true rfl) (Nat.le_of_ble_eq_true rfl) dX11_init_18 (fun q_2 cA H hK9 hP hD hS => ?_)
  obtain rfl := q_arr hK9 (t0 := 0) rfl (by decide)
  clear hK9
  have hP : va_P g.1 CLS [(m0, .inr (11, [.ref q_1, .null, .null, .null, .null, .null, .int 0, .int 0, .int 0, .int 0, .long 0, .int 0, .int 0, .int 0])), (q_1, .inr (1, [.int 0, .ref (g.2.2 1), .int 0])), (q_2, .inl (g.2.1 0, 64, .inl (fun _ => 0)))] H := hP
  have hD : va_D A [(m0, .inr (11, [.ref q_1, .null, .null, .null, .null, .null, .int 0, .int 0, .int 0, .int 0, .long 0, .int 0, .int 0, .int 0])), (q_1, .inr (1, [.int 0, .ref (g.2.2 1), .int 0])), (q_2, .inl (g.2.1 0, 64, .inl (fun _ => 0)))] := hD
  refine W.widen (k := 2) (n := 67) (Nat.le_of_ble_eq_true rfl) (Nat.le_of_ble_eq_true rfl) ?_
  refine va_putF (D := g.1) (ci := 11) (v := .ref q_2) (ty := (.array .char)) (C := RX11) (T := TX11) (N := 14) hx hb htg inG_X11 tyX11 tyX11_ok nmX11 hown hK hP hD hS 0 rfl rfl 1 (by decide) (htg _ k1341) (fun _ h9 => h9) rfl hin rfl (by decide +kernel) rfl rfl (Nat.le_of_ble_eq_true rfl) dX11_init_20 (fun H locs hP hD hS => ?_)
  have hP : va_P g.1 CLS [(m0, .inr (11, [.ref q_1, .ref q_2, .null, .null, .null, .null, .int 0, .int 0, .int 0, .int 0, .long 0, .int 0, .int 0, .int 0])), (q_1, .inr (1, [.int 0, .ref (g.2.2 1), .int 0])), (q_2, .inl (g.2.1 0, 64, .inl (fun _ => 0)))] H := hP
  have hD : va_D A [(m0, .inr (11, [.ref q_1, .ref q_2, .null, .null, .null, .null, .int 0, .int 0, .int 0, .int 0, .long 0, .int 0, .int 0, .int 0])), (q_1, .inr (1, [.int 0, .ref (g.2.2 1), .int 0])), (q_2, .inl (g.2.1 0, 64, .inl (fun _ => 0)))] := hD
  refine lv_aload_n hx hb dX11_init_23 rfl (lv_at hl 0 rfl) ?_
  refine va_new (ci := 1) (fs := [.int 0, .null, .int 0]) (C := RJx4a65c) (T := TJx4a65c) (N := 3) hx hb htg inG_Jx4a65c tyJx4a65c tyJx4a65c_ok hown (htg _ k1293) (htg _ k1294) (htg _ k60) hK hP hD hS hA rfl (by decide) (Nat.le_of_ble_eq_true rfl) (Nat.le_of_ble_eq_true rfl) dX11_init_24 (fun q_3 H hP hD hS => ?_)
  have hP : va_P g.1 CLS [(m0, .inr (11, [.ref q_1, .ref q_2, .null, .null, .null, .null, .int 0, .int 0, .int 0, .int 0, .long 0, .int 0, .int 0, .int 0])), (q_1, .inr (1, [.int 0, .ref (g.2.2 1), .int 0])), (q_2, .inl (g.2.1 0, 64, .inl (fun _ => 0))), (q_3, .inr (1, [.int 0, .null, .int 0]))] H := hP
  have hD : va_D A [(m0, .inr (11, [.ref q_1, .ref q_2, .null, .null, .null, .null, .int 0, .int 0, .int 0, .int 0, .long 0, .int 0, .int 0, .int 0])), (q_1, .inr (1, [.int 0, .ref (g.2.2 1), .int 0])), (q_2, .inl (g.2.1 0, 64, .inl (fun _ => 0))), (q_3, .inr (1, [.int 0, .null, .int 0]))] := hD
  refine W.widen (k := 3) (n := 70) (Nat.le_of_ble_eq_true rfl) (Nat.le_of_ble_eq_true rfl) ?_
  refine lv_dup hx hb dX11_init_27 rfl ?_
  have hPc := hP.sub (ws' := [(q_3, .inr (1, [.int 0, .null, .int 0]))]) [3] rfl
  have hDc := hD.sub (ws' := [(q_3, .inr (1, [.int 0, .null, .int 0]))]) [3] (by decide) rfl
  have hFc := va_free (wc := [(q_3, .inr (1, [.int 0, .null, .int 0]))]) hD hS hA [3] rfl
  refine q_cv (wr := [(m0, .inr (11, [.ref q_1, .ref q_2, .null, .null, .null, .null, .int 0, .int 0, .int 0, .int 0, .long 0, .int 0, .int 0, .int 0])), (q_1, .inr (1, [.int 0, .ref (g.2.2 1), .int 0])), (q_2, .inl (g.2.1 0, 64, .inl (fun _ => 0)))]) (va_runI (As := []) (rest := [.ref q_3, .ref m0]) ⟨hx, hb, hml, hown, htg⟩ (c_L_init l hfl g q_3  H.size) ⟨(qB htg k1297 k60 k1295 ok_Jx4a65c_init_da8c8 rfl rfl ⟨Nat.le_of_ble_eq_true rfl, Nat.le_of_ble_eq_true rfl⟩), rfl, htg _ k1296⟩ (q_pre [.ref q_3] hPc hDc hK hS hT hFc) rfl rfl hl.1 rfl (lv_room (Nat.le_of_ble_eq_true rfl)) dX11_init_28 ⟨Nat.le_of_ble_eq_true rfl, Nat.le_of_ble_eq_true rfl⟩) hP hD hS hFc [3] [0, 1, 2] rfl rfl (by decide) (by decide) (fun u9 H locs hw hP hD hS => ?_)
  try dsimp only at hw
  rcases hw with rfl
  have hP : va_P g.1 CLS [(m0, .inr (11, [.ref q_1, .ref q_2, .null, .null, .null, .null, .int 0, .int 0, .int 0, .int 0, .long 0, .int 0, .int 0, .int 0])), (q_1, .inr (1, [.int 0, .ref (g.2.2 1), .int 0])), (q_2, .inl (g.2.1 0, 64, .inl (fun _ => 0))), (q_3, .inr (1, [.int 0, .ref (g.2.2 1), .int 0]))] H := hP
  have hD : va_D A [(m0, .inr (11, [.ref q_1, .ref q_2, .null, .null, .null, .null, .int 0, .int 0, .int 0, .int 0, .long 0, .int 0, .int 0, .int 0])), (q_1, .inr (1, [.int 0, .ref (g.2.2 1), .int 0])), (q_2, .inl (g.2.1 0, 64, .inl (fun _ => 0))), (q_3, .inr (1, [.int 0, .ref (g.2.2 1), .int 0]))] := hD
  refine W.widen (k := 3) (n := 70) (Nat.le_of_ble_eq_true rfl) (Nat.le_of_ble_eq_true rfl) ?_
  refine va_putF (D := g.1) (ci := 11) (v := .ref q_3) (ty := (.object "java/util/List")) (C := RX11) (T := TX11) (N := 14) hx hb htg inG_X11 tyX11 tyX11_ok nmX11 hown hK hP hD hS 0 rfl rfl 2 (by decide) (htg _ k1342) (fun _ h9 => h9) rfl hin rfl (by decide +kernel) rfl rfl (Nat.le_of_ble_eq_true rfl) dX11_init_31 (fun H locs hP hD hS => ?_)
  have hP : va_P g.1 CLS [(m0, .inr (11, [.ref q_1, .ref q_2, .ref q_3, .null, .null, .null, .int 0, .int 0, .int 0, .int 0, .long 0, .int 0, .int 0, .int 0])), (q_1, .inr (1, [.int 0, .ref (g.2.2 1), .int 0])), (q_2, .inl (g.2.1 0, 64, .inl (fun _ => 0))), (q_3, .inr (1, [.int 0, .ref (g.2.2 1), .int 0]))] H := hP
  have hD : va_D A [(m0, .inr (11, [.ref q_1, .ref q_2, .ref q_3, .null, .null, .null, .int 0, .int 0, .int 0, .int 0, .long 0, .int 0, .int 0, .int 0])), (q_1, .inr (1, [.int 0, .ref (g.2.2 1), .int 0])), (q_2, .inl (g.2.1 0, 64, .inl (fun _ => 0))), (q_3, .inr (1, [.int 0, .ref (g.2.2 1), .int 0]))] := hD
  refine lv_aload_n hx hb dX11_init_34 rfl (lv_at hl 0 rfl) ?_
  refine va_new (ci := 12) (fs := [.null, .int 0, .int 0]) (C := RX12) (T := TX12) (N := 3) hx hb htg inG_X12 tyX12 tyX12_ok hown (htg _ k1322) (htg _ k1323) (htg _ k61) hK hP hD hS hA rfl (by decide) (Nat.le_of_ble_eq_true rfl) (Nat.le_of_ble_eq_true rfl) dX11_init_35 (fun q_4 H hP hD hS => ?_)
  have hP : va_P g.1 CLS [(m0, .inr (11, [.ref q_1, .ref q_2, .ref q_3, .null, .null, .null, .int 0, .int 0, .int 0, .int 0, .long 0, .int 0, .int 0, .int 0])), (q_1, .inr (1, [.int 0, .ref (g.2.2 1), .int 0])), (q_2, .inl (g.2.1 0, 64, .inl (fun _ => 0))), (q_3, .inr (1, [.int 0, .ref (g.2.2 1), .int 0])), (q_4, .inr (12, [.null, .int 0, .int 0]))] H := hP
  have hD : va_D A [(m0, .inr (11, [.ref q_1, .ref q_2, .ref q_3, .null, .null, .null, .int 0, .int 0, .int 0, .int 0, .long 0, .int 0, .int 0, .int 0])), (q_1, .inr (1, [.int 0, .ref (g.2.2 1), .int 0])), (q_2, .inl (g.2.1 0, 64, .inl (fun _ => 0))), (q_3, .inr (1, [.int 0, .ref (g.2.2 1), .int 0])), (q_4, .inr (12, [.null, .int 0, .int 0]))] := hD
  refine W.widen (k := 4) (n := 73) (Nat.le_of_ble_eq_true rfl) (Nat.le_of_ble_eq_true rfl) ?_
  refine lv_dup hx hb dX11_init_38 rfl ?_
  have hPc := hP.sub (ws' := [(q_4, .inr (12, [.null, .int 0, .int 0]))]) [4] rfl
  have hDc := hD.sub (ws' := [(q_4, .inr (12, [.null, .int 0, .int 0]))]) [4] (by decide) rfl
  have hFc := va_free (wc := [(q_4, .inr (12, [.null, .int 0, .int 0]))]) hD hS hA [4] rfl
  refine q_cv (wr := [(m0, .inr (11, [.ref q_1, .ref q_2, .ref q_3, .null, .null, .null, .int 0, .int 0, .int 0, .int 0, .long 0, .int 0, .int 0, .int 0])), (q_1, .inr (1, [.int 0, .ref (g.2.2 1), .int 0])), (q_2, .inl (g.2.1 0, 64, .inl (fun _ => 0))), (q_3, .inr (1, [.int 0, .ref (g.2.2 1), .int 0]))]) (va_runI (As := []) (rest := [.ref q_4, .ref m0]) ⟨hx, hb, hml, hown, htg⟩ (c_X12_init l hfl g q_4  H.size) ⟨(qB htg k1326 k61 k1324 ok_X12_init rfl rfl ⟨Nat.le_of_ble_eq_true rfl, Nat.le_of_ble_eq_true rfl⟩), rfl, htg _ k1325⟩ (q_pre [.ref q_4] hPc hDc hK hS hT hFc) rfl rfl hl.1 rfl (lv_room (Nat.le_of_ble_eq_true rfl)) dX11_init_39 ⟨Nat.le_of_ble_eq_true rfl, Nat.le_of_ble_eq_true rfl⟩) hP hD hS hFc [4] [0, 1, 2, 3] rfl rfl (by decide) (by decide) (fun u9 H locs hw hP hD hS => ?_)
  try dsimp only at hw
  rcases hw with ⟨q_5, rfl⟩
  have hP : va_P g.1 CLS [(m0, .inr (11, [.ref q_1, .ref q_2, .ref q_3, .null, .null, .null, .int 0, .int 0, .int 0, .int 0, .long 0, .int 0, .int 0, .int 0])), (q_1, .inr (1, [.int 0, .ref (g.2.2 1), .int 0])), (q_2, .inl (g.2.1 0, 64, .inl (fun _ => 0))), (q_3, .inr (1, [.int 0, .ref (g.2.2 1), .int 0])), (q_4, .inr (12, [.ref q_5, .int 0, .int 0])), (q_5, .inl (g.2.1 5, 17, .inr (.inr (.inr (.inr (fun _ => none))))))] H := hP
  have hD : va_D A [(m0, .inr (11, [.ref q_1, .ref q_2, .ref q_3, .null, .null, .null, .int 0, .int 0, .int 0, .int 0, .long 0, .int 0, .int 0, .int 0])), (q_1, .inr (1, [.int 0, .ref (g.2.2 1), .int 0])), (q_2, .inl (g.2.1 0, 64, .inl (fun _ => 0))), (q_3, .inr (1, [.int 0, .ref (g.2.2 1), .int 0])), (q_4, .inr (12, [.ref q_5, .int 0, .int 0])), (q_5, .inl (g.2.1 5, 17, .inr (.inr (.inr (.inr (fun _ => none))))))] := hD
  refine W.widen (k := 5) (n := 90) (Nat.le_of_ble_eq_true rfl) (Nat.le_of_ble_eq_true rfl) ?_
  refine va_putF (D := g.1) (ci := 11) (v := .ref q_4) (ty := (.object "java/util/ArrayDeque")) (C := RX11) (T := TX11) (N := 14) hx hb htg inG_X11 tyX11 tyX11_ok nmX11 hown hK hP hD hS 0 rfl rfl 3 (by decide) (htg _ k1343) (fun _ h9 => h9) rfl hin rfl (by decide +kernel) rfl rfl (Nat.le_of_ble_eq_true rfl) dX11_init_42 (fun H locs hP hD hS => ?_)
  have hP : va_P g.1 CLS [(m0, .inr (11, [.ref q_1, .ref q_2, .ref q_3, .ref q_4, .null, .null, .int 0, .int 0, .int 0, .int 0, .long 0, .int 0, .int 0, .int 0])), (q_1, .inr (1, [.int 0, .ref (g.2.2 1), .int 0])), (q_2, .inl (g.2.1 0, 64, .inl (fun _ => 0))), (q_3, .inr (1, [.int 0, .ref (g.2.2 1), .int 0])), (q_4, .inr (12, [.ref q_5, .int 0, .int 0])), (q_5, .inl (g.2.1 5, 17, .inr (.inr (.inr (.inr (fun _ => none))))))] H := hP
  have hD : va_D A [(m0, .inr (11, [.ref q_1, .ref q_2, .ref q_3, .ref q_4, .null, .null, .int 0, .int 0, .int 0, .int 0, .long 0, .int 0, .int 0, .int 0])), (q_1, .inr (1, [.int 0, .ref (g.2.2 1), .int 0])), (q_2, .inl (g.2.1 0, 64, .inl (fun _ => 0))), (q_3, .inr (1, [.int 0, .ref (g.2.2 1), .int 0])), (q_4, .inr (12, [.ref q_5, .int 0, .int 0])), (q_5, .inl (g.2.1 5, 17, .inr (.inr (.inr (.inr (fun _ => none))))))] := hD
  refine lv_aload_n hx hb dX11_init_45 rfl (lv_at hl 0 rfl) ?_
  refine va_new (ci := 1) (fs := [.int 0, .null, .int 0]) (C := RJx4a65c) (T := TJx4a65c) (N := 3) hx hb htg inG_Jx4a65c tyJx4a65c tyJx4a65c_ok hown (htg _ k1293) (htg _ k1294) (htg _ k60) hK hP hD hS hA rfl (by decide) (Nat.le_of_ble_eq_true rfl) (Nat.le_of_ble_eq_true rfl) dX11_init_46 (fun q_6 H hP hD hS => ?_)
  have hP : va_P g.1 CLS [(m0, .inr (11, [.ref q_1, .ref q_2, .ref q_3, .ref q_4, .null, .null, .int 0, .int 0, .int 0, .int 0, .long 0, .int 0, .int 0, .int 0])), (q_1, .inr (1, [.int 0, .ref (g.2.2 1), .int 0])), (q_2, .inl (g.2.1 0, 64, .inl (fun _ => 0))), (q_3, .inr (1, [.int 0, .ref (g.2.2 1), .int 0])), (q_4, .inr (12, [.ref q_5, .int 0, .int 0])), (q_5, .inl (g.2.1 5, 17, .inr (.inr (.inr (.inr (fun _ => none)))))), (q_6, .inr (1, [.int 0, .null, .int 0]))] H := hP
  have hD : va_D A [(m0, .inr (11, [.ref q_1, .ref q_2, .ref q_3, .ref q_4, .null, .null, .int 0, .int 0, .int 0, .int 0, .long 0, .int 0, .int 0, .int 0])), (q_1, .inr (1, [.int 0, .ref (g.2.2 1), .int 0])), (q_2, .inl (g.2.1 0, 64, .inl (fun _ => 0))), (q_3, .inr (1, [.int 0, .ref (g.2.2 1), .int 0])), (q_4, .inr (12, [.ref q_5, .int 0, .int 0])), (q_5, .inl (g.2.1 5, 17, .inr (.inr (.inr (.inr (fun _ => none)))))), (q_6, .inr (1, [.int 0, .null, .int 0]))] := hD
  refine W.widen (k := 6) (n := 93) (Nat.le_of_ble_eq_true rfl) (Nat.le_of_ble_eq_true rfl) ?_
  refine lv_dup hx hb dX11_init_49 rfl ?_
  have hPc := hP.sub (ws' := [(q_6, .inr (1, [.int 0, .null, .int 0]))]) [6] rfl
  have hDc := hD.sub (ws' := [(q_6, .inr (1, [.int 0, .null, .int 0]))]) [6] (by decide) rfl
  have hFc := va_free (wc := [(q_6, .inr (1, [.int 0, .null, .int 0]))]) hD hS hA [6] rfl
  refine q_cv (wr := [(m0, .inr (11, [.ref q_1, .ref q_2, .ref q_3, .ref q_4, .null, .null, .int 0, .int 0, .int 0, .int 0, .long 0, .int 0, .int 0, .int 0])), (q_1, .inr (1, [.int 0, .ref (g.2.2 1), .int 0])), (q_2, .inl (g.2.1 0, 64, .inl (fun _ => 0))), (q_3, .inr (1, [.int 0, .ref (g.2.2 1), .int 0])), (q_4, .inr (12, [.ref q_5, .int 0, .int 0])), (q_5, .inl (g.2.1 5, 17, .inr (.inr (.inr (.inr (fun _ => none))))))]) (va_runI (As := []) (rest := [.ref q_6, .ref m0]) ⟨hx, hb, hml, hown, htg⟩ (c_L_init l hfl g q_6  H.size) ⟨(qB htg k1297 k60 k1295 ok_Jx4a65c_init_da8c8 rfl rfl ⟨Nat.le_of_ble_eq_true rfl, Nat.le_of_ble_eq_true rfl⟩), rfl, htg _ k1296⟩ (q_pre [.ref q_6] hPc hDc hK hS hT hFc) rfl rfl hl.1 rfl (lv_room (Nat.le_of_ble_eq_true rfl)) dX11_init_50 ⟨Nat.le_of_ble_eq_true rfl, Nat.le_of_ble_eq_true rfl⟩) hP hD hS hFc [6] [0, 1, 2, 3, 4, 5] rfl rfl (by decide) (by decide) (fun u9 H locs hw hP hD hS => ?_)
  try dsimp only at hw
  rcases hw with rfl
  have hP : va_P g.1 CLS [(m0, .inr (11, [.ref q_1, .ref q_2, .ref q_3, .ref q_4, .null, .null, .int 0, .int 0, .int 0, .int 0, .long 0, .int 0, .int 0, .int 0])), (q_1, .inr (1, [.int 0, .ref (g.2.2 1), .int 0])), (q_2, .inl (g.2.1 0, 64, .inl (fun _ => 0))), (q_3, .inr (1, [.int 0, .ref (g.2.2 1), .int 0])), (q_4, .inr (12, [.ref q_5, .int 0, .int 0])), (q_5, .inl (g.2.1 5, 17, .inr (.inr (.inr (.inr (fun _ => none)))))), (q_6, .inr (1, [.int 0, .ref (g.2.2 1), .int 0]))] H := hP
  have hD : va_D A [(m0, .inr (11, [.ref q_1, .ref q_2, .ref q_3, .ref q_4, .null, .null, .int 0, .int 0, .int 0, .int 0, .long 0, .int 0, .int 0, .int 0])), (q_1, .inr (1, [.int 0, .ref (g.2.2 1), .int 0])), (q_2, .inl (g.2.1 0, 64, .inl (fun _ => 0))), (q_3, .inr (1, [.int 0, .ref (g.2.2 1), .int 0])), (q_4, .inr (12, [.ref q_5, .int 0, .int 0])), (q_5, .inl (g.2.1 5, 17, .inr (.inr (.inr (.inr (fun _ => none)))))), (q_6, .inr (1, [.int 0, .ref (g.2.2 1), .int 0]))] := hD
  refine W.widen (k := 6) (n := 93) (Nat.le_of_ble_eq_true rfl) (Nat.le_of_ble_eq_true rfl) ?_
  refine va_putF (D := g.1) (ci := 11) (v := .ref q_6) (ty := (.object "java/util/List")) (C := RX11) (T := TX11) (N := 14) hx hb htg inG_X11 tyX11 tyX11_ok nmX11 hown hK hP hD hS 0 rfl rfl 4 (by decide) (htg _ k1344) (fun _ h9 => h9) rfl hin rfl (by decide +kernel) rfl rfl (Nat.le_of_ble_eq_true rfl) dX11_init_53 (fun H locs hP hD hS => ?_)
  have hP : va_P g.1 CLS [(m0, .inr (11, [.ref q_1, .ref q_2, .ref q_3, .ref q_4, .ref q_6, .null, .int 0, .int 0, .int 0, .int 0, .long 0, .int 0, .int 0, .int 0])), (q_1, .inr (1, [.int 0, .ref (g.2.2 1), .int 0])), (q_2, .inl (g.2.1 0, 64, .inl (fun _ => 0))), (q_3, .inr (1, [.int 0, .ref (g.2.2 1), .int 0])), (q_4, .inr (12, [.ref q_5, .int 0, .int 0])), (q_5, .inl (g.2.1 5, 17, .inr (.inr (.inr (.inr (fun _ => none)))))), (q_6, .inr (1, [.int 0, .ref (g.2.2 1), .int 0]))] H := hP
  have hD : va_D A [(m0, .inr (11, [.ref q_1, .ref q_2, .ref q_3, .ref q_4, .ref q_6, .null, .int 0, .int 0, .int 0, .int 0, .long 0, .int 0, .int 0, .int 0])), (q_1, .inr (1, [.int 0, .ref (g.2.2 1), .int 0])), (q_2, .inl (g.2.1 0, 64, .inl (fun _ => 0))), (q_3, .inr (1, [.int 0, .ref (g.2.2 1), .int 0])), (q_4, .inr (12, [.ref q_5, .int 0, .int 0])), (q_5, .inl (g.2.1 5, 17, .inr (.inr (.inr (.inr (fun _ => none)))))), (q_6, .inr (1, [.int 0, .ref (g.2.2 1), .int 0]))] := hD
  refine lv_aload_n hx hb dX11_init_56 rfl (lv_at hl 0 rfl) ?_
  refine va_new (ci := 1) (fs := [.int 0, .null, .int 0]) (C := RJx4a65c) (T := TJx4a65c) (N := 3) hx hb htg inG_Jx4a65c tyJx4a65c tyJx4a65c_ok hown (htg _ k1293) (htg _ k1294) (htg _ k60) hK hP hD hS hA rfl (by decide) (Nat.le_of_ble_eq_true rfl) (Nat.le_of_ble_eq_true rfl) dX11_init_57 (fun q_7 H hP hD hS => ?_)
  have hP : va_P g.1 CLS [(m0, .inr (11, [.ref q_1, .ref q_2, .ref q_3, .ref q_4, .ref q_6, .null, .int 0, .int 0, .int 0, .int 0, .long 0, .int 0, .int 0, .int 0])), (q_1, .inr (1, [.int 0, .ref (g.2.2 1), .int 0])), (q_2, .inl (g.2.1 0, 64, .inl (fun _ => 0))), (q_3, .inr (1, [.int 0, .ref (g.2.2 1), .int 0])), (q_4, .inr (12, [.ref q_5, .int 0, .int 0])), (q_5, .inl (g.2.1 5, 17, .inr (.inr (.inr (.inr (fun _ => none)))))), (q_6, .inr (1, [.int 0, .ref (g.2.2 1), .int 0])), (q_7, .inr (1, [.int 0, .null, .int 0]))] H := hP
  have hD : va_D A [(m0, .inr (11, [.ref q_1, .ref q_2, .ref q_3, .ref q_4, .ref q_6, .null, .int 0, .int 0, .int 0, .int 0, .long 0, .int 0, .int 0, .int 0])), (q_1, .inr (1, [.int 0, .ref (g.2.2 1), .int 0])), (q_2, .inl (g.2.1 0, 64, .inl (fun _ => 0))), (q_3, .inr (1, [.int 0, .ref (g.2.2 1), .int 0])), (q_4, .inr (12, [.ref q_5, .int 0, .int 0])), (q_5, .inl (g.2.1 5, 17, .inr (.inr (.inr (.inr (fun _ => none)))))), (q_6, .inr (1, [.int 0, .ref (g.2.2 1), .int 0])), (q_7, .inr (1, [.int 0, .null, .int 0]))] := hD
  refine W.widen (k := 7) (n := 96) (Nat.le_of_ble_eq_true rfl) (Nat.le_of_ble_eq_true rfl) ?_
  refine lv_dup hx hb dX11_init_60 rfl ?_
  have hPc := hP.sub (ws' := [(q_7, .inr (1, [.int 0, .null, .int 0]))]) [7] rfl
  have hDc := hD.sub (ws' := [(q_7, .inr (1, [.int 0, .null, .int 0]))]) [7] (by decide) rfl
  have hFc := va_free (wc := [(q_7, .inr (1, [.int 0, .null, .int 0]))]) hD hS hA [7] rfl
  refine q_cv (wr := [(m0, .inr (11, [.ref q_1, .ref q_2, .ref q_3, .ref q_4, .ref q_6, .null, .int 0, .int 0, .int 0, .int 0, .long 0, .int 0, .int 0, .int 0])), (q_1, .inr (1, [.int 0, .ref (g.2.2 1), .int 0])), (q_2, .inl (g.2.1 0, 64, .inl (fun _ => 0))), (q_3, .inr (1, [.int 0, .ref (g.2.2 1), .int 0])), (q_4, .inr (12, [.ref q_5, .int 0, .int 0])), (q_5, .inl (g.2.1 5, 17, .inr (.inr (.inr (.inr (fun _ => none)))))), (q_6, .inr (1, [.int 0, .ref (g.2.2 1), .int 0]))]) (va_runI (As := []) (rest := [.ref q_7, .ref m0]) ⟨hx, hb, hml, hown, htg⟩ (c_L_init l hfl g q_7  H.size) ⟨(qB htg k1297 k60 k1295 ok_Jx4a65c_init_da8c8 rfl rfl ⟨Nat.le_of_ble_eq_true rfl, Nat.le_of_ble_eq_true rfl⟩), rfl, htg _ k1296⟩ (q_pre [.ref q_7] hPc hDc hK hS hT hFc) rfl rfl hl.1 rfl (lv_room (Nat.le_of_ble_eq_true rfl)) dX11_init_61 ⟨Nat.le_of_ble_eq_true rfl, Nat.le_of_ble_eq_true rfl⟩) hP hD hS hFc [7] [0, 1, 2, 3, 4, 5, 6] rfl rfl (by decide) (by decide) (fun u9 H locs hw hP hD hS => ?_)
  try dsimp only at hw
  rcases hw with rfl
  have hP : va_P g.1 CLS [(m0, .inr (11, [.ref q_1, .ref q_2, .ref q_3, .ref q_4, .ref q_6, .null, .int 0, .int 0, .int 0, .int 0, .long 0, .int 0, .int 0, .int 0])), (q_1, .inr (1, [.int 0, .ref (g.2.2 1), .int 0])), (q_2, .inl (g.2.1 0, 64, .inl (fun _ => 0))), (q_3, .inr (1, [.int 0, .ref (g.2.2 1), .int 0])), (q_4, .inr (12, [.ref q_5, .int 0, .int 0])), (q_5, .inl (g.2.1 5, 17, .inr (.inr (.inr (.inr (fun _ => none)))))), (q_6, .inr (1, [.int 0, .ref (g.2.2 1), .int 0])), (q_7, .inr (1, [.int 0, .ref (g.2.2 1), .int 0]))] H := hP
  have hD : va_D A [(m0, .inr (11, [.ref q_1, .ref q_2, .ref q_3, .ref q_4, .ref q_6, .null, .int 0, .int 0, .int 0, .int 0, .long 0, .int 0, .int 0, .int 0])), (q_1, .inr (1, [.int 0, .ref (g.2.2 1), .int 0])), (q_2, .inl (g.2.1 0, 64, .inl (fun _ => 0))), (q_3, .inr (1, [.int 0, .ref (g.2.2 1), .int 0])), (q_4, .inr (12, [.ref q_5, .int 0, .int 0])), (q_5, .inl (g.2.1 5, 17, .inr (.inr (.inr (.inr (fun _ => none)))))), (q_6, .inr (1, [.int 0, .ref (g.2.2 1), .int 0])), (q_7, .inr (1, [.int 0, .ref (g.2.2 1), .int 0]))] := hD
  refine W.widen (k := 7) (n := 96) (Nat.le_of_ble_eq_true rfl) (Nat.le_of_ble_eq_true rfl) ?_
  refine va_putF (D := g.1) (ci := 11) (v := .ref q_7) (ty := (.object "java/util/List")) (C := RX11) (T := TX11) (N := 14) hx hb htg inG_X11 tyX11 tyX11_ok nmX11 hown hK hP hD hS 0 rfl rfl 5 (by decide) (htg _ k1345) (fun _ h9 => h9) rfl hin rfl (by decide +kernel) rfl rfl (Nat.le_of_ble_eq_true rfl) dX11_init_64 (fun H locs hP hD hS => ?_)
  have hP : va_P g.1 CLS [(m0, .inr (11, [.ref q_1, .ref q_2, .ref q_3, .ref q_4, .ref q_6, .ref q_7, .int 0, .int 0, .int 0, .int 0, .long 0, .int 0, .int 0, .int 0])), (q_1, .inr (1, [.int 0, .ref (g.2.2 1), .int 0])), (q_2, .inl (g.2.1 0, 64, .inl (fun _ => 0))), (q_3, .inr (1, [.int 0, .ref (g.2.2 1), .int 0])), (q_4, .inr (12, [.ref q_5, .int 0, .int 0])), (q_5, .inl (g.2.1 5, 17, .inr (.inr (.inr (.inr (fun _ => none)))))), (q_6, .inr (1, [.int 0, .ref (g.2.2 1), .int 0])), (q_7, .inr (1, [.int 0, .ref (g.2.2 1), .int 0]))] H := hP
  have hD : va_D A [(m0, .inr (11, [.ref q_1, .ref q_2, .ref q_3, .ref q_4, .ref q_6, .ref q_7, .int 0, .int 0, .int 0, .int 0, .long 0, .int 0, .int 0, .int 0])), (q_1, .inr (1, [.int 0, .ref (g.2.2 1), .int 0])), (q_2, .inl (g.2.1 0, 64, .inl (fun _ => 0))), (q_3, .inr (1, [.int 0, .ref (g.2.2 1), .int 0])), (q_4, .inr (12, [.ref q_5, .int 0, .int 0])), (q_5, .inl (g.2.1 5, 17, .inr (.inr (.inr (.inr (fun _ => none)))))), (q_6, .inr (1, [.int 0, .ref (g.2.2 1), .int 0])), (q_7, .inr (1, [.int 0, .ref (g.2.2 1), .int 0]))] := hD
  refine lv_aload_n hx hb dX11_init_67 rfl (lv_at hl 0 rfl) ?_
  refine lv_iconst (v := (-1)) hx hb dX11_init_68 (by decide) ?_
  refine va_put (D := g.1) (ci := 11) (v := .int (-1)) (ty := .int) (C := RX11) (T := TX11) (N := 14) hx hb htg inG_X11 tyX11 tyX11_ok nmX11 hown hK hP hD hS 0 rfl rfl 6 (by decide) (htg _ k1346) (fun _ h9 => h9) rfl (by decide +kernel) rfl rfl (Nat.le_of_ble_eq_true rfl) dX11_init_69 (fun H locs hP hD hS => ?_)
  have hP : va_P g.1 CLS [(m0, .inr (11, [.ref q_1, .ref q_2, .ref q_3, .ref q_4, .ref q_6, .ref q_7, .int (-1), .int 0, .int 0, .int 0, .long 0, .int 0, .int 0, .int 0])), (q_1, .inr (1, [.int 0, .ref (g.2.2 1), .int 0])), (q_2, .inl (g.2.1 0, 64, .inl (fun _ => 0))), (q_3, .inr (1, [.int 0, .ref (g.2.2 1), .int 0])), (q_4, .inr (12, [.ref q_5, .int 0, .int 0])), (q_5, .inl (g.2.1 5, 17, .inr (.inr (.inr (.inr (fun _ => none)))))), (q_6, .inr (1, [.int 0, .ref (g.2.2 1), .int 0])), (q_7, .inr (1, [.int 0, .ref (g.2.2 1), .int 0]))] H := hP
  have hD : va_D A [(m0, .inr (11, [.ref q_1, .ref q_2, .ref q_3, .ref q_4, .ref q_6, .ref q_7, .int (-1), .int 0, .int 0, .int 0, .long 0, .int 0, .int 0, .int 0])), (q_1, .inr (1, [.int 0, .ref (g.2.2 1), .int 0])), (q_2, .inl (g.2.1 0, 64, .inl (fun _ => 0))), (q_3, .inr (1, [.int 0, .ref (g.2.2 1), .int 0])), (q_4, .inr (12, [.ref q_5, .int 0, .int 0])), (q_5, .inl (g.2.1 5, 17, .inr (.inr (.inr (.inr (fun _ => none)))))), (q_6, .inr (1, [.int 0, .ref (g.2.2 1), .int 0])), (q_7, .inr (1, [.int 0, .ref (g.2.2 1), .int 0]))] := hD
  refine lv_iconst (v := 0) hx hb dX11_init_72 (by decide) ?_
  refine lv_istore_n (lv' := [(1, .int 0), (0, .ref m0)]) hx hb dX11_init_73 rfl hl (by decide) rfl (fun ls hl => ?_)
  refine q_loop 64 (fun i9 f9 H locs ls => (∀ j : Nat, j < i9 → f9 j = 46) ∧ va_P g.1 CLS [(m0, .inr (11, [.ref q_1, .ref q_2, .ref q_3, .ref q_4, .ref q_6, .ref q_7, .int (-1), .int 0, .int 0, .int 0, .long 0, .int 0, .int 0, .int 0])), (q_1, .inr (1, [.int 0, .ref (g.2.2 1), .int 0])), (q_2, .inl (g.2.1 0, 64, .inl f9)), (q_3, .inr (1, [.int 0, .ref (g.2.2 1), .int 0])), (q_4, .inr (12, [.ref q_5, .int 0, .int 0])), (q_5, .inl (g.2.1 5, 17, .inr (.inr (.inr (.inr (fun _ => none)))))), (q_6, .inr (1, [.int 0, .ref (g.2.2 1), .int 0])), (q_7, .inr (1, [.int 0, .ref (g.2.2 1), .int 0]))] H ∧ va_D A [(m0, .inr (11, [.ref q_1, .ref q_2, .ref q_3, .ref q_4, .ref q_6, .ref q_7, .int (-1), .int 0, .int 0, .int 0, .long 0, .int 0, .int 0, .int 0])), (q_1, .inr (1, [.int 0, .ref (g.2.2 1), .int 0])), (q_2, .inl (g.2.1 0, 64, .inl f9)), (q_3, .inr (1, [.int 0, .ref (g.2.2 1), .int 0])), (q_4, .inr (12, [.ref q_5, .int 0, .int 0])), (q_5, .inl (g.2.1 5, 17, .inr (.inr (.inr (.inr (fun _ => none)))))), (q_6, .inr (1, [.int 0, .ref (g.2.2 1), .int 0])), (q_7, .inr (1, [.int 0, .ref (g.2.2 1), .int 0]))] ∧ va_S A s.heap H locs ∧ lv_has ls 2 [(1, .int (nI i9)), (0, .ref m0)]) (fun i9 f9 H locs ls hi hp ih => ?_) (fun f9 H locs ls hp => ?_) (fun _ => 0) ⟨fun j hj => absurd hj (Nat.not_lt_zero j), hP, hD, hS, hl⟩
  · obtain ⟨hf, hP, hD, hS, hl⟩ := hp
    refine lv_iload_n hx hb dX11_init_74 rfl (lv_at hl 0 rfl) ?_
    refine lv_aload_n hx hb dX11_init_75 rfl (lv_at hl 1 rfl) ?_
    refine va_get (D := g.1) (ci := 11) (v := .ref q_2) (C := RX11) (T := TX11) (N := 14) hx hb htg inG_X11 hown hK hP 0 rfl rfl 1 (by decide) (htg _ k1341) (fun _ h9 => h9) rfl dX11_init_76 ?_
    refine va_alen (v := 64) hx hb hK hP 2 0 rfl rfl rfl dX11_init_79 ?_
    refine lv_icmp_ge (tgt := 97) hx hb dX11_init_80 (by decide) (fun c9 => absurd c9 (nI_ge hi (by decide))) (fun c9 => ?_)
    refine lv_aload_n hx hb dX11_init_83 rfl (lv_at hl 1 rfl) ?_
    refine va_get (D := g.1) (ci := 11) (v := .ref q_2) (C := RX11) (T := TX11) (N := 14) hx hb htg inG_X11 hown hK hP 0 rfl rfl 1 (by decide) (htg _ k1341) (fun _ h9 => h9) rfl dX11_init_84 ?_
    refine lv_iload_n hx hb dX11_init_87 rfl (lv_at hl 0 rfl) ?_
    refine lv_bipush (v := 46) hx hb dX11_init_88 (by decide) ?_
    refine va_cast hx hb hK hP hD hS 2 0 rfl rfl (i := nI i9) (vp_in_nI hi (by decide)) dX11_init_90 (fun H locs hP hD hS => ?_)
    rw [nI_clamp (by omega)] at hP hD
    have hP : va_P g.1 CLS [(m0, .inr (11, [.ref q_1, .ref q_2, .ref q_3, .ref q_4, .ref q_6, .ref q_7, .int (-1), .int 0, .int 0, .int 0, .long 0, .int 0, .int 0, .int 0])), (q_1, .inr (1, [.int 0, .ref (g.2.2 1), .int 0])), (q_2, .inl (g.2.1 0, 64, .inl (upd f9 i9 (vp_nar .char 46)))), (q_3, .inr (1, [.int 0, .ref (g.2.2 1), .int 0])), (q_4, .inr (12, [.ref q_5, .int 0, .int 0])), (q_5, .inl (g.2.1 5, 17, .inr (.inr (.inr (.inr (fun _ => none)))))), (q_6, .inr (1, [.int 0, .ref (g.2.2 1), .int 0])), (q_7, .inr (1, [.int 0, .ref (g.2.2 1), .int 0]))] H := hP
    have hD : va_D A [(m0, .inr (11, [.ref q_1, .ref q_2, .ref q_3, .ref q_4, .ref q_6, .ref q_7, .int (-1), .int 0, .int 0, .int 0, .long 0, .int 0, .int 0, .int 0])), (q_1, .inr (1, [.int 0, .ref (g.2.2 1), .int 0])), (q_2, .inl (g.2.1 0, 64, .inl (upd f9 i9 (vp_nar .char 46)))), (q_3, .inr (1, [.int 0, .ref (g.2.2 1), .int 0])), (q_4, .inr (12, [.ref q_5, .int 0, .int 0])), (q_5, .inl (g.2.1 5, 17, .inr (.inr (.inr (.inr (fun _ => none)))))), (q_6, .inr (1, [.int 0, .ref (g.2.2 1), .int 0])), (q_7, .inr (1, [.int 0, .ref (g.2.2 1), .int 0]))] := hD
    refine lv_iinc (v := nI (i9 + 1)) (lv' := [(1, .int (nI (i9 + 1))), (0, .ref m0)]) hx hb dX11_init_91 hl (k := 0) rfl (nI_1 i9) (by decide) rfl (fun ls hl => ?_)
    refine lv_goto (tgt := 74) hx hb dX11_init_94 (by decide) ?_
    refine ih (upd f9 i9 (vp_nar .char 46)) H locs ls ⟨fun j hj => ?_, hP, hD, hS, lv_sub hl [0, 1] rfl⟩
    by_cases e : j = i9
    · rw [e]; simp only [upd, if_true]; rfl
    · simp only [upd, if_neg e]; exact hf j (by omega)
  · obtain ⟨hf, hP, hD, hS, hl⟩ := hp
    refine lv_iload_n hx hb dX11_init_74 rfl (lv_at hl 0 rfl) ?_
    refine lv_aload_n hx hb dX11_init_75 rfl (lv_at hl 1 rfl) ?_
    refine va_get (D := g.1) (ci := 11) (v := .ref q_2) (C := RX11) (T := TX11) (N := 14) hx hb htg inG_X11 hown hK hP 0 rfl rfl 1 (by decide) (htg _ k1341) (fun _ h9 => h9) rfl dX11_init_76 ?_
    refine va_alen (v := 64) hx hb hK hP 2 0 rfl rfl rfl dX11_init_79 ?_
    refine lv_icmp_ge (tgt := 97) hx hb dX11_init_80 (by decide) (fun c9 => ?_) (fun c9 => absurd (by decide) c9)
    have hP9 := hP.sub (ws' := [(m0, .inr (11, [.ref q_1, .ref q_2, .ref q_3, .ref q_4, .ref q_6, .ref q_7, .int (-1), .int 0, .int 0, .int 0, .long 0, .int 0, .int 0, .int 0])), (q_1, .inr (1, [.int 0, .ref (g.2.2 1), .int 0])), (q_2, .inl (g.2.1 0, 64, .inl f9)), (q_3, .inr (1, [.int 0, .ref (g.2.2 1), .int 0])), (q_4, .inr (12, [.ref q_5, .int 0, .int 0])), (q_5, .inl (g.2.1 5, 17, .inr (.inr (.inr (.inr (fun _ => none)))))), (q_6, .inr (1, [.int 0, .ref (g.2.2 1), .int 0])), (q_7, .inr (1, [.int 0, .ref (g.2.2 1), .int 0]))]) [0, 1, 2, 3, 4, 5, 6, 7] rfl
    have hD9 := hD.sub (ws' := [(m0, .inr (11, [.ref q_1, .ref q_2, .ref q_3, .ref q_4, .ref q_6, .ref q_7, .int (-1), .int 0, .int 0, .int 0, .long 0, .int 0, .int 0, .int 0])), (q_1, .inr (1, [.int 0, .ref (g.2.2 1), .int 0])), (q_2, .inl (g.2.1 0, 64, .inl f9)), (q_3, .inr (1, [.int 0, .ref (g.2.2 1), .int 0])), (q_4, .inr (12, [.ref q_5, .int 0, .int 0])), (q_5, .inl (g.2.1 5, 17, .inr (.inr (.inr (.inr (fun _ => none)))))), (q_6, .inr (1, [.int 0, .ref (g.2.2 1), .int 0])), (q_7, .inr (1, [.int 0, .ref (g.2.2 1), .int 0]))]) [0, 1, 2, 3, 4, 5, 6, 7] (by decide) rfl
    refine W.widen (k := 20) (n := 200) (Nat.le_of_ble_eq_true rfl) (Nat.le_of_ble_eq_true rfl) ?_
    exact W.vret hx hb hr (fun t ht hW => ⟨⟨[(m0, .inr (11, [.ref q_1, .ref q_2, .ref q_3, .ref q_4, .ref q_6, .ref q_7, .int (-1), .int 0, .int 0, .int 0, .long 0, .int 0, .int 0, .int 0])), (q_1, .inr (1, [.int 0, .ref (g.2.2 1), .int 0])), (q_2, .inl (g.2.1 0, 64, .inl f9)), (q_3, .inr (1, [.int 0, .ref (g.2.2 1), .int 0])), (q_4, .inr (12, [.ref q_5, .int 0, .int 0])), (q_5, .inl (g.2.1 5, 17, .inr (.inr (.inr (.inr (fun _ => none)))))), (q_6, .inr (1, [.int 0, .ref (g.2.2 1), .int 0])), (q_7, .inr (1, [.int 0, .ref (g.2.2 1), .int 0]))], rfl, ⟨q_1, q_2, q_3, q_4, q_6, q_7, q_5, f9, hf, rfl⟩, by rw [ht]; exact hP9, va_K.moved hW.alike hK, hD9⟩, hS.F ht⟩) hS.2.2 dX11_init_97
