theorem k437 : (Jvm.Cond.fieldLink "java/lang/String" (38 : Nat) "java/lang/String" "COMPACT_STRINGS" "Z") ∈ G9 := g9 437 (by decide +kernel) rfl
theorem k2090 : (Jvm.Cond.fieldLink "java/lang/String" (15 : Nat) "java/lang/String" "coder" "B") ∈ G9 := g9 2090 (by decide +kernel) rfl
theorem k2089 : (Jvm.Cond.fieldLink "java/lang/String" (9 : Nat) "java/lang/String" "value" "[B") ∈ G9 := g9 2089 (by decide +kernel) rfl
theorem k446 : (Jvm.Cond.code ({ cls := "java/lang/String", name := "coder", desc := "()B" } : Jvm.MethodName) prog_33_method_152_code (1 : Nat) (Option.some Jvm.ClassFile.FieldType.byte)) ∈ G9 := g9 446 (by decide +kernel) rfl
theorem k77 : (Jvm.Cond.initialized "java/lang/String") ∈ G9 := g9 77 (by decide +kernel) rfl
theorem k443 : (Jvm.Cond.methodLink "java/lang/String" (335 : Nat) ({ cls := "java/lang/String", name := "coder", desc := "()B" } : Jvm.MethodName)) ∈ G9 := g9 443 (by decide +kernel) rfl
theorem ok_J0_coder_7d493 : okN yJ0_coder_7d493 0 := by decide +kernel
theorem k444 : (Jvm.Cond.instanceMethod ({ cls := "java/lang/String", name := "coder", desc := "()B" } : Jvm.MethodName)) ∈ G9 := g9 444 (by decide +kernel) rfl
theorem k445 : (Jvm.Cond.selects "java/lang/String" ({ cls := "java/lang/String", name := "coder", desc := "()B" } : Jvm.MethodName) ({ cls := "java/lang/String", name := "coder", desc := "()B" } : Jvm.MethodName)) ∈ G9 := g9 445 (by decide +kernel) rfl
theorem k452 : (Jvm.Cond.code ({ cls := "java/lang/StringLatin1", name := "canEncode", desc := "(I)Z" } : Jvm.MethodName) prog_35_method_4_code (1 : Nat) (Option.some Jvm.ClassFile.FieldType.boolean)) ∈ G9 := g9 452 (by decide +kernel) rfl
theorem k78 : (Jvm.Cond.initialized "java/lang/StringLatin1") ∈ G9 := g9 78 (by decide +kernel) rfl
theorem k450 : (Jvm.Cond.methodLink "java/lang/StringLatin1" (88 : Nat) ({ cls := "java/lang/StringLatin1", name := "canEncode", desc := "(I)Z" } : Jvm.MethodName)) ∈ G9 := g9 450 (by decide +kernel) rfl
theorem ok_J1_canEncode_9a6ad : okN yJ1_canEncode_9a6ad 1 := by decide +kernel
theorem k451 : (Jvm.Cond.static ({ cls := "java/lang/StringLatin1", name := "canEncode", desc := "(I)Z" } : Jvm.MethodName)) ∈ G9 := g9 451 (by decide +kernel) rfl
theorem k453 : (Jvm.Cond.methodLink "java/lang/StringLatin1" (92 : Nat) ({ cls := "java/lang/Math", name := "max", desc := "(II)I" } : Jvm.MethodName)) ∈ G9 := g9 453 (by decide +kernel) rfl
theorem k454 : (Jvm.Cond.static ({ cls := "java/lang/Math", name := "max", desc := "(II)I" } : Jvm.MethodName)) ∈ G9 := g9 454 (by decide +kernel) rfl
theorem k72 : (Jvm.Cond.initialized "java/lang/Math") ∈ G9 := g9 72 (by decide +kernel) rfl
theorem k455 : (Jvm.Cond.code ({ cls := "java/lang/Math", name := "max", desc := "(II)I" } : Jvm.MethodName) prog_30_method_65_code (2 : Nat) (Option.some Jvm.ClassFile.FieldType.int)) ∈ G9 := g9 455 (by decide +kernel) rfl
theorem k456 : (Jvm.Cond.methodLink "java/lang/StringLatin1" (38 : Nat) ({ cls := "java/lang/Math", name := "min", desc := "(II)I" } : Jvm.MethodName)) ∈ G9 := g9 456 (by decide +kernel) rfl
theorem k457 : (Jvm.Cond.static ({ cls := "java/lang/Math", name := "min", desc := "(II)I" } : Jvm.MethodName)) ∈ G9 := g9 457 (by decide +kernel) rfl
theorem k458 : (Jvm.Cond.code ({ cls := "java/lang/Math", name := "min", desc := "(II)I" } : Jvm.MethodName) prog_30_method_69_code (2 : Nat) (Option.some Jvm.ClassFile.FieldType.int)) ∈ G9 := g9 458 (by decide +kernel) rfl
theorem k461 : (Jvm.Cond.code ({ cls := "java/lang/StringLatin1", name := "indexOfChar", desc := "([BIII)I" } : Jvm.MethodName) prog_35_method_23_code (6 : Nat) (Option.some Jvm.ClassFile.FieldType.int)) ∈ G9 := g9 461 (by decide +kernel) rfl
theorem k459 : (Jvm.Cond.methodLink "java/lang/StringLatin1" (95 : Nat) ({ cls := "java/lang/StringLatin1", name := "indexOfChar", desc := "([BIII)I" } : Jvm.MethodName)) ∈ G9 := g9 459 (by decide +kernel) rfl
theorem ok_J1_indexOfChar_4cfef : okN yJ1_indexOfChar_4cfef 4 := by decide +kernel
theorem k460 : (Jvm.Cond.static ({ cls := "java/lang/StringLatin1", name := "indexOfChar", desc := "([BIII)I" } : Jvm.MethodName)) ∈ G9 := g9 460 (by decide +kernel) rfl
theorem k436 : (Jvm.Cond.code ({ cls := "java/lang/String", name := "isLatin1", desc := "()Z" } : Jvm.MethodName) prog_33_method_154_code (1 : Nat) (Option.some Jvm.ClassFile.FieldType.boolean)) ∈ G9 := g9 436 (by decide +kernel) rfl
theorem k433 : (Jvm.Cond.methodLink "java/lang/String" (492 : Nat) ({ cls := "java/lang/String", name := "isLatin1", desc := "()Z" } : Jvm.MethodName)) ∈ G9 := g9 433 (by decide +kernel) rfl
theorem ok_J0_isLatin1_aae02 : okN yJ0_isLatin1_aae02 0 := by decide +kernel
theorem k434 : (Jvm.Cond.instanceMethod ({ cls := "java/lang/String", name := "isLatin1", desc := "()Z" } : Jvm.MethodName)) ∈ G9 := g9 434 (by decide +kernel) rfl
theorem k435 : (Jvm.Cond.selects "java/lang/String" ({ cls := "java/lang/String", name := "isLatin1", desc := "()Z" } : Jvm.MethodName) ({ cls := "java/lang/String", name := "isLatin1", desc := "()Z" } : Jvm.MethodName)) ∈ G9 := g9 435 (by decide +kernel) rfl
theorem k442 : (Jvm.Cond.code ({ cls := "java/lang/String", name := "length", desc := "()I" } : Jvm.MethodName) prog_33_method_54_code (1 : Nat) (Option.some Jvm.ClassFile.FieldType.int)) ∈ G9 := g9 442 (by decide +kernel) rfl
theorem k439 : (Jvm.Cond.methodLink "java/lang/String" (505 : Nat) ({ cls := "java/lang/String", name := "length", desc := "()I" } : Jvm.MethodName)) ∈ G9 := g9 439 (by decide +kernel) rfl
theorem ok_J0_length_8abf5 : okN yJ0_length_8abf5 0 := by decide +kernel
theorem k440 : (Jvm.Cond.instanceMethod ({ cls := "java/lang/String", name := "length", desc := "()I" } : Jvm.MethodName)) ∈ G9 := g9 440 (by decide +kernel) rfl
theorem k441 : (Jvm.Cond.selects "java/lang/String" ({ cls := "java/lang/String", name := "length", desc := "()I" } : Jvm.MethodName) ({ cls := "java/lang/String", name := "length", desc := "()I" } : Jvm.MethodName)) ∈ G9 := g9 441 (by decide +kernel) rfl
theorem k449 : (Jvm.Cond.code ({ cls := "java/lang/StringLatin1", name := "indexOf", desc := "([BIII)I" } : Jvm.MethodName) prog_35_method_22_code (4 : Nat) (Option.some Jvm.ClassFile.FieldType.int)) ∈ G9 := g9 449 (by decide +kernel) rfl
theorem k447 : (Jvm.Cond.methodLink "java/lang/String" (637 : Nat) ({ cls := "java/lang/StringLatin1", name := "indexOf", desc := "([BIII)I" } : Jvm.MethodName)) ∈ G9 := g9 447 (by decide +kernel) rfl
theorem ok_J1_indexOf_4cfef : okN yJ1_indexOf_4cfef 4 := by decide +kernel
theorem k448 : (Jvm.Cond.static ({ cls := "java/lang/StringLatin1", name := "indexOf", desc := "([BIII)I" } : Jvm.MethodName)) ∈ G9 := g9 448 (by decide +kernel) rfl
theorem k432 : (Jvm.Cond.code ({ cls := "java/lang/String", name := "indexOf", desc := "(II)I" } : Jvm.MethodName) prog_33_method_80_code (3 : Nat) (Option.some Jvm.ClassFile.FieldType.int)) ∈ G9 := g9 432 (by decide +kernel) rfl
theorem k429 : (Jvm.Cond.methodLink "java/lang/String" (633 : Nat) ({ cls := "java/lang/String", name := "indexOf", desc := "(II)I" } : Jvm.MethodName)) ∈ G9 := g9 429 (by decide +kernel) rfl
theorem ok_J0_indexOf_7cf53 : okN yJ0_indexOf_7cf53 2 := by decide +kernel
theorem k430 : (Jvm.Cond.instanceMethod ({ cls := "java/lang/String", name := "indexOf", desc := "(II)I" } : Jvm.MethodName)) ∈ G9 := g9 430 (by decide +kernel) rfl
theorem k431 : (Jvm.Cond.selects "java/lang/String" ({ cls := "java/lang/String", name := "indexOf", desc := "(II)I" } : Jvm.MethodName) ({ cls := "java/lang/String", name := "indexOf", desc := "(II)I" } : Jvm.MethodName)) ∈ G9 := g9 431 (by decide +kernel) rfl
theorem k1437 : (Jvm.Cond.lays "java/util/ArrayList$Itr" "java/util/ArrayList$Itr" "cursor" "I") ∈ G9 := g9 1437 (by decide +kernel) rfl
theorem k1439 : (Jvm.Cond.lays "java/util/ArrayList$Itr" "java/util/ArrayList$Itr" "lastRet" "I") ∈ G9 := g9 1439 (by decide +kernel) rfl
theorem k1441 : (Jvm.Cond.lays "java/util/ArrayList$Itr" "java/util/ArrayList$Itr" "expectedModCount" "I") ∈ G9 := g9 1441 (by decide +kernel) rfl
theorem k1443 : (Jvm.Cond.laysFinal "java/util/ArrayList$Itr" "java/util/ArrayList$Itr" "this$0" "Ljava/util/ArrayList;") ∈ G9 := g9 1443 (by decide +kernel) rfl
theorem inG_Jx35411 : ∀ w ∈ u_ws RJx35411 TJx35411 4, w ∈ G9 := by
  intro w h
  have h : w ∈ [u_lay RJx35411 TJx35411 0, u_lay RJx35411 TJx35411 1, u_lay RJx35411 TJx35411 2, u_lay RJx35411 TJx35411 3] := h
  simp only [List.mem_cons, List.not_mem_nil, or_false] at h
  rcases h with rfl | rfl | rfl | rfl
  · exact k1437
  · exact k1439
  · exact k1441
  · exact k1443
theorem k1436 : (Jvm.Cond.fieldLink "java/util/ArrayList$Itr" (1 : Nat) "java/util/ArrayList$Itr" "this$0" "Ljava/util/ArrayList;") ∈ G9 := g9 1436 (by decide +kernel) rfl
theorem k1432 : (Jvm.Cond.methodLink "java/util/ArrayList$Itr" (7 : Nat) ({ cls := "java/lang/Object", name := "<init>", desc := "()V" } : Jvm.MethodName)) ∈ G9 := g9 1432 (by decide +kernel) rfl
theorem k98 : (Jvm.Cond.instanceMethod ({ cls := "java/lang/Object", name := "<init>", desc := "()V" } : Jvm.MethodName)) ∈ G9 := g9 98 (by decide +kernel) rfl
theorem k99 : (Jvm.Cond.code ({ cls := "java/lang/Object", name := "<init>", desc := "()V" } : Jvm.MethodName) object_method_1_code (1 : Nat) (Option.none : Option Jvm.ClassFile.FieldType)) ∈ G9 := g9 99 (by decide +kernel) rfl
theorem k1434 : (Jvm.Cond.fieldLink "java/util/ArrayList$Itr" (13 : Nat) "java/util/ArrayList$Itr" "lastRet" "I") ∈ G9 := g9 1434 (by decide +kernel) rfl
theorem k1312 : (Jvm.Cond.fieldLink "java/util/ArrayList$Itr" (17 : Nat) "java/util/ArrayList" "modCount" "I") ∈ G9 := g9 1312 (by decide +kernel) rfl
theorem k1435 : (Jvm.Cond.fieldLink "java/util/ArrayList$Itr" (22 : Nat) "java/util/ArrayList$Itr" "expectedModCount" "I") ∈ G9 := g9 1435 (by decide +kernel) rfl
theorem k1427 : (Jvm.Cond.classLink "java/util/ArrayList" (267 : Nat) "java/util/ArrayList$Itr") ∈ G9 := g9 1427 (by decide +kernel) rfl
theorem k1428 : (Jvm.Cond.instantiable "java/util/ArrayList$Itr" (4 : Nat)) ∈ G9 := g9 1428 (by decide +kernel) rfl
theorem k73 : (Jvm.Cond.initialized "java/util/ArrayList$Itr") ∈ G9 := g9 73 (by decide +kernel) rfl
theorem k1431 : (Jvm.Cond.code ({ cls := "java/util/ArrayList$Itr", name := "<init>", desc := "(Ljava/util/ArrayList;)V" } : Jvm.MethodName) prog_46_method_1_code (2 : Nat) (Option.none : Option Jvm.ClassFile.FieldType)) ∈ G9 := g9 1431 (by decide +kernel) rfl
theorem k1429 : (Jvm.Cond.methodLink "java/util/ArrayList" (269 : Nat) ({ cls := "java/util/ArrayList$Itr", name := "<init>", desc := "(Ljava/util/ArrayList;)V" } : Jvm.MethodName)) ∈ G9 := g9 1429 (by decide +kernel) rfl
theorem ok_Jx35411_init_45d68 : okN yJx35411_init_45d68 1 := by decide +kernel
theorem k1430 : (Jvm.Cond.instanceMethod ({ cls := "java/util/ArrayList$Itr", name := "<init>", desc := "(Ljava/util/ArrayList;)V" } : Jvm.MethodName)) ∈ G9 := g9 1430 (by decide +kernel) rfl
theorem k1433 : (Jvm.Cond.fieldLink "java/util/ArrayList$Itr" (25 : Nat) "java/util/ArrayList$Itr" "cursor" "I") ∈ G9 := g9 1433 (by decide +kernel) rfl
theorem k1468 : (Jvm.Cond.code ({ cls := "java/util/ArrayList$Itr", name := "checkForComodification", desc := "()V" } : Jvm.MethodName) prog_46_method_6_code (1 : Nat) (Option.none : Option Jvm.ClassFile.FieldType)) ∈ G9 := g9 1468 (by decide +kernel) rfl
theorem k1465 : (Jvm.Cond.methodLink "java/util/ArrayList$Itr" (31 : Nat) ({ cls := "java/util/ArrayList$Itr", name := "checkForComodification", desc := "()V" } : Jvm.MethodName)) ∈ G9 := g9 1465 (by decide +kernel) rfl
theorem ok_Jx35411_checkForComodification_da8c8 : okN yJx35411_checkForComodification_da8c8 0 := by decide +kernel
theorem k1466 : (Jvm.Cond.instanceMethod ({ cls := "java/util/ArrayList$Itr", name := "checkForComodification", desc := "()V" } : Jvm.MethodName)) ∈ G9 := g9 1466 (by decide +kernel) rfl
theorem k1467 : (Jvm.Cond.selects "java/util/ArrayList$Itr" ({ cls := "java/util/ArrayList$Itr", name := "checkForComodification", desc := "()V" } : Jvm.MethodName) ({ cls := "java/util/ArrayList$Itr", name := "checkForComodification", desc := "()V" } : Jvm.MethodName)) ∈ G9 := g9 1467 (by decide +kernel) rfl
theorem k1308 : (Jvm.Cond.fieldLink "java/util/ArrayList$Itr" (37 : Nat) "java/util/ArrayList" "elementData" "[Ljava/lang/Object;") ∈ G9 := g9 1308 (by decide +kernel) rfl
theorem k1331 : (Jvm.Cond.fieldLink "java/util/ArrayDeque" (24 : Nat) "java/util/ArrayDeque" "head" "I") ∈ G9 := g9 1331 (by decide +kernel) rfl
theorem k1332 : (Jvm.Cond.fieldLink "java/util/ArrayDeque" (20 : Nat) "java/util/ArrayDeque" "tail" "I") ∈ G9 := g9 1332 (by decide +kernel) rfl
theorem k1343 : (Jvm.Cond.fieldLink "HeroTableModel" (26 : Nat) "HeroTableModel" "dice" "Ljava/util/ArrayDeque;") ∈ G9 := g9 1343 (by decide +kernel) rfl
theorem k2121 : (Jvm.Cond.code ({ cls := "java/util/ArrayDeque", name := "isEmpty", desc := "()Z" } : Jvm.MethodName) prog_44_method_38_code (1 : Nat) (Option.some Jvm.ClassFile.FieldType.boolean)) ∈ G9 := g9 2121 (by decide +kernel) rfl
theorem k61 : (Jvm.Cond.initialized "java/util/ArrayDeque") ∈ G9 := g9 61 (by decide +kernel) rfl
theorem k2118 : (Jvm.Cond.methodLink "HeroTableModel" (228 : Nat) ({ cls := "java/util/ArrayDeque", name := "isEmpty", desc := "()Z" } : Jvm.MethodName)) ∈ G9 := g9 2118 (by decide +kernel) rfl
theorem ok_X12_isEmpty : okN yX12_isEmpty 0 := by decide +kernel
theorem k2119 : (Jvm.Cond.instanceMethod ({ cls := "java/util/ArrayDeque", name := "isEmpty", desc := "()Z" } : Jvm.MethodName)) ∈ G9 := g9 2119 (by decide +kernel) rfl
theorem k2120 : (Jvm.Cond.selects "java/util/ArrayDeque" ({ cls := "java/util/ArrayDeque", name := "isEmpty", desc := "()Z" } : Jvm.MethodName) ({ cls := "java/util/ArrayDeque", name := "isEmpty", desc := "()Z" } : Jvm.MethodName)) ∈ G9 := g9 2120 (by decide +kernel) rfl
theorem k428 : (Jvm.Cond.code ({ cls := "java/lang/String", name := "indexOf", desc := "(I)I" } : Jvm.MethodName) prog_33_method_79_code (2 : Nat) (Option.some Jvm.ClassFile.FieldType.int)) ∈ G9 := g9 428 (by decide +kernel) rfl
theorem k1632 : (Jvm.Cond.methodLink "HeroTableModel" (113 : Nat) ({ cls := "java/lang/String", name := "indexOf", desc := "(I)I" } : Jvm.MethodName)) ∈ G9 := g9 1632 (by decide +kernel) rfl
theorem ok_J0_indexOf_0f7a4 : okN yJ0_indexOf_0f7a4 1 := by decide +kernel
theorem k426 : (Jvm.Cond.instanceMethod ({ cls := "java/lang/String", name := "indexOf", desc := "(I)I" } : Jvm.MethodName)) ∈ G9 := g9 426 (by decide +kernel) rfl
theorem k427 : (Jvm.Cond.selects "java/lang/String" ({ cls := "java/lang/String", name := "indexOf", desc := "(I)I" } : Jvm.MethodName) ({ cls := "java/lang/String", name := "indexOf", desc := "(I)I" } : Jvm.MethodName)) ∈ G9 := g9 427 (by decide +kernel) rfl
theorem k156 : (Jvm.Cond.arrayClass Jvm.ClassFile.FieldType.int) ∈ G9 := g9 156 (by decide +kernel) rfl
theorem k1342 : (Jvm.Cond.fieldLink "HeroTableModel" (20 : Nat) "HeroTableModel" "sources" "Ljava/util/List;") ∈ G9 := g9 1342 (by decide +kernel) rfl
theorem k1426 : (Jvm.Cond.code ({ cls := "java/util/ArrayList", name := "iterator", desc := "()Ljava/util/Iterator;" } : Jvm.MethodName) prog_45_method_55_code (1 : Nat) (Option.some (Jvm.ClassFile.FieldType.object "java/util/Iterator"))) ∈ G9 := g9 1426 (by decide +kernel) rfl
theorem k60 : (Jvm.Cond.initialized "java/util/ArrayList") ∈ G9 := g9 60 (by decide +kernel) rfl
theorem k1419 : (Jvm.Cond.methodLink "HeroTableModel" (70 : Nat) ({ cls := "java/util/List", name := "iterator", desc := "()Ljava/util/Iterator;" } : Jvm.MethodName)) ∈ G9 := g9 1419 (by decide +kernel) rfl
theorem k1422 : (Jvm.Cond.selects "java/util/ArrayList" ({ cls := "java/util/List", name := "iterator", desc := "()Ljava/util/Iterator;" } : Jvm.MethodName) ({ cls := "java/util/ArrayList", name := "iterator", desc := "()Ljava/util/Iterator;" } : Jvm.MethodName)) ∈ G9 := g9 1422 (by decide +kernel) rfl
theorem k1424 : (Jvm.Cond.instanceMethod ({ cls := "java/util/ArrayList", name := "iterator", desc := "()Ljava/util/Iterator;" } : Jvm.MethodName)) ∈ G9 := g9 1424 (by decide +kernel) rfl
theorem okx_iterator : okN yI_iterator 0 := by decide +kernel
theorem k1455 : (Jvm.Cond.code ({ cls := "java/util/ArrayList$Itr", name := "hasNext", desc := "()Z" } : Jvm.MethodName) prog_46_method_2_code (1 : Nat) (Option.some Jvm.ClassFile.FieldType.boolean)) ∈ G9 := g9 1455 (by decide +kernel) rfl
theorem k1447 : (Jvm.Cond.methodLink "HeroTableModel" (74 : Nat) ({ cls := "java/util/Iterator", name := "hasNext", desc := "()Z" } : Jvm.MethodName)) ∈ G9 := g9 1447 (by decide +kernel) rfl
theorem k1451 : (Jvm.Cond.selects "java/util/ArrayList$Itr" ({ cls := "java/util/Iterator", name := "hasNext", desc := "()Z" } : Jvm.MethodName) ({ cls := "java/util/ArrayList$Itr", name := "hasNext", desc := "()Z" } : Jvm.MethodName)) ∈ G9 := g9 1451 (by decide +kernel) rfl
theorem k1453 : (Jvm.Cond.instanceMethod ({ cls := "java/util/ArrayList$Itr", name := "hasNext", desc := "()Z" } : Jvm.MethodName)) ∈ G9 := g9 1453 (by decide +kernel) rfl
theorem okx_hasNext : okN yI_hasNext 0 := by decide +kernel
theorem k1464 : (Jvm.Cond.code ({ cls := "java/util/ArrayList$Itr", name := "next", desc := "()Ljava/lang/Object;" } : Jvm.MethodName) prog_46_method_3_code (3 : Nat) (Option.some (Jvm.ClassFile.FieldType.object "java/lang/Object"))) ∈ G9 := g9 1464 (by decide +kernel) rfl
theorem k1457 : (Jvm.Cond.methodLink "HeroTableModel" (80 : Nat) ({ cls := "java/util/Iterator", name := "next", desc := "()Ljava/lang/Object;" } : Jvm.MethodName)) ∈ G9 := g9 1457 (by decide +kernel) rfl
theorem k1460 : (Jvm.Cond.selects "java/util/ArrayList$Itr" ({ cls := "java/util/Iterator", name := "next", desc := "()Ljava/lang/Object;" } : Jvm.MethodName) ({ cls := "java/util/ArrayList$Itr", name := "next", desc := "()Ljava/lang/Object;" } : Jvm.MethodName)) ∈ G9 := g9 1460 (by decide +kernel) rfl
theorem k1462 : (Jvm.Cond.instanceMethod ({ cls := "java/util/ArrayList$Itr", name := "next", desc := "()Ljava/lang/Object;" } : Jvm.MethodName)) ∈ G9 := g9 1462 (by decide +kernel) rfl
theorem okx_next : okN yI_next 0 := by decide +kernel
theorem k1673 : (Jvm.Cond.classLink "HeroTableModel" (150 : Nat) "HeroTableModel$Source") ∈ G9 := g9 1673 (by decide +kernel) rfl
theorem k2117 : (Jvm.Cond.code ({ cls := "HeroTableModel", name := "die", desc := "()I" } : Jvm.MethodName) prog_10_method_35_code (1 : Nat) (Option.some Jvm.ClassFile.FieldType.int)) ∈ G9 := g9 2117 (by decide +kernel) rfl
theorem k57 : (Jvm.Cond.initialized "HeroTableModel") ∈ G9 := g9 57 (by decide +kernel) rfl
theorem k2114 : (Jvm.Cond.methodLink "HeroTableModel" (239 : Nat) ({ cls := "HeroTableModel", name := "die", desc := "()I" } : Jvm.MethodName)) ∈ G9 := g9 2114 (by decide +kernel) rfl
theorem ok_X11_die : okN yX11_die 0 := by decide +kernel
theorem k2116 : (Jvm.Cond.instanceMethod ({ cls := "HeroTableModel", name := "die", desc := "()I" } : Jvm.MethodName)) ∈ G9 := g9 2116 (by decide +kernel) rfl
theorem k36 : (Jvm.Cond.selects "HeroTableModel" ({ cls := "HeroTableModel", name := "die", desc := "()I" } : Jvm.MethodName) ({ cls := "HeroTableModel", name := "die", desc := "()I" } : Jvm.MethodName)) ∈ G9 := g9 36 (by decide +kernel) rfl
theorem k1791 : (Jvm.Cond.code ({ cls := "HeroTableModel", name := "number", desc := "(LHeroTableModel$Hero;C)I" } : Jvm.MethodName) prog_10_method_29_code (9 : Nat) (Option.some Jvm.ClassFile.FieldType.int)) ∈ G9 := g9 1791 (by decide +kernel) rfl
theorem k1788 : (Jvm.Cond.methodLink "HeroTableModel" (217 : Nat) ({ cls := "HeroTableModel", name := "number", desc := "(LHeroTableModel$Hero;C)I" } : Jvm.MethodName)) ∈ G9 := g9 1788 (by decide +kernel) rfl
theorem ok_X11_number : okN yX11_number 2 := by decide +kernel
theorem k1790 : (Jvm.Cond.instanceMethod ({ cls := "HeroTableModel", name := "number", desc := "(LHeroTableModel$Hero;C)I" } : Jvm.MethodName)) ∈ G9 := g9 1790 (by decide +kernel) rfl
theorem k28 : (Jvm.Cond.selects "HeroTableModel" ({ cls := "HeroTableModel", name := "number", desc := "(LHeroTableModel$Hero;C)I" } : Jvm.MethodName) ({ cls := "HeroTableModel", name := "number", desc := "(LHeroTableModel$Hero;C)I" } : Jvm.MethodName)) ∈ G9 := g9 28 (by decide +kernel) rfl
theorem dJ0_isLatin1_aae02_0 : decode cJ0_isLatin1_aae02 0 = .ok (.getstatic 38, 3) := by decide +kernel
theorem dJ0_isLatin1_aae02_3 : decode cJ0_isLatin1_aae02 3 = .ok (.ifCond .eq 14, 3) := by decide +kernel
theorem dJ0_isLatin1_aae02_6 : decode cJ0_isLatin1_aae02 6 = .ok (.aload_n 0, 1) := by decide +kernel
theorem dJ0_isLatin1_aae02_7 : decode cJ0_isLatin1_aae02 7 = .ok (.getfield 15, 3) := by decide +kernel
theorem dJ0_isLatin1_aae02_10 : decode cJ0_isLatin1_aae02 10 = .ok (.ifCond .ne 7, 3) := by decide +kernel
theorem dJ0_isLatin1_aae02_13 : decode cJ0_isLatin1_aae02 13 = .ok (.iconst 1, 1) := by decide +kernel
theorem dJ0_isLatin1_aae02_14 : decode cJ0_isLatin1_aae02 14 = .ok (.goto 4, 3) := by decide +kernel
theorem dJ0_isLatin1_aae02_18 : decode cJ0_isLatin1_aae02 18 = .ok (.ireturn, 1) := by decide +kernel
theorem dJ0_coder_7d493_0 : decode cJ0_coder_7d493 0 = .ok (.getstatic 38, 3) := by decide +kernel
theorem dJ0_coder_7d493_3 : decode cJ0_coder_7d493 3 = .ok (.ifCond .eq 10, 3) := by decide +kernel
theorem dJ0_coder_7d493_6 : decode cJ0_coder_7d493 6 = .ok (.aload_n 0, 1) := by decide +kernel
theorem dJ0_coder_7d493_7 : decode cJ0_coder_7d493 7 = .ok (.getfield 15, 3) := by decide +kernel
theorem dJ0_coder_7d493_10 : decode cJ0_coder_7d493 10 = .ok (.goto 4, 3) := by decide +kernel
theorem dJ0_coder_7d493_14 : decode cJ0_coder_7d493 14 = .ok (.ireturn, 1) := by decide +kernel
theorem dJ0_length_8abf5_0 : decode cJ0_length_8abf5 0 = .ok (.aload_n 0, 1) := by decide +kernel
theorem dJ0_length_8abf5_1 : decode cJ0_length_8abf5 1 = .ok (.getfield 9, 3) := by decide +kernel
theorem dJ0_length_8abf5_4 : decode cJ0_length_8abf5 4 = .ok (.arraylength, 1) := by decide +kernel
theorem dJ0_length_8abf5_5 : decode cJ0_length_8abf5 5 = .ok (.aload_n 0, 1) := by decide +kernel
theorem dJ0_length_8abf5_6 : decode cJ0_length_8abf5 6 = .ok (.invokevirtual 335, 3) := by decide +kernel
theorem dJ0_length_8abf5_9 : decode cJ0_length_8abf5 9 = .ok (.ishr, 1) := by decide +kernel
theorem dJ0_length_8abf5_10 : decode cJ0_length_8abf5 10 = .ok (.ireturn, 1) := by decide +kernel
theorem dJ1_canEncode_9a6ad_0 : decode cJ1_canEncode_9a6ad 0 = .ok (.iload_n 0, 1) := by decide +kernel
theorem dJ1_canEncode_9a6ad_1 : decode cJ1_canEncode_9a6ad 1 = .ok (.ifCond .lt 14, 3) := by decide +kernel
theorem dJ1_canEncode_9a6ad_4 : decode cJ1_canEncode_9a6ad 4 = .ok (.iload_n 0, 1) := by decide +kernel
theorem dJ1_canEncode_9a6ad_5 : decode cJ1_canEncode_9a6ad 5 = .ok (.sipush 255, 3) := by decide +kernel
theorem dJ1_canEncode_9a6ad_8 : decode cJ1_canEncode_9a6ad 8 = .ok (.if_icmp .gt 7, 3) := by decide +kernel
theorem dJ1_canEncode_9a6ad_11 : decode cJ1_canEncode_9a6ad 11 = .ok (.iconst 1, 1) := by decide +kernel
theorem dJ1_canEncode_9a6ad_12 : decode cJ1_canEncode_9a6ad 12 = .ok (.goto 4, 3) := by decide +kernel
theorem dJ1_canEncode_9a6ad_16 : decode cJ1_canEncode_9a6ad 16 = .ok (.ireturn, 1) := by decide +kernel
theorem dJ1_indexOfChar_4cfef_0 : decode cJ1_indexOfChar_4cfef 0 = .ok (.iload_n 1, 1) := by decide +kernel
theorem dJ1_indexOfChar_4cfef_1 : decode cJ1_indexOfChar_4cfef 1 = .ok (.i2b, 1) := by decide +kernel
theorem dJ1_indexOfChar_4cfef_2 : decode cJ1_indexOfChar_4cfef 2 = .ok (.istore 4, 2) := by decide +kernel
theorem dJ1_indexOfChar_4cfef_4 : decode cJ1_indexOfChar_4cfef 4 = .ok (.iload_n 2, 1) := by decide +kernel
theorem dJ1_indexOfChar_4cfef_5 : decode cJ1_indexOfChar_4cfef 5 = .ok (.istore 5, 2) := by decide +kernel
theorem dJ1_indexOfChar_4cfef_7 : decode cJ1_indexOfChar_4cfef 7 = .ok (.iload 5, 2) := by decide +kernel
theorem dJ1_indexOfChar_4cfef_9 : decode cJ1_indexOfChar_4cfef 9 = .ok (.iload_n 3, 1) := by decide +kernel
theorem dJ1_indexOfChar_4cfef_10 : decode cJ1_indexOfChar_4cfef 10 = .ok (.if_icmp .ge 21, 3) := by decide +kernel
theorem dJ1_indexOfChar_4cfef_13 : decode cJ1_indexOfChar_4cfef 13 = .ok (.aload_n 0, 1) := by decide +kernel
theorem dJ1_indexOfChar_4cfef_14 : decode cJ1_indexOfChar_4cfef 14 = .ok (.iload 5, 2) := by decide +kernel
theorem dJ1_indexOfChar_4cfef_16 : decode cJ1_indexOfChar_4cfef 16 = .ok (.baload, 1) := by decide +kernel
theorem dJ1_indexOfChar_4cfef_17 : decode cJ1_indexOfChar_4cfef 17 = .ok (.iload 4, 2) := by decide +kernel
theorem dJ1_indexOfChar_4cfef_19 : decode cJ1_indexOfChar_4cfef 19 = .ok (.if_icmp .ne 6, 3) := by decide +kernel
theorem dJ1_indexOfChar_4cfef_22 : decode cJ1_indexOfChar_4cfef 22 = .ok (.iload 5, 2) := by decide +kernel
theorem dJ1_indexOfChar_4cfef_24 : decode cJ1_indexOfChar_4cfef 24 = .ok (.ireturn, 1) := by decide +kernel
theorem dJ1_indexOfChar_4cfef_25 : decode cJ1_indexOfChar_4cfef 25 = .ok (.iinc 5 1, 3) := by decide +kernel
theorem dJ1_indexOfChar_4cfef_28 : decode cJ1_indexOfChar_4cfef 28 = .ok (.goto (-21), 3) := by decide +kernel
theorem dJ1_indexOf_4cfef_0 : decode cJ1_indexOf_4cfef 0 = .ok (.iload_n 1, 1) := by decide +kernel
theorem dJ1_indexOf_4cfef_1 : decode cJ1_indexOf_4cfef 1 = .ok (.invokestatic 88, 3) := by decide +kernel
theorem dJ1_indexOf_4cfef_4 : decode cJ1_indexOf_4cfef 4 = .ok (.ifCond .ne 5, 3) := by decide +kernel
theorem dJ1_indexOf_4cfef_9 : decode cJ1_indexOf_4cfef 9 = .ok (.iload_n 2, 1) := by decide +kernel
theorem dJ1_indexOf_4cfef_10 : decode cJ1_indexOf_4cfef 10 = .ok (.iconst 0, 1) := by decide +kernel
theorem dJ1_indexOf_4cfef_11 : decode cJ1_indexOf_4cfef 11 = .ok (.invokestatic 92, 3) := by decide +kernel
theorem dJ1_indexOf_4cfef_14 : decode cJ1_indexOf_4cfef 14 = .ok (.istore_n 2, 1) := by decide +kernel
theorem dJ1_indexOf_4cfef_15 : decode cJ1_indexOf_4cfef 15 = .ok (.iload_n 3, 1) := by decide +kernel
theorem dJ1_indexOf_4cfef_16 : decode cJ1_indexOf_4cfef 16 = .ok (.aload_n 0, 1) := by decide +kernel
theorem dJ1_indexOf_4cfef_17 : decode cJ1_indexOf_4cfef 17 = .ok (.arraylength, 1) := by decide +kernel
theorem dJ1_indexOf_4cfef_18 : decode cJ1_indexOf_4cfef 18 = .ok (.invokestatic 38, 3) := by decide +kernel
theorem dJ1_indexOf_4cfef_21 : decode cJ1_indexOf_4cfef 21 = .ok (.istore_n 3, 1) := by decide +kernel
theorem dJ1_indexOf_4cfef_22 : decode cJ1_indexOf_4cfef 22 = .ok (.iload_n 2, 1) := by decide +kernel
theorem dJ1_indexOf_4cfef_23 : decode cJ1_indexOf_4cfef 23 = .ok (.iload_n 3, 1) := by decide +kernel
theorem dJ1_indexOf_4cfef_24 : decode cJ1_indexOf_4cfef 24 = .ok (.if_icmp .lt 5, 3) := by decide +kernel
theorem dJ1_indexOf_4cfef_29 : decode cJ1_indexOf_4cfef 29 = .ok (.aload_n 0, 1) := by decide +kernel
theorem dJ1_indexOf_4cfef_30 : decode cJ1_indexOf_4cfef 30 = .ok (.iload_n 1, 1) := by decide +kernel
theorem dJ1_indexOf_4cfef_31 : decode cJ1_indexOf_4cfef 31 = .ok (.iload_n 2, 1) := by decide +kernel
theorem dJ1_indexOf_4cfef_32 : decode cJ1_indexOf_4cfef 32 = .ok (.iload_n 3, 1) := by decide +kernel
theorem dJ1_indexOf_4cfef_33 : decode cJ1_indexOf_4cfef 33 = .ok (.invokestatic 95, 3) := by decide +kernel
theorem dJ1_indexOf_4cfef_36 : decode cJ1_indexOf_4cfef 36 = .ok (.ireturn, 1) := by decide +kernel
theorem dJ0_indexOf_7cf53_0 : decode cJ0_indexOf_7cf53 0 = .ok (.aload_n 0, 1) := by decide +kernel
theorem dJ0_indexOf_7cf53_1 : decode cJ0_indexOf_7cf53 1 = .ok (.invokevirtual 492, 3) := by decide +kernel
theorem dJ0_indexOf_7cf53_4 : decode cJ0_indexOf_7cf53 4 = .ok (.ifCond .eq 19, 3) := by decide +kernel
theorem dJ0_indexOf_7cf53_7 : decode cJ0_indexOf_7cf53 7 = .ok (.aload_n 0, 1) := by decide +kernel
theorem dJ0_indexOf_7cf53_8 : decode cJ0_indexOf_7cf53 8 = .ok (.getfield 9, 3) := by decide +kernel
theorem dJ0_indexOf_7cf53_11 : decode cJ0_indexOf_7cf53 11 = .ok (.iload_n 1, 1) := by decide +kernel
theorem dJ0_indexOf_7cf53_12 : decode cJ0_indexOf_7cf53 12 = .ok (.iload_n 2, 1) := by decide +kernel
theorem dJ0_indexOf_7cf53_13 : decode cJ0_indexOf_7cf53 13 = .ok (.aload_n 0, 1) := by decide +kernel
theorem dJ0_indexOf_7cf53_14 : decode cJ0_indexOf_7cf53 14 = .ok (.invokevirtual 505, 3) := by decide +kernel
theorem dJ0_indexOf_7cf53_17 : decode cJ0_indexOf_7cf53 17 = .ok (.invokestatic 637, 3) := by decide +kernel
theorem dJ0_indexOf_7cf53_20 : decode cJ0_indexOf_7cf53 20 = .ok (.goto 16, 3) := by decide +kernel
theorem dJ0_indexOf_7cf53_36 : decode cJ0_indexOf_7cf53 36 = .ok (.ireturn, 1) := by decide +kernel
theorem dJ0_indexOf_0f7a4_0 : decode cJ0_indexOf_0f7a4 0 = .ok (.aload_n 0, 1) := by decide +kernel
theorem dJ0_indexOf_0f7a4_1 : decode cJ0_indexOf_0f7a4 1 = .ok (.iload_n 1, 1) := by decide +kernel
theorem dJ0_indexOf_0f7a4_2 : decode cJ0_indexOf_0f7a4 2 = .ok (.iconst 0, 1) := by decide +kernel
theorem dJ0_indexOf_0f7a4_3 : decode cJ0_indexOf_0f7a4 3 = .ok (.invokevirtual 633, 3) := by decide +kernel
theorem dJ0_indexOf_0f7a4_6 : decode cJ0_indexOf_0f7a4 6 = .ok (.ireturn, 1) := by decide +kernel
theorem dJx35411_init_45d68_0 : decode cJx35411_init_45d68 0 = .ok (.aload_n 0, 1) := by decide +kernel
theorem dJx35411_init_45d68_1 : decode cJx35411_init_45d68 1 = .ok (.aload_n 1, 1) := by decide +kernel
theorem dJx35411_init_45d68_2 : decode cJx35411_init_45d68 2 = .ok (.putfield 1, 3) := by decide +kernel
theorem dJx35411_init_45d68_5 : decode cJx35411_init_45d68 5 = .ok (.aload_n 0, 1) := by decide +kernel
theorem dJx35411_init_45d68_6 : decode cJx35411_init_45d68 6 = .ok (.invokespecial 7, 3) := by decide +kernel
theorem dJx35411_init_45d68_9 : decode cJx35411_init_45d68 9 = .ok (.aload_n 0, 1) := by decide +kernel
theorem dJx35411_init_45d68_10 : decode cJx35411_init_45d68 10 = .ok (.iconst (-1), 1) := by decide +kernel
theorem dJx35411_init_45d68_11 : decode cJx35411_init_45d68 11 = .ok (.putfield 13, 3) := by decide +kernel
theorem dJx35411_init_45d68_14 : decode cJx35411_init_45d68 14 = .ok (.aload_n 0, 1) := by decide +kernel
theorem dJx35411_init_45d68_15 : decode cJx35411_init_45d68 15 = .ok (.aload_n 0, 1) := by decide +kernel
theorem dJx35411_init_45d68_16 : decode cJx35411_init_45d68 16 = .ok (.getfield 1, 3) := by decide +kernel
theorem dJx35411_init_45d68_19 : decode cJx35411_init_45d68 19 = .ok (.getfield 17, 3) := by decide +kernel
theorem dJx35411_init_45d68_22 : decode cJx35411_init_45d68 22 = .ok (.putfield 22, 3) := by decide +kernel
theorem dJx35411_init_45d68_25 : decode cJx35411_init_45d68 25 = .ok (.return_, 1) := by decide +kernel
theorem dJx4a65c_iterator_32c93_0 : decode cJx4a65c_iterator_32c93 0 = .ok (.new 267, 3) := by decide +kernel
theorem dJx4a65c_iterator_32c93_3 : decode cJx4a65c_iterator_32c93 3 = .ok (.dup, 1) := by decide +kernel
theorem dJx4a65c_iterator_32c93_4 : decode cJx4a65c_iterator_32c93 4 = .ok (.aload_n 0, 1) := by decide +kernel
theorem dJx4a65c_iterator_32c93_5 : decode cJx4a65c_iterator_32c93 5 = .ok (.invokespecial 269, 3) := by decide +kernel
theorem dJx4a65c_iterator_32c93_8 : decode cJx4a65c_iterator_32c93 8 = .ok (.areturn, 1) := by decide +kernel
theorem dJx35411_hasNext_aae02_0 : decode cJx35411_hasNext_aae02 0 = .ok (.aload_n 0, 1) := by decide +kernel
theorem dJx35411_hasNext_aae02_1 : decode cJx35411_hasNext_aae02 1 = .ok (.getfield 25, 3) := by decide +kernel
theorem dJx35411_hasNext_aae02_4 : decode cJx35411_hasNext_aae02 4 = .ok (.aload_n 0, 1) := by decide +kernel
theorem dJx35411_hasNext_aae02_5 : decode cJx35411_hasNext_aae02 5 = .ok (.getfield 1, 3) := by decide +kernel
theorem dJx35411_hasNext_aae02_8 : decode cJx35411_hasNext_aae02 8 = .ok (.getfield 28, 3) := by decide +kernel
theorem dJx35411_hasNext_aae02_11 : decode cJx35411_hasNext_aae02 11 = .ok (.if_icmp .eq 7, 3) := by decide +kernel
theorem dJx35411_hasNext_aae02_14 : decode cJx35411_hasNext_aae02 14 = .ok (.iconst 1, 1) := by decide +kernel
theorem dJx35411_hasNext_aae02_15 : decode cJx35411_hasNext_aae02 15 = .ok (.goto 4, 3) := by decide +kernel
theorem dJx35411_hasNext_aae02_18 : decode cJx35411_hasNext_aae02 18 = .ok (.iconst 0, 1) := by decide +kernel
theorem dJx35411_hasNext_aae02_19 : decode cJx35411_hasNext_aae02 19 = .ok (.ireturn, 1) := by decide +kernel
theorem dJx35411_checkForComodification_da8c8_0 : decode cJx35411_checkForComodification_da8c8 0 = .ok (.aload_n 0, 1) := by decide +kernel
theorem dJx35411_checkForComodification_da8c8_1 : decode cJx35411_checkForComodification_da8c8 1 = .ok (.getfield 1, 3) := by decide +kernel
theorem dJx35411_checkForComodification_da8c8_4 : decode cJx35411_checkForComodification_da8c8 4 = .ok (.getfield 17, 3) := by decide +kernel
theorem dJx35411_checkForComodification_da8c8_7 : decode cJx35411_checkForComodification_da8c8 7 = .ok (.aload_n 0, 1) := by decide +kernel
theorem dJx35411_checkForComodification_da8c8_8 : decode cJx35411_checkForComodification_da8c8 8 = .ok (.getfield 22, 3) := by decide +kernel
theorem dJx35411_checkForComodification_da8c8_11 : decode cJx35411_checkForComodification_da8c8 11 = .ok (.if_icmp .eq 11, 3) := by decide +kernel
theorem dJx35411_checkForComodification_da8c8_22 : decode cJx35411_checkForComodification_da8c8 22 = .ok (.return_, 1) := by decide +kernel
theorem dJx35411_next_0502b_0 : decode cJx35411_next_0502b 0 = .ok (.aload_n 0, 1) := by decide +kernel
theorem dJx35411_next_0502b_1 : decode cJx35411_next_0502b 1 = .ok (.invokevirtual 31, 3) := by decide +kernel
theorem dJx35411_next_0502b_4 : decode cJx35411_next_0502b 4 = .ok (.aload_n 0, 1) := by decide +kernel
theorem dJx35411_next_0502b_5 : decode cJx35411_next_0502b 5 = .ok (.getfield 25, 3) := by decide +kernel
theorem dJx35411_next_0502b_8 : decode cJx35411_next_0502b 8 = .ok (.istore_n 1, 1) := by decide +kernel
theorem dJx35411_next_0502b_9 : decode cJx35411_next_0502b 9 = .ok (.iload_n 1, 1) := by decide +kernel
theorem dJx35411_next_0502b_10 : decode cJx35411_next_0502b 10 = .ok (.aload_n 0, 1) := by decide +kernel
theorem dJx35411_next_0502b_11 : decode cJx35411_next_0502b 11 = .ok (.getfield 1, 3) := by decide +kernel
theorem dJx35411_next_0502b_14 : decode cJx35411_next_0502b 14 = .ok (.getfield 28, 3) := by decide +kernel
theorem dJx35411_next_0502b_17 : decode cJx35411_next_0502b 17 = .ok (.if_icmp .lt 11, 3) := by decide +kernel
theorem dJx35411_next_0502b_28 : decode cJx35411_next_0502b 28 = .ok (.aload_n 0, 1) := by decide +kernel
theorem dJx35411_next_0502b_29 : decode cJx35411_next_0502b 29 = .ok (.getfield 1, 3) := by decide +kernel
theorem dJx35411_next_0502b_32 : decode cJx35411_next_0502b 32 = .ok (.getfield 37, 3) := by decide +kernel
theorem dJx35411_next_0502b_35 : decode cJx35411_next_0502b 35 = .ok (.astore_n 2, 1) := by decide +kernel
theorem dJx35411_next_0502b_36 : decode cJx35411_next_0502b 36 = .ok (.iload_n 1, 1) := by decide +kernel
theorem dJx35411_next_0502b_37 : decode cJx35411_next_0502b 37 = .ok (.aload_n 2, 1) := by decide +kernel
theorem dJx35411_next_0502b_38 : decode cJx35411_next_0502b 38 = .ok (.arraylength, 1) := by decide +kernel
theorem dJx35411_next_0502b_39 : decode cJx35411_next_0502b 39 = .ok (.if_icmp .lt 11, 3) := by decide +kernel
theorem dJx35411_next_0502b_50 : decode cJx35411_next_0502b 50 = .ok (.aload_n 0, 1) := by decide +kernel
theorem dJx35411_next_0502b_51 : decode cJx35411_next_0502b 51 = .ok (.iload_n 1, 1) := by decide +kernel
theorem dJx35411_next_0502b_52 : decode cJx35411_next_0502b 52 = .ok (.iconst 1, 1) := by decide +kernel
theorem dJx35411_next_0502b_53 : decode cJx35411_next_0502b 53 = .ok (.iadd, 1) := by decide +kernel
theorem dJx35411_next_0502b_54 : decode cJx35411_next_0502b 54 = .ok (.putfield 25, 3) := by decide +kernel
theorem dJx35411_next_0502b_57 : decode cJx35411_next_0502b 57 = .ok (.aload_n 2, 1) := by decide +kernel
theorem dJx35411_next_0502b_58 : decode cJx35411_next_0502b 58 = .ok (.aload_n 0, 1) := by decide +kernel
theorem dJx35411_next_0502b_59 : decode cJx35411_next_0502b 59 = .ok (.iload_n 1, 1) := by decide +kernel
theorem dJx35411_next_0502b_60 : decode cJx35411_next_0502b 60 = .ok (.dup_x1, 1) := by decide +kernel
theorem dJx35411_next_0502b_61 : decode cJx35411_next_0502b 61 = .ok (.putfield 13, 3) := by decide +kernel
theorem dJx35411_next_0502b_64 : decode cJx35411_next_0502b 64 = .ok (.aaload, 1) := by decide +kernel
theorem dJx35411_next_0502b_65 : decode cJx35411_next_0502b 65 = .ok (.areturn, 1) := by decide +kernel
theorem dX12_isEmpty_0 : decode cX12_isEmpty 0 = .ok (.aload_n 0, 1) := by decide +kernel
theorem dX12_isEmpty_1 : decode cX12_isEmpty 1 = .ok (.getfield 24, 3) := by decide +kernel
theorem dX12_isEmpty_4 : decode cX12_isEmpty 4 = .ok (.aload_n 0, 1) := by decide +kernel
theorem dX12_isEmpty_5 : decode cX12_isEmpty 5 = .ok (.getfield 20, 3) := by decide +kernel
theorem dX12_isEmpty_8 : decode cX12_isEmpty 8 = .ok (.if_icmp .ne 7, 3) := by decide +kernel
theorem dX12_isEmpty_11 : decode cX12_isEmpty 11 = .ok (.iconst 1, 1) := by decide +kernel
theorem dX12_isEmpty_12 : decode cX12_isEmpty 12 = .ok (.goto 4, 3) := by decide +kernel
theorem dX12_isEmpty_16 : decode cX12_isEmpty 16 = .ok (.ireturn, 1) := by decide +kernel
theorem dX11_die_0 : decode cX11_die 0 = .ok (.aload_n 0, 1) := by decide +kernel
theorem dX11_die_1 : decode cX11_die 1 = .ok (.getfield 26, 3) := by decide +kernel
theorem dX11_die_4 : decode cX11_die 4 = .ok (.invokevirtual 228, 3) := by decide +kernel
theorem dX11_die_7 : decode cX11_die 7 = .ok (.ifCond .eq 8, 3) := by decide +kernel
theorem dX11_die_10 : decode cX11_die 10 = .ok (.bipush 10, 2) := by decide +kernel
theorem dX11_die_12 : decode cX11_die 12 = .ok (.goto 16, 3) := by decide +kernel
theorem dX11_die_28 : decode cX11_die 28 = .ok (.ireturn, 1) := by decide +kernel
theorem dX11_number_0 : decode cX11_number 0 = .ok (.aload_n 1, 1) := by decide +kernel
theorem dX11_number_1 : decode cX11_number 1 = .ok (.getfield 129, 3) := by decide +kernel
theorem dX11_number_4 : decode cX11_number 4 = .ok (.ldc 123, 2) := by decide +kernel
theorem dX11_number_6 : decode cX11_number 6 = .ok (.iload_n 2, 1) := by decide +kernel
theorem dX11_number_7 : decode cX11_number 7 = .ok (.invokevirtual 113, 3) := by decide +kernel
theorem dX11_number_10 : decode cX11_number 10 = .ok (.iaload, 1) := by decide +kernel
theorem dX11_number_11 : decode cX11_number 11 = .ok (.istore_n 3, 1) := by decide +kernel
theorem dX11_number_12 : decode cX11_number 12 = .ok (.iconst 0, 1) := by decide +kernel
theorem dX11_number_13 : decode cX11_number 13 = .ok (.istore 4, 2) := by decide +kernel
theorem dX11_number_15 : decode cX11_number 15 = .ok (.iconst 3, 1) := by decide +kernel
theorem dX11_number_16 : decode cX11_number 16 = .ok (.newarray .int, 2) := by decide +kernel
theorem dX11_number_18 : decode cX11_number 18 = .ok (.astore 5, 2) := by decide +kernel
theorem dX11_number_20 : decode cX11_number 20 = .ok (.aload_n 0, 1) := by decide +kernel
theorem dX11_number_21 : decode cX11_number 21 = .ok (.getfield 20, 3) := by decide +kernel
theorem dX11_number_24 : decode cX11_number 24 = .ok (.invokeinterface 70 1, 5) := by decide +kernel
theorem dX11_number_29 : decode cX11_number 29 = .ok (.astore 6, 2) := by decide +kernel
theorem dX11_number_31 : decode cX11_number 31 = .ok (.aload 6, 2) := by decide +kernel
theorem dX11_number_33 : decode cX11_number 33 = .ok (.invokeinterface 74 1, 5) := by decide +kernel
theorem dX11_number_38 : decode cX11_number 38 = .ok (.ifCond .eq 155, 3) := by decide +kernel
theorem dX11_number_41 : decode cX11_number 41 = .ok (.aload 6, 2) := by decide +kernel
theorem dX11_number_43 : decode cX11_number 43 = .ok (.invokeinterface 80 1, 5) := by decide +kernel
theorem dX11_number_48 : decode cX11_number 48 = .ok (.checkcast 150, 3) := by decide +kernel
theorem dX11_number_51 : decode cX11_number 51 = .ok (.astore 7, 2) := by decide +kernel
theorem dX11_number_53 : decode cX11_number 53 = .ok (.aload 7, 2) := by decide +kernel
theorem dX11_number_55 : decode cX11_number 55 = .ok (.getfield 152, 3) := by decide +kernel
theorem dX11_number_58 : decode cX11_number 58 = .ok (.ifCond .eq 132, 3) := by decide +kernel
theorem dX11_number_61 : decode cX11_number 61 = .ok (.aload 7, 2) := by decide +kernel
theorem dX11_number_63 : decode cX11_number 63 = .ok (.getfield 159, 3) := by decide +kernel
theorem dX11_number_66 : decode cX11_number 66 = .ok (.aload_n 1, 1) := by decide +kernel
theorem dX11_number_67 : decode cX11_number 67 = .ok (.getfield 202, 3) := by decide +kernel
theorem dX11_number_70 : decode cX11_number 70 = .ok (.if_icmp .ne 120, 3) := by decide +kernel
theorem dX11_number_73 : decode cX11_number 73 = .ok (.aload 7, 2) := by decide +kernel
theorem dX11_number_75 : decode cX11_number 75 = .ok (.getfield 205, 3) := by decide +kernel
theorem dX11_number_78 : decode cX11_number 78 = .ok (.iload_n 2, 1) := by decide +kernel
theorem dX11_number_79 : decode cX11_number 79 = .ok (.if_icmp .ne 111, 3) := by decide +kernel
theorem dX11_number_190 : decode cX11_number 190 = .ok (.goto (-159), 3) := by decide +kernel
theorem dX11_number_193 : decode cX11_number 193 = .ok (.iload_n 3, 1) := by decide +kernel
theorem dX11_number_194 : decode cX11_number 194 = .ok (.iload 4, 2) := by decide +kernel
theorem dX11_number_196 : decode cX11_number 196 = .ok (.iadd, 1) := by decide +kernel
theorem dX11_number_197 : decode cX11_number 197 = .ok (.aload 5, 2) := by decide +kernel
theorem dX11_number_199 : decode cX11_number 199 = .ok (.iconst 0, 1) := by decide +kernel
theorem dX11_number_200 : decode cX11_number 200 = .ok (.iaload, 1) := by decide +kernel
theorem dX11_number_201 : decode cX11_number 201 = .ok (.iadd, 1) := by decide +kernel
theorem dX11_number_202 : decode cX11_number 202 = .ok (.aload 5, 2) := by decide +kernel
theorem dX11_number_204 : decode cX11_number 204 = .ok (.iconst 1, 1) := by decide +kernel
theorem dX11_number_205 : decode cX11_number 205 = .ok (.iaload, 1) := by decide +kernel
theorem dX11_number_206 : decode cX11_number 206 = .ok (.iadd, 1) := by decide +kernel
theorem dX11_number_207 : decode cX11_number 207 = .ok (.aload 5, 2) := by decide +kernel
theorem dX11_number_209 : decode cX11_number 209 = .ok (.iconst 2, 1) := by decide +kernel
theorem dX11_number_210 : decode cX11_number 210 = .ok (.iaload, 1) := by decide +kernel
theorem dX11_number_211 : decode cX11_number 211 = .ok (.iadd, 1) := by decide +kernel
theorem dX11_number_212 : decode cX11_number 212 = .ok (.ireturn, 1) := by decide +kernel
theorem dX11_check_0 : decode cX11_check 0 = .ok (.aload_n 0, 1) := by decide +kernel
theorem dX11_check_1 : decode cX11_check 1 = .ok (.invokevirtual 239, 3) := by decide +kernel
theorem dX11_check_4 : decode cX11_check 4 = .ok (.aload_n 0, 1) := by decide +kernel
theorem dX11_check_5 : decode cX11_check 5 = .ok (.aload_n 1, 1) := by decide +kernel
theorem dX11_check_6 : decode cX11_check 6 = .ok (.bipush 119, 2) := by decide +kernel
theorem dX11_check_8 : decode cX11_check 8 = .ok (.invokevirtual 217, 3) := by decide +kernel
theorem dX11_check_11 : decode cX11_check 11 = .ok (.iadd, 1) := by decide +kernel
theorem dX11_check_12 : decode cX11_check 12 = .ok (.ireturn, 1) := by decide +kernel
set_option maxHeartbeats 4000000 in
set_option maxRecDepth 100000 in
theorem c_isLatin1 (l : Launch) (hfl : l.stackTraces = false) (g : GP)   : CI l yJ0_isLatin1_aae02 (wG yJ0_isLatin1_aae02 cJ0_isLatin1_aae02 1 (Option.some Jvm.ClassFile.FieldType.boolean)) (LV 1 0 0) g [.ref (g.2.2 13)] ([]) (fun (r : Int32) (u : va_W) => r = 1 ∧ u = []) := by
  intro sz
  refine Met.ofW (cc := cJ0_isLatin1_aae02) (maxL := 1) (ret := (Option.some Jvm.ClassFile.FieldType.boolean)) (by decide) rfl ?_
  intro p e s m args below meth c s₁ B hml hv
  obtain ⟨rfl, hsz, hP, hK, hD0, hT0⟩ := hv
  have hx := B.exec
  have hb := B.bytes
  have hr := B.returns
  have hts := atoms_spec (ws := (wG yJ0_isLatin1_aae02 cJ0_isLatin1_aae02 1 (Option.some Jvm.ClassFile.FieldType.boolean))) B.pre
  have htg : ∀ w ∈ G9, w.before _ s = true := fun w h => hts w (List.mem_cons_of_mem _ h)
  have hown : s.vm.findClass "java/lang/String" = some m.cls := findClass_of_methodNamed B.named
  have hlocks := B.notSynchronized
  subst hsz
  have hD := hD0.self (sz := s.heap.size)
  have hT := hT0
  clear hT0
  generalize hAe : va_A [] s.heap.size = A at hD hT ⊢
  have hA : ∀ q : Nat, s.heap.size ≤ q → A q := fun q h => by rw [← hAe]; exact Or.inr h
  obtain ⟨H, hH0⟩ : ∃ H, H = s.heap := ⟨_, rfl⟩
  have hS : va_S A s.heap H [] := by rw [hH0]; exact va_S.rf
  have hP : va_P g.1 CLS [] H := by rw [hH0]; exact hP
  rw [← hH0]
  have hl := lv_entry ([.ref (g.2.2 13)]) (n := 1) (Nat.le_of_ble_eq_true rfl)
  rw [lg_entry_eq]
  generalize (lg_sl ([.ref (g.2.2 13)]) ++ List.replicate (1 - (lg_sl ([.ref (g.2.2 13)])).length) Slot.unset).toArray = ls at hl ⊢
  have hl : lv_has ls 1 [(0, .ref (g.2.2 13))] := hl
  refine va_gets hx hb (hT.2.2.1.1) hS hown (htg _ k437) (fun _ h9 => h9) dJ0_isLatin1_aae02_0 ?_
  refine lv_if_eq (tgt := 17) hx hb dJ0_isLatin1_aae02_3 (by decide) (fun c_1 => absurd c_1 (by decide)) (fun c_1 => ?_)
  refine lv_aload_n hx hb dJ0_isLatin1_aae02_6 rfl (lv_at hl 0 rfl) ?_
  refine vk_getf (v := .int 0) hx hb (hT.2.2.1.2.2.1) hS hown (htg _ k2090) (fun _ h9 => h9) dJ0_isLatin1_aae02_7 ?_
  refine lv_if_ne (tgt := 17) hx hb dJ0_isLatin1_aae02_10 (by decide) (fun c_2 => absurd (by decide) c_2) (fun c_2 => ?_)
  refine lv_iconst (v := 1) hx hb dJ0_isLatin1_aae02_13 (by decide) ?_
  refine lv_goto (tgt := 18) hx hb dJ0_isLatin1_aae02_14 (by decide) ?_
  have hP9 := hP.sub (ws' := []) [] rfl
  have hD9 := hD.sub (ws' := []) [] (by decide) rfl
  refine W.widen (k := 0) (n := 0) (Nat.le_of_ble_eq_true rfl) (Nat.le_of_ble_eq_true rfl) ?_
  exact W.zret (v := 1) hx hb hr rfl (fun t ht hW => ⟨⟨1, [], rfl, ⟨rfl, rfl⟩, by rw [ht]; exact hP9, va_K.moved hW.alike hK, hD9⟩, hS.F ht⟩) hS.2.2 dJ0_isLatin1_aae02_18

set_option maxHeartbeats 4000000 in
set_option maxRecDepth 100000 in
theorem c_coder (l : Launch) (hfl : l.stackTraces = false) (g : GP)   : CI l yJ0_coder_7d493 (wG yJ0_coder_7d493 cJ0_coder_7d493 1 (Option.some Jvm.ClassFile.FieldType.byte)) (LV 1 0 0) g [.ref (g.2.2 13)] ([]) (fun (r : Int32) (u : va_W) => r = 0 ∧ u = []) := by
  intro sz
  refine Met.ofW (cc := cJ0_coder_7d493) (maxL := 1) (ret := (Option.some Jvm.ClassFile.FieldType.byte)) (by decide) rfl ?_
  intro p e s m args below meth c s₁ B hml hv
  obtain ⟨rfl, hsz, hP, hK, hD0, hT0⟩ := hv
  have hx := B.exec
  have hb := B.bytes
  have hr := B.returns
  have hts := atoms_spec (ws := (wG yJ0_coder_7d493 cJ0_coder_7d493 1 (Option.some Jvm.ClassFile.FieldType.byte))) B.pre
  have htg : ∀ w ∈ G9, w.before _ s = true := fun w h => hts w (List.mem_cons_of_mem _ h)
  have hown : s.vm.findClass "java/lang/String" = some m.cls := findClass_of_methodNamed B.named
  have hlocks := B.notSynchronized
  subst hsz
  have hD := hD0.self (sz := s.heap.size)
  have hT := hT0
  clear hT0
  generalize hAe : va_A [] s.heap.size = A at hD hT ⊢
  have hA : ∀ q : Nat, s.heap.size ≤ q → A q := fun q h => by rw [← hAe]; exact Or.inr h
  obtain ⟨H, hH0⟩ : ∃ H, H = s.heap := ⟨_, rfl⟩
  have hS : va_S A s.heap H [] := by rw [hH0]; exact va_S.rf
  have hP : va_P g.1 CLS [] H := by rw [hH0]; exact hP
  rw [← hH0]
  have hl := lv_entry ([.ref (g.2.2 13)]) (n := 1) (Nat.le_of_ble_eq_true rfl)
  rw [lg_entry_eq]
  generalize (lg_sl ([.ref (g.2.2 13)]) ++ List.replicate (1 - (lg_sl ([.ref (g.2.2 13)])).length) Slot.unset).toArray = ls at hl ⊢
  have hl : lv_has ls 1 [(0, .ref (g.2.2 13))] := hl
  refine va_gets hx hb (hT.2.2.1.1) hS hown (htg _ k437) (fun _ h9 => h9) dJ0_coder_7d493_0 ?_
  refine lv_if_eq (tgt := 13) hx hb dJ0_coder_7d493_3 (by decide) (fun c_1 => absurd c_1 (by decide)) (fun c_1 => ?_)
  refine lv_aload_n hx hb dJ0_coder_7d493_6 rfl (lv_at hl 0 rfl) ?_
  refine vk_getf (v := .int 0) hx hb (hT.2.2.1.2.2.1) hS hown (htg _ k2090) (fun _ h9 => h9) dJ0_coder_7d493_7 ?_
  refine lv_goto (tgt := 14) hx hb dJ0_coder_7d493_10 (by decide) ?_
  have hP9 := hP.sub (ws' := []) [] rfl
  have hD9 := hD.sub (ws' := []) [] (by decide) rfl
  refine W.widen (k := 0) (n := 0) (Nat.le_of_ble_eq_true rfl) (Nat.le_of_ble_eq_true rfl) ?_
  exact W.zret (v := 0) hx hb hr rfl (fun t ht hW => ⟨⟨0, [], rfl, ⟨rfl, rfl⟩, by rw [ht]; exact hP9, va_K.moved hW.alike hK, hD9⟩, hS.F ht⟩) hS.2.2 dJ0_coder_7d493_14

set_option maxHeartbeats 4000000 in
set_option maxRecDepth 100000 in
theorem c_length (l : Launch) (hfl : l.stackTraces = false) (g : GP)   : CI l yJ0_length_8abf5 (wG yJ0_length_8abf5 cJ0_length_8abf5 1 (Option.some Jvm.ClassFile.FieldType.int)) (LV 2 0 0) g [.ref (g.2.2 13)] ([]) (fun (r : Int32) (u : va_W) => r = 5 ∧ u = []) := by
  intro sz
  refine Met.ofW (cc := cJ0_length_8abf5) (maxL := 1) (ret := (Option.some Jvm.ClassFile.FieldType.int)) (by decide) rfl ?_
  intro p e s m args below meth c s₁ B hml hv
  obtain ⟨rfl, hsz, hP, hK, hD0, hT0⟩ := hv
  have hx := B.exec
  have hb := B.bytes
  have hr := B.returns
  have hts := atoms_spec (ws := (wG yJ0_length_8abf5 cJ0_length_8abf5 1 (Option.some Jvm.ClassFile.FieldType.int))) B.pre
  have htg : ∀ w ∈ G9, w.before _ s = true := fun w h => hts w (List.mem_cons_of_mem _ h)
  have hown : s.vm.findClass "java/lang/String" = some m.cls := findClass_of_methodNamed B.named
  have hlocks := B.notSynchronized
  subst hsz
  have hD := hD0.self (sz := s.heap.size)
  have hT := hT0
  clear hT0
  generalize hAe : va_A [] s.heap.size = A at hD hT ⊢
  have hA : ∀ q : Nat, s.heap.size ≤ q → A q := fun q h => by rw [← hAe]; exact Or.inr h
  obtain ⟨H, hH0⟩ : ∃ H, H = s.heap := ⟨_, rfl⟩
  have hS : va_S A s.heap H [] := by rw [hH0]; exact va_S.rf
  have hP : va_P g.1 CLS [] H := by rw [hH0]; exact hP
  rw [← hH0]
  have hl := lv_entry ([.ref (g.2.2 13)]) (n := 1) (Nat.le_of_ble_eq_true rfl)
  rw [lg_entry_eq]
  generalize (lg_sl ([.ref (g.2.2 13)]) ++ List.replicate (1 - (lg_sl ([.ref (g.2.2 13)])).length) Slot.unset).toArray = ls at hl ⊢
  have hl : lv_has ls 1 [(0, .ref (g.2.2 13))] := hl
  refine lv_aload_n hx hb dJ0_length_8abf5_0 rfl (lv_at hl 0 rfl) ?_
  refine vk_getf (v := .ref (g.2.2 23)) hx hb (hT.2.2.1.2.2.2.1) hS hown (htg _ k2089) (fun _ h9 => h9) dJ0_length_8abf5_1 ?_
  refine va_tlen (v := 5) hx hb (hT.2.2.1.2.2.2.2) hS rfl dJ0_length_8abf5_4 ?_
  refine lv_aload_n hx hb dJ0_length_8abf5_5 rfl (lv_at hl 0 rfl) ?_
  have hPc := hP.sub (ws' := []) [] rfl
  have hDc := hD.sub (ws' := []) [] (by decide) rfl
  have hFc := va_free (wc := []) hD hS hA [] rfl
  refine q_ci (wr := []) (va_runV (As := []) (rest := [.int 5]) ⟨hx, hb, hml, hown, htg⟩ (c_coder l hfl g   H.size) ⟨(qB htg k446 k77 k443 ok_J0_coder_7d493 rfl rfl ⟨Nat.le_of_ble_eq_true rfl, Nat.le_of_ble_eq_true rfl⟩), htg _ k444, htg _ k445⟩ ⟨(q_pre [.ref (g.2.2 13)] hPc hDc hK hS hT hFc).1, va_Orecv (hT.2.2.1.2.1) hS, (q_pre [.ref (g.2.2 13)] hPc hDc hK hS hT hFc).2⟩ rfl rfl hl.1 rfl (lv_room (Nat.le_of_ble_eq_true rfl)) dJ0_length_8abf5_6 ⟨Nat.le_of_ble_eq_true rfl, Nat.le_of_ble_eq_true rfl⟩) hP hD hS hFc [] [] rfl rfl (by decide) (by decide) (fun r9 u9 H locs hw hP hD hS => ?_)
  try dsimp only at hw
  rcases hw with ⟨rfl, rfl⟩
  have hP : va_P g.1 CLS [] H := hP
  have hD : va_D A [] := hD
  refine W.widen (k := 0) (n := 0) (Nat.le_of_ble_eq_true rfl) (Nat.le_of_ble_eq_true rfl) ?_
  refine lv_ishr hx hb dJ0_length_8abf5_9 ?_
  refine lv_topi (fun x_1 ex_1 => ?_)
  obtain rfl : x_1 = 5 := ex_1.trans (by decide)
  have hP9 := hP.sub (ws' := []) [] rfl
  have hD9 := hD.sub (ws' := []) [] (by decide) rfl
  refine W.widen (k := 0) (n := 0) (Nat.le_of_ble_eq_true rfl) (Nat.le_of_ble_eq_true rfl) ?_
  exact W.iret (v := 5) hx hb hr (fun t ht hW => ⟨⟨5, [], rfl, ⟨rfl, rfl⟩, by rw [ht]; exact hP9, va_K.moved hW.alike hK, hD9⟩, hS.F ht⟩) hS.2.2 dJ0_length_8abf5_10

set_option maxHeartbeats 4000000 in
set_option maxRecDepth 100000 in
theorem c_canEnc_w (l : Launch) (hfl : l.stackTraces = false) (g : GP)   : CI l yJ1_canEncode_9a6ad (wG yJ1_canEncode_9a6ad cJ1_canEncode_9a6ad 1 (Option.some Jvm.ClassFile.FieldType.boolean)) (LV 1 0 0) g [.int 119] ([]) (fun (r : Int32) (u : va_W) => r = 1 ∧ u = []) := by
  intro sz
  refine Met.ofW (cc := cJ1_canEncode_9a6ad) (maxL := 1) (ret := (Option.some Jvm.ClassFile.FieldType.boolean)) (by decide) rfl ?_
  intro p e s m args below meth c s₁ B hml hv
  obtain ⟨rfl, hsz, hP, hK, hD0, hT0⟩ := hv
  have hx := B.exec
  have hb := B.bytes
  have hr := B.returns
  have hts := atoms_spec (ws := (wG yJ1_canEncode_9a6ad cJ1_canEncode_9a6ad 1 (Option.some Jvm.ClassFile.FieldType.boolean))) B.pre
  have htg : ∀ w ∈ G9, w.before _ s = true := fun w h => hts w (List.mem_cons_of_mem _ h)
  have hown : s.vm.findClass "java/lang/StringLatin1" = some m.cls := findClass_of_methodNamed B.named
  have hlocks := B.notSynchronized
  subst hsz
  have hD := hD0.self (sz := s.heap.size)
  have hT := hT0
  clear hT0
  generalize hAe : va_A [] s.heap.size = A at hD hT ⊢
  have hA : ∀ q : Nat, s.heap.size ≤ q → A q := fun q h => by rw [← hAe]; exact Or.inr h
  obtain ⟨H, hH0⟩ : ∃ H, H = s.heap := ⟨_, rfl⟩
  have hS : va_S A s.heap H [] := by rw [hH0]; exact va_S.rf
  have hP : va_P g.1 CLS [] H := by rw [hH0]; exact hP
  rw [← hH0]
  have hl := lv_entry ([.int 119]) (n := 1) (Nat.le_of_ble_eq_true rfl)
  rw [lg_entry_eq]
  generalize (lg_sl ([.int 119]) ++ List.replicate (1 - (lg_sl ([.int 119])).length) Slot.unset).toArray = ls at hl ⊢
  have hl : lv_has ls 1 [(0, .int 119)] := hl
  refine lv_iload_n hx hb dJ1_canEncode_9a6ad_0 rfl (lv_at hl 0 rfl) ?_
  refine lv_if_lt (tgt := 15) hx hb dJ1_canEncode_9a6ad_1 (by decide) (fun c_1 => absurd c_1 (by decide)) (fun c_1 => ?_)
  refine lv_iload_n hx hb dJ1_canEncode_9a6ad_4 rfl (lv_at hl 0 rfl) ?_
  refine lv_sipush (v := 255) hx hb dJ1_canEncode_9a6ad_5 (by decide) ?_
  refine lv_icmp_gt (tgt := 15) hx hb dJ1_canEncode_9a6ad_8 (by decide) (fun c_2 => absurd c_2 (by decide)) (fun c_2 => ?_)
  refine lv_iconst (v := 1) hx hb dJ1_canEncode_9a6ad_11 (by decide) ?_
  refine lv_goto (tgt := 16) hx hb dJ1_canEncode_9a6ad_12 (by decide) ?_
  have hP9 := hP.sub (ws' := []) [] rfl
  have hD9 := hD.sub (ws' := []) [] (by decide) rfl
  refine W.widen (k := 0) (n := 0) (Nat.le_of_ble_eq_true rfl) (Nat.le_of_ble_eq_true rfl) ?_
  exact W.zret (v := 1) hx hb hr rfl (fun t ht hW => ⟨⟨1, [], rfl, ⟨rfl, rfl⟩, by rw [ht]; exact hP9, va_K.moved hW.alike hK, hD9⟩, hS.F ht⟩) hS.2.2 dJ1_canEncode_9a6ad_16

set_option maxHeartbeats 4000000 in
set_option maxRecDepth 100000 in
theorem c_idxChar_w (l : Launch) (hfl : l.stackTraces = false) (g : GP)   : CI l yJ1_indexOfChar_4cfef (wG yJ1_indexOfChar_4cfef cJ1_indexOfChar_4cfef 6 (Option.some Jvm.ClassFile.FieldType.int)) (LV 1 0 0) g [.ref (g.2.2 23), .int 119, .int 0, .int 5] ([]) (fun (r : Int32) (u : va_W) => r = 4 ∧ u = []) := by
  intro sz
  refine Met.ofW (cc := cJ1_indexOfChar_4cfef) (maxL := 6) (ret := (Option.some Jvm.ClassFile.FieldType.int)) (by decide) rfl ?_
  intro p e s m args below meth c s₁ B hml hv
  obtain ⟨rfl, hsz, hP, hK, hD0, hT0⟩ := hv
  have hx := B.exec
  have hb := B.bytes
  have hr := B.returns
  have hts := atoms_spec (ws := (wG yJ1_indexOfChar_4cfef cJ1_indexOfChar_4cfef 6 (Option.some Jvm.ClassFile.FieldType.int))) B.pre
  have htg : ∀ w ∈ G9, w.before _ s = true := fun w h => hts w (List.mem_cons_of_mem _ h)
  have hown : s.vm.findClass "java/lang/StringLatin1" = some m.cls := findClass_of_methodNamed B.named
  have hlocks := B.notSynchronized
  subst hsz
  have hD := hD0.self (sz := s.heap.size)
  have hT := hT0
  clear hT0
  generalize hAe : va_A [] s.heap.size = A at hD hT ⊢
  have hA : ∀ q : Nat, s.heap.size ≤ q → A q := fun q h => by rw [← hAe]; exact Or.inr h
  obtain ⟨H, hH0⟩ : ∃ H, H = s.heap := ⟨_, rfl⟩
  have hS : va_S A s.heap H [] := by rw [hH0]; exact va_S.rf
  have hP : va_P g.1 CLS [] H := by rw [hH0]; exact hP
  rw [← hH0]
  have hl := lv_entry ([.ref (g.2.2 23), .int 119, .int 0, .int 5]) (n := 6) (Nat.le_of_ble_eq_true rfl)
  rw [lg_entry_eq]
  generalize (lg_sl ([.ref (g.2.2 23), .int 119, .int 0, .int 5]) ++ List.replicate (6 - (lg_sl ([.ref (g.2.2 23), .int 119, .int 0, .int 5])).length) Slot.unset).toArray = ls at hl ⊢
  have hl : lv_has ls 6 [(0, .ref (g.2.2 23)), (1, .int 119), (2, .int 0), (3, .int 5)] := hl
  refine lv_iload_n hx hb dJ1_indexOfChar_4cfef_0 rfl (lv_at hl 1 rfl) ?_
  refine lv_i2b (v := 119) hx hb dJ1_indexOfChar_4cfef_1 (by decide) ?_
  refine lv_istore (lv' := [(4, .int 119), (0, .ref (g.2.2 23)), (1, .int 119), (2, .int 0), (3, .int 5)]) hx hb dJ1_indexOfChar_4cfef_2 hl (by decide) rfl (fun ls hl => ?_)
  refine lv_iload_n hx hb dJ1_indexOfChar_4cfef_4 rfl (lv_at hl 3 rfl) ?_
  refine lv_istore (lv' := [(5, .int 0), (4, .int 119), (0, .ref (g.2.2 23)), (1, .int 119), (2, .int 0), (3, .int 5)]) hx hb dJ1_indexOfChar_4cfef_5 hl (by decide) rfl (fun ls hl => ?_)
  refine lv_iload hx hb dJ1_indexOfChar_4cfef_7 (lv_at hl 0 rfl) ?_
  refine lv_iload_n hx hb dJ1_indexOfChar_4cfef_9 rfl (lv_at hl 5 rfl) ?_
  refine lv_icmp_ge (tgt := 31) hx hb dJ1_indexOfChar_4cfef_10 (by decide) (fun c_1 => absurd c_1 (by decide)) (fun c_1 => ?_)
  refine lv_aload_n hx hb dJ1_indexOfChar_4cfef_13 rfl (lv_at hl 2 rfl) ?_
  refine lv_iload hx hb dJ1_indexOfChar_4cfef_14 (lv_at hl 0 rfl) ?_
  refine va_tb hx hb (hT.2.2.1.2.2.2.2) hS (i := 0) (vp_in_iff.mpr (by decide)) (v := .int 97) rfl dJ1_indexOfChar_4cfef_16 ?_
  refine lv_iload hx hb dJ1_indexOfChar_4cfef_17 (lv_at hl 1 rfl) ?_
  refine lv_icmp_ne (tgt := 25) hx hb dJ1_indexOfChar_4cfef_19 (by decide) (fun c_2 => ?_) (fun c_2 => absurd c_2 (by decide))
  refine lv_iinc (v := 1) (lv' := [(5, .int 1), (4, .int 119), (0, .ref (g.2.2 23)), (1, .int 119), (2, .int 0), (3, .int 5)]) hx hb dJ1_indexOfChar_4cfef_25 hl (k := 0) rfl (by decide) (by decide) rfl (fun ls hl => ?_)
  refine lv_goto (tgt := 7) hx hb dJ1_indexOfChar_4cfef_28 (by decide) ?_
  refine lv_iload hx hb dJ1_indexOfChar_4cfef_7 (lv_at hl 0 rfl) ?_
  refine lv_iload_n hx hb dJ1_indexOfChar_4cfef_9 rfl (lv_at hl 5 rfl) ?_
  refine lv_icmp_ge (tgt := 31) hx hb dJ1_indexOfChar_4cfef_10 (by decide) (fun c_3 => absurd c_3 (by decide)) (fun c_3 => ?_)
  refine lv_aload_n hx hb dJ1_indexOfChar_4cfef_13 rfl (lv_at hl 2 rfl) ?_
  refine lv_iload hx hb dJ1_indexOfChar_4cfef_14 (lv_at hl 0 rfl) ?_
  refine va_tb hx hb (hT.2.2.1.2.2.2.2) hS (i := 1) (vp_in_iff.mpr (by decide)) (v := .int 116) rfl dJ1_indexOfChar_4cfef_16 ?_
  refine lv_iload hx hb dJ1_indexOfChar_4cfef_17 (lv_at hl 1 rfl) ?_
  refine lv_icmp_ne (tgt := 25) hx hb dJ1_indexOfChar_4cfef_19 (by decide) (fun c_4 => ?_) (fun c_4 => absurd c_4 (by decide))
  refine lv_iinc (v := 2) (lv' := [(5, .int 2), (4, .int 119), (0, .ref (g.2.2 23)), (1, .int 119), (2, .int 0), (3, .int 5)]) hx hb dJ1_indexOfChar_4cfef_25 hl (k := 0) rfl (by decide) (by decide) rfl (fun ls hl => ?_)
  refine lv_goto (tgt := 7) hx hb dJ1_indexOfChar_4cfef_28 (by decide) ?_
  refine lv_iload hx hb dJ1_indexOfChar_4cfef_7 (lv_at hl 0 rfl) ?_
  refine lv_iload_n hx hb dJ1_indexOfChar_4cfef_9 rfl (lv_at hl 5 rfl) ?_
  refine lv_icmp_ge (tgt := 31) hx hb dJ1_indexOfChar_4cfef_10 (by decide) (fun c_5 => absurd c_5 (by decide)) (fun c_5 => ?_)
  refine lv_aload_n hx hb dJ1_indexOfChar_4cfef_13 rfl (lv_at hl 2 rfl) ?_
  refine lv_iload hx hb dJ1_indexOfChar_4cfef_14 (lv_at hl 0 rfl) ?_
  refine va_tb hx hb (hT.2.2.1.2.2.2.2) hS (i := 2) (vp_in_iff.mpr (by decide)) (v := .int 100) rfl dJ1_indexOfChar_4cfef_16 ?_
  refine lv_iload hx hb dJ1_indexOfChar_4cfef_17 (lv_at hl 1 rfl) ?_
  refine lv_icmp_ne (tgt := 25) hx hb dJ1_indexOfChar_4cfef_19 (by decide) (fun c_6 => ?_) (fun c_6 => absurd c_6 (by decide))
  refine lv_iinc (v := 3) (lv' := [(5, .int 3), (4, .int 119), (0, .ref (g.2.2 23)), (1, .int 119), (2, .int 0), (3, .int 5)]) hx hb dJ1_indexOfChar_4cfef_25 hl (k := 0) rfl (by decide) (by decide) rfl (fun ls hl => ?_)
  refine lv_goto (tgt := 7) hx hb dJ1_indexOfChar_4cfef_28 (by decide) ?_
  refine lv_iload hx hb dJ1_indexOfChar_4cfef_7 (lv_at hl 0 rfl) ?_
  refine lv_iload_n hx hb dJ1_indexOfChar_4cfef_9 rfl (lv_at hl 5 rfl) ?_
  refine lv_icmp_ge (tgt := 31) hx hb dJ1_indexOfChar_4cfef_10 (by decide) (fun c_7 => absurd c_7 (by decide)) (fun c_7 => ?_)
  refine lv_aload_n hx hb dJ1_indexOfChar_4cfef_13 rfl (lv_at hl 2 rfl) ?_
  refine lv_iload hx hb dJ1_indexOfChar_4cfef_14 (lv_at hl 0 rfl) ?_
  refine va_tb hx hb (hT.2.2.1.2.2.2.2) hS (i := 3) (vp_in_iff.mpr (by decide)) (v := .int 115) rfl dJ1_indexOfChar_4cfef_16 ?_
  refine lv_iload hx hb dJ1_indexOfChar_4cfef_17 (lv_at hl 1 rfl) ?_
  refine lv_icmp_ne (tgt := 25) hx hb dJ1_indexOfChar_4cfef_19 (by decide) (fun c_8 => ?_) (fun c_8 => absurd c_8 (by decide))
  refine lv_iinc (v := 4) (lv' := [(5, .int 4), (4, .int 119), (0, .ref (g.2.2 23)), (1, .int 119), (2, .int 0), (3, .int 5)]) hx hb dJ1_indexOfChar_4cfef_25 hl (k := 0) rfl (by decide) (by decide) rfl (fun ls hl => ?_)
  refine lv_goto (tgt := 7) hx hb dJ1_indexOfChar_4cfef_28 (by decide) ?_
  refine lv_iload hx hb dJ1_indexOfChar_4cfef_7 (lv_at hl 0 rfl) ?_
  refine lv_iload_n hx hb dJ1_indexOfChar_4cfef_9 rfl (lv_at hl 5 rfl) ?_
  refine lv_icmp_ge (tgt := 31) hx hb dJ1_indexOfChar_4cfef_10 (by decide) (fun c_9 => absurd c_9 (by decide)) (fun c_9 => ?_)
  refine lv_aload_n hx hb dJ1_indexOfChar_4cfef_13 rfl (lv_at hl 2 rfl) ?_
  refine lv_iload hx hb dJ1_indexOfChar_4cfef_14 (lv_at hl 0 rfl) ?_
  refine va_tb hx hb (hT.2.2.1.2.2.2.2) hS (i := 4) (vp_in_iff.mpr (by decide)) (v := .int 119) rfl dJ1_indexOfChar_4cfef_16 ?_
  refine lv_iload hx hb dJ1_indexOfChar_4cfef_17 (lv_at hl 1 rfl) ?_
  refine lv_icmp_ne (tgt := 25) hx hb dJ1_indexOfChar_4cfef_19 (by decide) (fun c_10 => absurd (by decide) c_10) (fun c_10 => ?_)
  refine lv_iload hx hb dJ1_indexOfChar_4cfef_22 (lv_at hl 0 rfl) ?_
  have hP9 := hP.sub (ws' := []) [] rfl
  have hD9 := hD.sub (ws' := []) [] (by decide) rfl
  refine W.widen (k := 0) (n := 0) (Nat.le_of_ble_eq_true rfl) (Nat.le_of_ble_eq_true rfl) ?_
  exact W.iret (v := 4) hx hb hr (fun t ht hW => ⟨⟨4, [], rfl, ⟨rfl, rfl⟩, by rw [ht]; exact hP9, va_K.moved hW.alike hK, hD9⟩, hS.F ht⟩) hS.2.2 dJ1_indexOfChar_4cfef_24

set_option maxHeartbeats 4000000 in
set_option maxRecDepth 100000 in
theorem c_idx4_w (l : Launch) (hfl : l.stackTraces = false) (g : GP)   : CI l yJ1_indexOf_4cfef (wG yJ1_indexOf_4cfef cJ1_indexOf_4cfef 4 (Option.some Jvm.ClassFile.FieldType.int)) (LV 2 0 0) g [.ref (g.2.2 23), .int 119, .int 0, .int 5] ([]) (fun (r : Int32) (u : va_W) => r = 4 ∧ u = []) := by
  intro sz
  refine Met.ofW (cc := cJ1_indexOf_4cfef) (maxL := 4) (ret := (Option.some Jvm.ClassFile.FieldType.int)) (by decide) rfl ?_
  intro p e s m args below meth c s₁ B hml hv
  obtain ⟨rfl, hsz, hP, hK, hD0, hT0⟩ := hv
  have hx := B.exec
  have hb := B.bytes
  have hr := B.returns
  have hts := atoms_spec (ws := (wG yJ1_indexOf_4cfef cJ1_indexOf_4cfef 4 (Option.some Jvm.ClassFile.FieldType.int))) B.pre
  have htg : ∀ w ∈ G9, w.before _ s = true := fun w h => hts w (List.mem_cons_of_mem _ h)
  have hown : s.vm.findClass "java/lang/StringLatin1" = some m.cls := findClass_of_methodNamed B.named
  have hlocks := B.notSynchronized
  subst hsz
  have hD := hD0.self (sz := s.heap.size)
  have hT := hT0
  clear hT0
  generalize hAe : va_A [] s.heap.size = A at hD hT ⊢
  have hA : ∀ q : Nat, s.heap.size ≤ q → A q := fun q h => by rw [← hAe]; exact Or.inr h
  obtain ⟨H, hH0⟩ : ∃ H, H = s.heap := ⟨_, rfl⟩
  have hS : va_S A s.heap H [] := by rw [hH0]; exact va_S.rf
  have hP : va_P g.1 CLS [] H := by rw [hH0]; exact hP
  rw [← hH0]
  have hl := lv_entry ([.ref (g.2.2 23), .int 119, .int 0, .int 5]) (n := 4) (Nat.le_of_ble_eq_true rfl)
  rw [lg_entry_eq]
  generalize (lg_sl ([.ref (g.2.2 23), .int 119, .int 0, .int 5]) ++ List.replicate (4 - (lg_sl ([.ref (g.2.2 23), .int 119, .int 0, .int 5])).length) Slot.unset).toArray = ls at hl ⊢
  have hl : lv_has ls 4 [(0, .ref (g.2.2 23)), (1, .int 119), (2, .int 0), (3, .int 5)] := hl
  refine lv_iload_n hx hb dJ1_indexOf_4cfef_0 rfl (lv_at hl 1 rfl) ?_
  have hPc := hP.sub (ws' := []) [] rfl
  have hDc := hD.sub (ws' := []) [] (by decide) rfl
  have hFc := va_free (wc := []) hD hS hA [] rfl
  refine q_ci (wr := []) (va_runS (As := [.int 119]) (rest := []) ⟨hx, hb, hml, hown, htg⟩ (c_canEnc_w l hfl g   H.size) ⟨(qB htg k452 k78 k450 ok_J1_canEncode_9a6ad rfl rfl ⟨Nat.le_of_ble_eq_true rfl, Nat.le_of_ble_eq_true rfl⟩), htg _ k451⟩ (q_pre [.int 119] hPc hDc hK hS hT hFc) rfl rfl hl.1 rfl (lv_room (Nat.le_of_ble_eq_true rfl)) dJ1_indexOf_4cfef_1 ⟨Nat.le_of_ble_eq_true rfl, Nat.le_of_ble_eq_true rfl⟩) hP hD hS hFc [] [] rfl rfl (by decide) (by decide) (fun r9 u9 H locs hw hP hD hS => ?_)
  try dsimp only at hw
  rcases hw with ⟨rfl, rfl⟩
  have hP : va_P g.1 CLS [] H := hP
  have hD : va_D A [] := hD
  refine W.widen (k := 0) (n := 0) (Nat.le_of_ble_eq_true rfl) (Nat.le_of_ble_eq_true rfl) ?_
  refine lv_if_ne (tgt := 9) hx hb dJ1_indexOf_4cfef_4 (by decide) (fun c_1 => ?_) (fun c_1 => absurd c_1 (by decide))
  refine lv_iload_n hx hb dJ1_indexOf_4cfef_9 rfl (lv_at hl 2 rfl) ?_
  refine lv_iconst (v := 0) hx hb dJ1_indexOf_4cfef_10 (by decide) ?_
  refine va_mmax hx hb (by rw [hl.1]; exact hml) (own := "java/lang/StringLatin1") (index := 92) hown (htg _ k453) (htg _ k454) (htg _ k72) (htg _ k455) (Nat.le_of_ble_eq_true rfl) (Nat.le_of_ble_eq_true rfl) (Nat.le_of_ble_eq_true rfl) (Nat.le_of_ble_eq_true rfl) dJ1_indexOf_4cfef_11 ?_
  refine lv_topi (fun x_2 ex_2 => ?_)
  obtain rfl : x_2 = 0 := ex_2.trans (by decide)
  refine lv_istore_n (lv' := [(2, .int 0), (0, .ref (g.2.2 23)), (1, .int 119), (3, .int 5)]) hx hb dJ1_indexOf_4cfef_14 rfl hl (by decide) rfl (fun ls hl => ?_)
  refine lv_iload_n hx hb dJ1_indexOf_4cfef_15 rfl (lv_at hl 3 rfl) ?_
  refine lv_aload_n hx hb dJ1_indexOf_4cfef_16 rfl (lv_at hl 1 rfl) ?_
  refine va_tlen (v := 5) hx hb (hT.2.2.1.2.2.2.2) hS rfl dJ1_indexOf_4cfef_17 ?_
  refine va_mmin hx hb (by rw [hl.1]; exact hml) (own := "java/lang/StringLatin1") (index := 38) hown (htg _ k456) (htg _ k457) (htg _ k72) (htg _ k458) (Nat.le_of_ble_eq_true rfl) (Nat.le_of_ble_eq_true rfl) (Nat.le_of_ble_eq_true rfl) (Nat.le_of_ble_eq_true rfl) dJ1_indexOf_4cfef_18 ?_
  refine lv_topi (fun x_3 ex_3 => ?_)
  obtain rfl : x_3 = 5 := ex_3.trans (by decide)
  refine lv_istore_n (lv' := [(3, .int 5), (2, .int 0), (0, .ref (g.2.2 23)), (1, .int 119)]) hx hb dJ1_indexOf_4cfef_21 rfl hl (by decide) rfl (fun ls hl => ?_)
  refine lv_iload_n hx hb dJ1_indexOf_4cfef_22 rfl (lv_at hl 1 rfl) ?_
  refine lv_iload_n hx hb dJ1_indexOf_4cfef_23 rfl (lv_at hl 0 rfl) ?_
  refine lv_icmp_lt (tgt := 29) hx hb dJ1_indexOf_4cfef_24 (by decide) (fun c_4 => ?_) (fun c_4 => absurd (by decide) c_4)
  refine lv_aload_n hx hb dJ1_indexOf_4cfef_29 rfl (lv_at hl 2 rfl) ?_
  refine lv_iload_n hx hb dJ1_indexOf_4cfef_30 rfl (lv_at hl 3 rfl) ?_
  refine lv_iload_n hx hb dJ1_indexOf_4cfef_31 rfl (lv_at hl 1 rfl) ?_
  refine lv_iload_n hx hb dJ1_indexOf_4cfef_32 rfl (lv_at hl 0 rfl) ?_
  have hPc := hP.sub (ws' := []) [] rfl
  have hDc := hD.sub (ws' := []) [] (by decide) rfl
  have hFc := va_free (wc := []) hD hS hA [] rfl
  refine q_ci (wr := []) (va_runS (As := [.ref (g.2.2 23), .int 119, .int 0, .int 5]) (rest := []) ⟨hx, hb, hml, hown, htg⟩ (c_idxChar_w l hfl g   H.size) ⟨(qB htg k461 k78 k459 ok_J1_indexOfChar_4cfef rfl rfl ⟨Nat.le_of_ble_eq_true rfl, Nat.le_of_ble_eq_true rfl⟩), htg _ k460⟩ (q_pre [.ref (g.2.2 23), .int 119, .int 0, .int 5] hPc hDc hK hS hT hFc) rfl rfl hl.1 rfl (lv_room (Nat.le_of_ble_eq_true rfl)) dJ1_indexOf_4cfef_33 ⟨Nat.le_of_ble_eq_true rfl, Nat.le_of_ble_eq_true rfl⟩) hP hD hS hFc [] [] rfl rfl (by decide) (by decide) (fun r9 u9 H locs hw hP hD hS => ?_)
  try dsimp only at hw
  rcases hw with ⟨rfl, rfl⟩
  have hP : va_P g.1 CLS [] H := hP
  have hD : va_D A [] := hD
  refine W.widen (k := 0) (n := 0) (Nat.le_of_ble_eq_true rfl) (Nat.le_of_ble_eq_true rfl) ?_
  have hP9 := hP.sub (ws' := []) [] rfl
  have hD9 := hD.sub (ws' := []) [] (by decide) rfl
  refine W.widen (k := 0) (n := 0) (Nat.le_of_ble_eq_true rfl) (Nat.le_of_ble_eq_true rfl) ?_
  exact W.iret (v := 4) hx hb hr (fun t ht hW => ⟨⟨4, [], rfl, ⟨rfl, rfl⟩, by rw [ht]; exact hP9, va_K.moved hW.alike hK, hD9⟩, hS.F ht⟩) hS.2.2 dJ1_indexOf_4cfef_36

set_option maxHeartbeats 4000000 in
set_option maxRecDepth 100000 in
theorem c_idx2_w (l : Launch) (hfl : l.stackTraces = false) (g : GP)   : CI l yJ0_indexOf_7cf53 (wG yJ0_indexOf_7cf53 cJ0_indexOf_7cf53 3 (Option.some Jvm.ClassFile.FieldType.int)) (LV 3 0 0) g [.ref (g.2.2 13), .int 119, .int 0] ([]) (fun (r : Int32) (u : va_W) => r = 4 ∧ u = []) := by
  intro sz
  refine Met.ofW (cc := cJ0_indexOf_7cf53) (maxL := 3) (ret := (Option.some Jvm.ClassFile.FieldType.int)) (by decide) rfl ?_
  intro p e s m args below meth c s₁ B hml hv
  obtain ⟨rfl, hsz, hP, hK, hD0, hT0⟩ := hv
  have hx := B.exec
  have hb := B.bytes
  have hr := B.returns
  have hts := atoms_spec (ws := (wG yJ0_indexOf_7cf53 cJ0_indexOf_7cf53 3 (Option.some Jvm.ClassFile.FieldType.int))) B.pre
  have htg : ∀ w ∈ G9, w.before _ s = true := fun w h => hts w (List.mem_cons_of_mem _ h)
  have hown : s.vm.findClass "java/lang/String" = some m.cls := findClass_of_methodNamed B.named
  have hlocks := B.notSynchronized
  subst hsz
  have hD := hD0.self (sz := s.heap.size)
  have hT := hT0
  clear hT0
  generalize hAe : va_A [] s.heap.size = A at hD hT ⊢
  have hA : ∀ q : Nat, s.heap.size ≤ q → A q := fun q h => by rw [← hAe]; exact Or.inr h
  obtain ⟨H, hH0⟩ : ∃ H, H = s.heap := ⟨_, rfl⟩
  have hS : va_S A s.heap H [] := by rw [hH0]; exact va_S.rf
  have hP : va_P g.1 CLS [] H := by rw [hH0]; exact hP
  rw [← hH0]
  have hl := lv_entry ([.ref (g.2.2 13), .int 119, .int 0]) (n := 3) (Nat.le_of_ble_eq_true rfl)
  rw [lg_entry_eq]
  generalize (lg_sl ([.ref (g.2.2 13), .int 119, .int 0]) ++ List.replicate (3 - (lg_sl ([.ref (g.2.2 13), .int 119, .int 0])).length) Slot.unset).toArray = ls at hl ⊢
  have hl : lv_has ls 3 [(0, .ref (g.2.2 13)), (1, .int 119), (2, .int 0)] := hl
  refine lv_aload_n hx hb dJ0_indexOf_7cf53_0 rfl (lv_at hl 0 rfl) ?_
  have hPc := hP.sub (ws' := []) [] rfl
  have hDc := hD.sub (ws' := []) [] (by decide) rfl
  have hFc := va_free (wc := []) hD hS hA [] rfl
  refine q_ci (wr := []) (va_runV (As := []) (rest := []) ⟨hx, hb, hml, hown, htg⟩ (c_isLatin1 l hfl g   H.size) ⟨(qB htg k436 k77 k433 ok_J0_isLatin1_aae02 rfl rfl ⟨Nat.le_of_ble_eq_true rfl, Nat.le_of_ble_eq_true rfl⟩), htg _ k434, htg _ k435⟩ ⟨(q_pre [.ref (g.2.2 13)] hPc hDc hK hS hT hFc).1, va_Orecv (hT.2.2.1.2.1) hS, (q_pre [.ref (g.2.2 13)] hPc hDc hK hS hT hFc).2⟩ rfl rfl hl.1 rfl (lv_room (Nat.le_of_ble_eq_true rfl)) dJ0_indexOf_7cf53_1 ⟨Nat.le_of_ble_eq_true rfl, Nat.le_of_ble_eq_true rfl⟩) hP hD hS hFc [] [] rfl rfl (by decide) (by decide) (fun r9 u9 H locs hw hP hD hS => ?_)
  try dsimp only at hw
  rcases hw with ⟨rfl, rfl⟩
  have hP : va_P g.1 CLS [] H := hP
  have hD : va_D A [] := hD
  refine W.widen (k := 0) (n := 0) (Nat.le_of_ble_eq_true rfl) (Nat.le_of_ble_eq_true rfl) ?_
  refine lv_if_eq (tgt := 23) hx hb dJ0_indexOf_7cf53_4 (by decide) (fun c_1 => absurd c_1 (by decide)) (fun c_1 => ?_)
  refine lv_aload_n hx hb dJ0_indexOf_7cf53_7 rfl (lv_at hl 0 rfl) ?_
  refine vk_getf (v := .ref (g.2.2 23)) hx hb (hT.2.2.1.2.2.2.1) hS hown (htg _ k2089) (fun _ h9 => h9) dJ0_indexOf_7cf53_8 ?_
  refine lv_iload_n hx hb dJ0_indexOf_7cf53_11 rfl (lv_at hl 1 rfl) ?_
  refine lv_iload_n hx hb dJ0_indexOf_7cf53_12 rfl (lv_at hl 2 rfl) ?_
  refine lv_aload_n hx hb dJ0_indexOf_7cf53_13 rfl (lv_at hl 0 rfl) ?_
  have hPc := hP.sub (ws' := []) [] rfl
  have hDc := hD.sub (ws' := []) [] (by decide) rfl
  have hFc := va_free (wc := []) hD hS hA [] rfl
  refine q_ci (wr := []) (va_runV (As := []) (rest := [.int 0, .int 119, .ref (g.2.2 23)]) ⟨hx, hb, hml, hown, htg⟩ (c_length l hfl g   H.size) ⟨(qB htg k442 k77 k439 ok_J0_length_8abf5 rfl rfl ⟨Nat.le_of_ble_eq_true rfl, Nat.le_of_ble_eq_true rfl⟩), htg _ k440, htg _ k441⟩ ⟨(q_pre [.ref (g.2.2 13)] hPc hDc hK hS hT hFc).1, va_Orecv (hT.2.2.1.2.1) hS, (q_pre [.ref (g.2.2 13)] hPc hDc hK hS hT hFc).2⟩ rfl rfl hl.1 rfl (lv_room (Nat.le_of_ble_eq_true rfl)) dJ0_indexOf_7cf53_14 ⟨Nat.le_of_ble_eq_true rfl, Nat.le_of_ble_eq_true rfl⟩) hP hD hS hFc [] [] rfl rfl (by decide) (by decide) (fun r9 u9 H locs hw hP hD hS => ?_)
  try dsimp only at hw
  rcases hw with ⟨rfl, rfl⟩
  have hP : va_P g.1 CLS [] H := hP
  have hD : va_D A [] := hD
  refine W.widen (k := 0) (n := 0) (Nat.le_of_ble_eq_true rfl) (Nat.le_of_ble_eq_true rfl) ?_
  have hPc := hP.sub (ws' := []) [] rfl
  have hDc := hD.sub (ws' := []) [] (by decide) rfl
  have hFc := va_free (wc := []) hD hS hA [] rfl
  refine q_ci (wr := []) (va_runS (As := [.ref (g.2.2 23), .int 119, .int 0, .int 5]) (rest := []) ⟨hx, hb, hml, hown, htg⟩ (c_idx4_w l hfl g   H.size) ⟨(qB htg k449 k78 k447 ok_J1_indexOf_4cfef rfl rfl ⟨Nat.le_of_ble_eq_true rfl, Nat.le_of_ble_eq_true rfl⟩), htg _ k448⟩ (q_pre [.ref (g.2.2 23), .int 119, .int 0, .int 5] hPc hDc hK hS hT hFc) rfl rfl hl.1 rfl (lv_room (Nat.le_of_ble_eq_true rfl)) dJ0_indexOf_7cf53_17 ⟨Nat.le_of_ble_eq_true rfl, Nat.le_of_ble_eq_true rfl⟩) hP hD hS hFc [] [] rfl rfl (by decide) (by decide) (fun r9 u9 H locs hw hP hD hS => ?_)
  try dsimp only at hw
  rcases hw with ⟨rfl, rfl⟩
  have hP : va_P g.1 CLS [] H := hP
  have hD : va_D A [] := hD
  refine W.widen (k := 0) (n := 0) (Nat.le_of_ble_eq_true rfl) (Nat.le_of_ble_eq_true rfl) ?_
  refine lv_goto (tgt := 36) hx hb dJ0_indexOf_7cf53_20 (by decide) ?_
  have hP9 := hP.sub (ws' := []) [] rfl
  have hD9 := hD.sub (ws' := []) [] (by decide) rfl
  refine W.widen (k := 0) (n := 0) (Nat.le_of_ble_eq_true rfl) (Nat.le_of_ble_eq_true rfl) ?_
  exact W.iret (v := 4) hx hb hr (fun t ht hW => ⟨⟨4, [], rfl, ⟨rfl, rfl⟩, by rw [ht]; exact hP9, va_K.moved hW.alike hK, hD9⟩, hS.F ht⟩) hS.2.2 dJ0_indexOf_7cf53_36

set_option maxHeartbeats 4000000 in
set_option maxRecDepth 100000 in
theorem c_idx1_w (l : Launch) (hfl : l.stackTraces = false) (g : GP)   : CI l yJ0_indexOf_0f7a4 (wG yJ0_indexOf_0f7a4 cJ0_indexOf_0f7a4 2 (Option.some Jvm.ClassFile.FieldType.int)) (LV 4 0 0) g [.ref (g.2.2 13), .int 119] ([]) (fun (r : Int32) (u : va_W) => r = 4 ∧ u = []) := by
  intro sz
  refine Met.ofW (cc := cJ0_indexOf_0f7a4) (maxL := 2) (ret := (Option.some Jvm.ClassFile.FieldType.int)) (by decide) rfl ?_
  intro p e s m args below meth c s₁ B hml hv
  obtain ⟨rfl, hsz, hP, hK, hD0, hT0⟩ := hv
  have hx := B.exec
  have hb := B.bytes
  have hr := B.returns
  have hts := atoms_spec (ws := (wG yJ0_indexOf_0f7a4 cJ0_indexOf_0f7a4 2 (Option.some Jvm.ClassFile.FieldType.int))) B.pre
  have htg : ∀ w ∈ G9, w.before _ s = true := fun w h => hts w (List.mem_cons_of_mem _ h)
  have hown : s.vm.findClass "java/lang/String" = some m.cls := findClass_of_methodNamed B.named
  have hlocks := B.notSynchronized
  subst hsz
  have hD := hD0.self (sz := s.heap.size)
  have hT := hT0
  clear hT0
  generalize hAe : va_A [] s.heap.size = A at hD hT ⊢
  have hA : ∀ q : Nat, s.heap.size ≤ q → A q := fun q h => by rw [← hAe]; exact Or.inr h
  obtain ⟨H, hH0⟩ : ∃ H, H = s.heap := ⟨_, rfl⟩
  have hS : va_S A s.heap H [] := by rw [hH0]; exact va_S.rf
  have hP : va_P g.1 CLS [] H := by rw [hH0]; exact hP
  rw [← hH0]
  have hl := lv_entry ([.ref (g.2.2 13), .int 119]) (n := 2) (Nat.le_of_ble_eq_true rfl)
  rw [lg_entry_eq]
  generalize (lg_sl ([.ref (g.2.2 13), .int 119]) ++ List.replicate (2 - (lg_sl ([.ref (g.2.2 13), .int 119])).length) Slot.unset).toArray = ls at hl ⊢
  have hl : lv_has ls 2 [(0, .ref (g.2.2 13)), (1, .int 119)] := hl
  refine lv_aload_n hx hb dJ0_indexOf_0f7a4_0 rfl (lv_at hl 0 rfl) ?_
  refine lv_iload_n hx hb dJ0_indexOf_0f7a4_1 rfl (lv_at hl 1 rfl) ?_
  refine lv_iconst (v := 0) hx hb dJ0_indexOf_0f7a4_2 (by decide) ?_
  have hPc := hP.sub (ws' := []) [] rfl
  have hDc := hD.sub (ws' := []) [] (by decide) rfl
  have hFc := va_free (wc := []) hD hS hA [] rfl
  refine q_ci (wr := []) (va_runV (As := [.int 119, .int 0]) (rest := []) ⟨hx, hb, hml, hown, htg⟩ (c_idx2_w l hfl g   H.size) ⟨(qB htg k432 k77 k429 ok_J0_indexOf_7cf53 rfl rfl ⟨Nat.le_of_ble_eq_true rfl, Nat.le_of_ble_eq_true rfl⟩), htg _ k430, htg _ k431⟩ ⟨(q_pre [.ref (g.2.2 13), .int 119, .int 0] hPc hDc hK hS hT hFc).1, va_Orecv (hT.2.2.1.2.1) hS, (q_pre [.ref (g.2.2 13), .int 119, .int 0] hPc hDc hK hS hT hFc).2⟩ rfl rfl hl.1 rfl (lv_room (Nat.le_of_ble_eq_true rfl)) dJ0_indexOf_0f7a4_3 ⟨Nat.le_of_ble_eq_true rfl, Nat.le_of_ble_eq_true rfl⟩) hP hD hS hFc [] [] rfl rfl (by decide) (by decide) (fun r9 u9 H locs hw hP hD hS => ?_)
  try dsimp only at hw
  rcases hw with ⟨rfl, rfl⟩
  have hP : va_P g.1 CLS [] H := hP
  have hD : va_D A [] := hD
  refine W.widen (k := 0) (n := 0) (Nat.le_of_ble_eq_true rfl) (Nat.le_of_ble_eq_true rfl) ?_
  have hP9 := hP.sub (ws' := []) [] rfl
  have hD9 := hD.sub (ws' := []) [] (by decide) rfl
  refine W.widen (k := 0) (n := 0) (Nat.le_of_ble_eq_true rfl) (Nat.le_of_ble_eq_true rfl) ?_
  exact W.iret (v := 4) hx hb hr (fun t ht hW => ⟨⟨4, [], rfl, ⟨rfl, rfl⟩, by rw [ht]; exact hP9, va_K.moved hW.alike hK, hD9⟩, hS.F ht⟩) hS.2.2 dJ0_indexOf_0f7a4_6

set_option maxHeartbeats 4000000 in
set_option maxRecDepth 100000 in
theorem c_canEnc_s (l : Launch) (hfl : l.stackTraces = false) (g : GP)   : CI l yJ1_canEncode_9a6ad (wG yJ1_canEncode_9a6ad cJ1_canEncode_9a6ad 1 (Option.some Jvm.ClassFile.FieldType.boolean)) (LV 1 0 0) g [.int 115] ([]) (fun (r : Int32) (u : va_W) => r = 1 ∧ u = []) := by
  intro sz
  refine Met.ofW (cc := cJ1_canEncode_9a6ad) (maxL := 1) (ret := (Option.some Jvm.ClassFile.FieldType.boolean)) (by decide) rfl ?_
  intro p e s m args below meth c s₁ B hml hv
  obtain ⟨rfl, hsz, hP, hK, hD0, hT0⟩ := hv
  have hx := B.exec
  have hb := B.bytes
  have hr := B.returns
  have hts := atoms_spec (ws := (wG yJ1_canEncode_9a6ad cJ1_canEncode_9a6ad 1 (Option.some Jvm.ClassFile.FieldType.boolean))) B.pre
  have htg : ∀ w ∈ G9, w.before _ s = true := fun w h => hts w (List.mem_cons_of_mem _ h)
  have hown : s.vm.findClass "java/lang/StringLatin1" = some m.cls := findClass_of_methodNamed B.named
  have hlocks := B.notSynchronized
  subst hsz
  have hD := hD0.self (sz := s.heap.size)
  have hT := hT0
  clear hT0
  generalize hAe : va_A [] s.heap.size = A at hD hT ⊢
  have hA : ∀ q : Nat, s.heap.size ≤ q → A q := fun q h => by rw [← hAe]; exact Or.inr h
  obtain ⟨H, hH0⟩ : ∃ H, H = s.heap := ⟨_, rfl⟩
  have hS : va_S A s.heap H [] := by rw [hH0]; exact va_S.rf
  have hP : va_P g.1 CLS [] H := by rw [hH0]; exact hP
  rw [← hH0]
  have hl := lv_entry ([.int 115]) (n := 1) (Nat.le_of_ble_eq_true rfl)
  rw [lg_entry_eq]
  generalize (lg_sl ([.int 115]) ++ List.replicate (1 - (lg_sl ([.int 115])).length) Slot.unset).toArray = ls at hl ⊢
  have hl : lv_has ls 1 [(0, .int 115)] := hl
  refine lv_iload_n hx hb dJ1_canEncode_9a6ad_0 rfl (lv_at hl 0 rfl) ?_
  refine lv_if_lt (tgt := 15) hx hb dJ1_canEncode_9a6ad_1 (by decide) (fun c_1 => absurd c_1 (by decide)) (fun c_1 => ?_)
  refine lv_iload_n hx hb dJ1_canEncode_9a6ad_4 rfl (lv_at hl 0 rfl) ?_
  refine lv_sipush (v := 255) hx hb dJ1_canEncode_9a6ad_5 (by decide) ?_
  refine lv_icmp_gt (tgt := 15) hx hb dJ1_canEncode_9a6ad_8 (by decide) (fun c_2 => absurd c_2 (by decide)) (fun c_2 => ?_)
  refine lv_iconst (v := 1) hx hb dJ1_canEncode_9a6ad_11 (by decide) ?_
  refine lv_goto (tgt := 16) hx hb dJ1_canEncode_9a6ad_12 (by decide) ?_
  have hP9 := hP.sub (ws' := []) [] rfl
  have hD9 := hD.sub (ws' := []) [] (by decide) rfl
  refine W.widen (k := 0) (n := 0) (Nat.le_of_ble_eq_true rfl) (Nat.le_of_ble_eq_true rfl) ?_
  exact W.zret (v := 1) hx hb hr rfl (fun t ht hW => ⟨⟨1, [], rfl, ⟨rfl, rfl⟩, by rw [ht]; exact hP9, va_K.moved hW.alike hK, hD9⟩, hS.F ht⟩) hS.2.2 dJ1_canEncode_9a6ad_16

set_option maxHeartbeats 4000000 in
set_option maxRecDepth 100000 in
theorem c_idxChar_s (l : Launch) (hfl : l.stackTraces = false) (g : GP)   : CI l yJ1_indexOfChar_4cfef (wG yJ1_indexOfChar_4cfef cJ1_indexOfChar_4cfef 6 (Option.some Jvm.ClassFile.FieldType.int)) (LV 1 0 0) g [.ref (g.2.2 23), .int 115, .int 0, .int 5] ([]) (fun (r : Int32) (u : va_W) => r = 3 ∧ u = []) := by
  intro sz
  refine Met.ofW (cc := cJ1_indexOfChar_4cfef) (maxL := 6) (ret := (Option.some Jvm.ClassFile.FieldType.int)) (by decide) rfl ?_
  intro p e s m args below meth c s₁ B hml hv
  obtain ⟨rfl, hsz, hP, hK, hD0, hT0⟩ := hv
  have hx := B.exec
  have hb := B.bytes
  have hr := B.returns
  have hts := atoms_spec (ws := (wG yJ1_indexOfChar_4cfef cJ1_indexOfChar_4cfef 6 (Option.some Jvm.ClassFile.FieldType.int))) B.pre
  have htg : ∀ w ∈ G9, w.before _ s = true := fun w h => hts w (List.mem_cons_of_mem _ h)
  have hown : s.vm.findClass "java/lang/StringLatin1" = some m.cls := findClass_of_methodNamed B.named
  have hlocks := B.notSynchronized
  subst hsz
  have hD := hD0.self (sz := s.heap.size)
  have hT := hT0
  clear hT0
  generalize hAe : va_A [] s.heap.size = A at hD hT ⊢
  have hA : ∀ q : Nat, s.heap.size ≤ q → A q := fun q h => by rw [← hAe]; exact Or.inr h
  obtain ⟨H, hH0⟩ : ∃ H, H = s.heap := ⟨_, rfl⟩
  have hS : va_S A s.heap H [] := by rw [hH0]; exact va_S.rf
  have hP : va_P g.1 CLS [] H := by rw [hH0]; exact hP
  rw [← hH0]
  have hl := lv_entry ([.ref (g.2.2 23), .int 115, .int 0, .int 5]) (n := 6) (Nat.le_of_ble_eq_true rfl)
  rw [lg_entry_eq]
  generalize (lg_sl ([.ref (g.2.2 23), .int 115, .int 0, .int 5]) ++ List.replicate (6 - (lg_sl ([.ref (g.2.2 23), .int 115, .int 0, .int 5])).length) Slot.unset).toArray = ls at hl ⊢
  have hl : lv_has ls 6 [(0, .ref (g.2.2 23)), (1, .int 115), (2, .int 0), (3, .int 5)] := hl
  refine lv_iload_n hx hb dJ1_indexOfChar_4cfef_0 rfl (lv_at hl 1 rfl) ?_
  refine lv_i2b (v := 115) hx hb dJ1_indexOfChar_4cfef_1 (by decide) ?_
  refine lv_istore (lv' := [(4, .int 115), (0, .ref (g.2.2 23)), (1, .int 115), (2, .int 0), (3, .int 5)]) hx hb dJ1_indexOfChar_4cfef_2 hl (by decide) rfl (fun ls hl => ?_)
  refine lv_iload_n hx hb dJ1_indexOfChar_4cfef_4 rfl (lv_at hl 3 rfl) ?_
  refine lv_istore (lv' := [(5, .int 0), (4, .int 115), (0, .ref (g.2.2 23)), (1, .int 115), (2, .int 0), (3, .int 5)]) hx hb dJ1_indexOfChar_4cfef_5 hl (by decide) rfl (fun ls hl => ?_)
  refine lv_iload hx hb dJ1_indexOfChar_4cfef_7 (lv_at hl 0 rfl) ?_
  refine lv_iload_n hx hb dJ1_indexOfChar_4cfef_9 rfl (lv_at hl 5 rfl) ?_
  refine lv_icmp_ge (tgt := 31) hx hb dJ1_indexOfChar_4cfef_10 (by decide) (fun c_1 => absurd c_1 (by decide)) (fun c_1 => ?_)
  refine lv_aload_n hx hb dJ1_indexOfChar_4cfef_13 rfl (lv_at hl 2 rfl) ?_
  refine lv_iload hx hb dJ1_indexOfChar_4cfef_14 (lv_at hl 0 rfl) ?_
  refine va_tb hx hb (hT.2.2.1.2.2.2.2) hS (i := 0) (vp_in_iff.mpr (by decide)) (v := .int 97) rfl dJ1_indexOfChar_4cfef_16 ?_
  refine lv_iload hx hb dJ1_indexOfChar_4cfef_17 (lv_at hl 1 rfl) ?_
  refine lv_icmp_ne (tgt := 25) hx hb dJ1_indexOfChar_4cfef_19 (by decide) (fun c_2 => ?_) (fun c_2 => absurd c_2 (by decide))
  refine lv_iinc (v := 1) (lv' := [(5, .int 1), (4, .int 115), (0, .ref (g.2.2 23)), (1, .int 115), (2, .int 0), (3, .int 5)]) hx hb dJ1_indexOfChar_4cfef_25 hl (k := 0) rfl (by decide) (by decide) rfl (fun ls hl => ?_)
  refine lv_goto (tgt := 7) hx hb dJ1_indexOfChar_4cfef_28 (by decide) ?_
  refine lv_iload hx hb dJ1_indexOfChar_4cfef_7 (lv_at hl 0 rfl) ?_
  refine lv_iload_n hx hb dJ1_indexOfChar_4cfef_9 rfl (lv_at hl 5 rfl) ?_
  refine lv_icmp_ge (tgt := 31) hx hb dJ1_indexOfChar_4cfef_10 (by decide) (fun c_3 => absurd c_3 (by decide)) (fun c_3 => ?_)
  refine lv_aload_n hx hb dJ1_indexOfChar_4cfef_13 rfl (lv_at hl 2 rfl) ?_
  refine lv_iload hx hb dJ1_indexOfChar_4cfef_14 (lv_at hl 0 rfl) ?_
  refine va_tb hx hb (hT.2.2.1.2.2.2.2) hS (i := 1) (vp_in_iff.mpr (by decide)) (v := .int 116) rfl dJ1_indexOfChar_4cfef_16 ?_
  refine lv_iload hx hb dJ1_indexOfChar_4cfef_17 (lv_at hl 1 rfl) ?_
  refine lv_icmp_ne (tgt := 25) hx hb dJ1_indexOfChar_4cfef_19 (by decide) (fun c_4 => ?_) (fun c_4 => absurd c_4 (by decide))
  refine lv_iinc (v := 2) (lv' := [(5, .int 2), (4, .int 115), (0, .ref (g.2.2 23)), (1, .int 115), (2, .int 0), (3, .int 5)]) hx hb dJ1_indexOfChar_4cfef_25 hl (k := 0) rfl (by decide) (by decide) rfl (fun ls hl => ?_)
  refine lv_goto (tgt := 7) hx hb dJ1_indexOfChar_4cfef_28 (by decide) ?_
  refine lv_iload hx hb dJ1_indexOfChar_4cfef_7 (lv_at hl 0 rfl) ?_
  refine lv_iload_n hx hb dJ1_indexOfChar_4cfef_9 rfl (lv_at hl 5 rfl) ?_
  refine lv_icmp_ge (tgt := 31) hx hb dJ1_indexOfChar_4cfef_10 (by decide) (fun c_5 => absurd c_5 (by decide)) (fun c_5 => ?_)
  refine lv_aload_n hx hb dJ1_indexOfChar_4cfef_13 rfl (lv_at hl 2 rfl) ?_
  refine lv_iload hx hb dJ1_indexOfChar_4cfef_14 (lv_at hl 0 rfl) ?_
  refine va_tb hx hb (hT.2.2.1.2.2.2.2) hS (i := 2) (vp_in_iff.mpr (by decide)) (v := .int 100) rfl dJ1_indexOfChar_4cfef_16 ?_
  refine lv_iload hx hb dJ1_indexOfChar_4cfef_17 (lv_at hl 1 rfl) ?_
  refine lv_icmp_ne (tgt := 25) hx hb dJ1_indexOfChar_4cfef_19 (by decide) (fun c_6 => ?_) (fun c_6 => absurd c_6 (by decide))
  refine lv_iinc (v := 3) (lv' := [(5, .int 3), (4, .int 115), (0, .ref (g.2.2 23)), (1, .int 115), (2, .int 0), (3, .int 5)]) hx hb dJ1_indexOfChar_4cfef_25 hl (k := 0) rfl (by decide) (by decide) rfl (fun ls hl => ?_)
  refine lv_goto (tgt := 7) hx hb dJ1_indexOfChar_4cfef_28 (by decide) ?_
  refine lv_iload hx hb dJ1_indexOfChar_4cfef_7 (lv_at hl 0 rfl) ?_
  refine lv_iload_n hx hb dJ1_indexOfChar_4cfef_9 rfl (lv_at hl 5 rfl) ?_
  refine lv_icmp_ge (tgt := 31) hx hb dJ1_indexOfChar_4cfef_10 (by decide) (fun c_7 => absurd c_7 (by decide)) (fun c_7 => ?_)
  refine lv_aload_n hx hb dJ1_indexOfChar_4cfef_13 rfl (lv_at hl 2 rfl) ?_
  refine lv_iload hx hb dJ1_indexOfChar_4cfef_14 (lv_at hl 0 rfl) ?_
  refine va_tb hx hb (hT.2.2.1.2.2.2.2) hS (i := 3) (vp_in_iff.mpr (by decide)) (v := .int 115) rfl dJ1_indexOfChar_4cfef_16 ?_
  refine lv_iload hx hb dJ1_indexOfChar_4cfef_17 (lv_at hl 1 rfl) ?_
  refine lv_icmp_ne (tgt := 25) hx hb dJ1_indexOfChar_4cfef_19 (by decide) (fun c_8 => absurd (by decide) c_8) (fun c_8 => ?_)
  refine lv_iload hx hb dJ1_indexOfChar_4cfef_22 (lv_at hl 0 rfl) ?_
  have hP9 := hP.sub (ws' := []) [] rfl
  have hD9 := hD.sub (ws' := []) [] (by decide) rfl
  refine W.widen (k := 0) (n := 0) (Nat.le_of_ble_eq_true rfl) (Nat.le_of_ble_eq_true rfl) ?_
  exact W.iret (v := 3) hx hb hr (fun t ht hW => ⟨⟨3, [], rfl, ⟨rfl, rfl⟩, by rw [ht]; exact hP9, va_K.moved hW.alike hK, hD9⟩, hS.F ht⟩) hS.2.2 dJ1_indexOfChar_4cfef_24

set_option maxHeartbeats 4000000 in
set_option maxRecDepth 100000 in
theorem c_idx4_s (l : Launch) (hfl : l.stackTraces = false) (g : GP)   : CI l yJ1_indexOf_4cfef (wG yJ1_indexOf_4cfef cJ1_indexOf_4cfef 4 (Option.some Jvm.ClassFile.FieldType.int)) (LV 2 0 0) g [.ref (g.2.2 23), .int 115, .int 0, .int 5] ([]) (fun (r : Int32) (u : va_W) => r = 3 ∧ u = []) := by
  intro sz
  refine Met.ofW (cc := cJ1_indexOf_4cfef) (maxL := 4) (ret := (Option.some Jvm.ClassFile.FieldType.int)) (by decide) rfl ?_
  intro p e s m args below meth c s₁ B hml hv
  obtain ⟨rfl, hsz, hP, hK, hD0, hT0⟩ := hv
  have hx := B.exec
  have hb := B.bytes
  have hr := B.returns
  have hts := atoms_spec (ws := (wG yJ1_indexOf_4cfef cJ1_indexOf_4cfef 4 (Option.some Jvm.ClassFile.FieldType.int))) B.pre
  have htg : ∀ w ∈ G9, w.before _ s = true := fun w h => hts w (List.mem_cons_of_mem _ h)
  have hown : s.vm.findClass "java/lang/StringLatin1" = some m.cls := findClass_of_methodNamed B.named
  have hlocks := B.notSynchronized
  subst hsz
  have hD := hD0.self (sz := s.heap.size)
  have hT := hT0
  clear hT0
  generalize hAe : va_A [] s.heap.size = A at hD hT ⊢
  have hA : ∀ q : Nat, s.heap.size ≤ q → A q := fun q h => by rw [← hAe]; exact Or.inr h
  obtain ⟨H, hH0⟩ : ∃ H, H = s.heap := ⟨_, rfl⟩
  have hS : va_S A s.heap H [] := by rw [hH0]; exact va_S.rf
  have hP : va_P g.1 CLS [] H := by rw [hH0]; exact hP
  rw [← hH0]
  have hl := lv_entry ([.ref (g.2.2 23), .int 115, .int 0, .int 5]) (n := 4) (Nat.le_of_ble_eq_true rfl)
  rw [lg_entry_eq]
  generalize (lg_sl ([.ref (g.2.2 23), .int 115, .int 0, .int 5]) ++ List.replicate (4 - (lg_sl ([.ref (g.2.2 23), .int 115, .int 0, .int 5])).length) Slot.unset).toArray = ls at hl ⊢
  have hl : lv_has ls 4 [(0, .ref (g.2.2 23)), (1, .int 115), (2, .int 0), (3, .int 5)] := hl
  refine lv_iload_n hx hb dJ1_indexOf_4cfef_0 rfl (lv_at hl 1 rfl) ?_
  have hPc := hP.sub (ws' := []) [] rfl
  have hDc := hD.sub (ws' := []) [] (by decide) rfl
  have hFc := va_free (wc := []) hD hS hA [] rfl
  refine q_ci (wr := []) (va_runS (As := [.int 115]) (rest := []) ⟨hx, hb, hml, hown, htg⟩ (c_canEnc_s l hfl g   H.size) ⟨(qB htg k452 k78 k450 ok_J1_canEncode_9a6ad rfl rfl ⟨Nat.le_of_ble_eq_true rfl, Nat.le_of_ble_eq_true rfl⟩), htg _ k451⟩ (q_pre [.int 115] hPc hDc hK hS hT hFc) rfl rfl hl.1 rfl (lv_room (Nat.le_of_ble_eq_true rfl)) dJ1_indexOf_4cfef_1 ⟨Nat.le_of_ble_eq_true rfl, Nat.le_of_ble_eq_true rfl⟩) hP hD hS hFc [] [] rfl rfl (by decide) (by decide) (fun r9 u9 H locs hw hP hD hS => ?_)
  try dsimp only at hw
  rcases hw with ⟨rfl, rfl⟩
  have hP : va_P g.1 CLS [] H := hP
  have hD : va_D A [] := hD
  refine W.widen (k := 0) (n := 0) (Nat.le_of_ble_eq_true rfl) (Nat.le_of_ble_eq_true rfl) ?_
  refine lv_if_ne (tgt := 9) hx hb dJ1_indexOf_4cfef_4 (by decide) (fun c_1 => ?_) (fun c_1 => absurd c_1 (by decide))
  refine lv_iload_n hx hb dJ1_indexOf_4cfef_9 rfl (lv_at hl 2 rfl) ?_
  refine lv_iconst (v := 0) hx hb dJ1_indexOf_4cfef_10 (by decide) ?_
  refine va_mmax hx hb (by rw [hl.1]; exact hml) (own := "java/lang/StringLatin1") (index := 92) hown (htg _ k453) (htg _ k454) (htg _ k72) (htg _ k455) (Nat.le_of_ble_eq_true rfl) (Nat.le_of_ble_eq_true rfl) (Nat.le_of_ble_eq_true rfl) (Nat.le_of_ble_eq_true rfl) dJ1_indexOf_4cfef_11 ?_
  refine lv_topi (fun x_2 ex_2 => ?_)
  obtain rfl : x_2 = 0 := ex_2.trans (by decide)
  refine lv_istore_n (lv' := [(2, .int 0), (0, .ref (g.2.2 23)), (1, .int 115), (3, .int 5)]) hx hb dJ1_indexOf_4cfef_14 rfl hl (by decide) rfl (fun ls hl => ?_)
  refine lv_iload_n hx hb dJ1_indexOf_4cfef_15 rfl (lv_at hl 3 rfl) ?_
  refine lv_aload_n hx hb dJ1_indexOf_4cfef_16 rfl (lv_at hl 1 rfl) ?_
  refine va_tlen (v := 5) hx hb (hT.2.2.1.2.2.2.2) hS rfl dJ1_indexOf_4cfef_17 ?_
  refine va_mmin hx hb (by rw [hl.1]; exact hml) (own := "java/lang/StringLatin1") (index := 38) hown (htg _ k456) (htg _ k457) (htg _ k72) (htg _ k458) (Nat.le_of_ble_eq_true rfl) (Nat.le_of_ble_eq_true rfl) (Nat.le_of_ble_eq_true rfl) (Nat.le_of_ble_eq_true rfl) dJ1_indexOf_4cfef_18 ?_
  refine lv_topi (fun x_3 ex_3 => ?_)
  obtain rfl : x_3 = 5 := ex_3.trans (by decide)
  refine lv_istore_n (lv' := [(3, .int 5), (2, .int 0), (0, .ref (g.2.2 23)), (1, .int 115)]) hx hb dJ1_indexOf_4cfef_21 rfl hl (by decide) rfl (fun ls hl => ?_)
  refine lv_iload_n hx hb dJ1_indexOf_4cfef_22 rfl (lv_at hl 1 rfl) ?_
  refine lv_iload_n hx hb dJ1_indexOf_4cfef_23 rfl (lv_at hl 0 rfl) ?_
  refine lv_icmp_lt (tgt := 29) hx hb dJ1_indexOf_4cfef_24 (by decide) (fun c_4 => ?_) (fun c_4 => absurd (by decide) c_4)
  refine lv_aload_n hx hb dJ1_indexOf_4cfef_29 rfl (lv_at hl 2 rfl) ?_
  refine lv_iload_n hx hb dJ1_indexOf_4cfef_30 rfl (lv_at hl 3 rfl) ?_
  refine lv_iload_n hx hb dJ1_indexOf_4cfef_31 rfl (lv_at hl 1 rfl) ?_
  refine lv_iload_n hx hb dJ1_indexOf_4cfef_32 rfl (lv_at hl 0 rfl) ?_
  have hPc := hP.sub (ws' := []) [] rfl
  have hDc := hD.sub (ws' := []) [] (by decide) rfl
  have hFc := va_free (wc := []) hD hS hA [] rfl
  refine q_ci (wr := []) (va_runS (As := [.ref (g.2.2 23), .int 115, .int 0, .int 5]) (rest := []) ⟨hx, hb, hml, hown, htg⟩ (c_idxChar_s l hfl g   H.size) ⟨(qB htg k461 k78 k459 ok_J1_indexOfChar_4cfef rfl rfl ⟨Nat.le_of_ble_eq_true rfl, Nat.le_of_ble_eq_true rfl⟩), htg _ k460⟩ (q_pre [.ref (g.2.2 23), .int 115, .int 0, .int 5] hPc hDc hK hS hT hFc) rfl rfl hl.1 rfl (lv_room (Nat.le_of_ble_eq_true rfl)) dJ1_indexOf_4cfef_33 ⟨Nat.le_of_ble_eq_true rfl, Nat.le_of_ble_eq_true rfl⟩) hP hD hS hFc [] [] rfl rfl (by decide) (by decide) (fun r9 u9 H locs hw hP hD hS => ?_)
  try dsimp only at hw
  rcases hw with ⟨rfl, rfl⟩
  have hP : va_P g.1 CLS [] H := hP
  have hD : va_D A [] := hD
  refine W.widen (k := 0) (n := 0) (Nat.le_of_ble_eq_true rfl) (Nat.le_of_ble_eq_true rfl) ?_
  have hP9 := hP.sub (ws' := []) [] rfl
  have hD9 := hD.sub (ws' := []) [] (by decide) rfl
  refine W.widen (k := 0) (n := 0) (Nat.le_of_ble_eq_true rfl) (Nat.le_of_ble_eq_true rfl) ?_
  exact W.iret (v := 3) hx hb hr (fun t ht hW => ⟨⟨3, [], rfl, ⟨rfl, rfl⟩, by rw [ht]; exact hP9, va_K.moved hW.alike hK, hD9⟩, hS.F ht⟩) hS.2.2 dJ1_indexOf_4cfef_36

set_option maxHeartbeats 4000000 in
set_option maxRecDepth 100000 in
theorem c_idx2_s (l : Launch) (hfl : l.stackTraces = false) (g : GP)   : CI l yJ0_indexOf_7cf53 (wG yJ0_indexOf_7cf53 cJ0_indexOf_7cf53 3 (Option.some Jvm.ClassFile.FieldType.int)) (LV 3 0 0) g [.ref (g.2.2 13), .int 115, .int 0] ([]) (fun (r : Int32) (u : va_W) => r = 3 ∧ u = []) := by
  intro sz
  refine Met.ofW (cc := cJ0_indexOf_7cf53) (maxL := 3) (ret := (Option.some Jvm.ClassFile.FieldType.int)) (by decide) rfl ?_
  intro p e s m args below meth c s₁ B hml hv
  obtain ⟨rfl, hsz, hP, hK, hD0, hT0⟩ := hv
  have hx := B.exec
  have hb := B.bytes
  have hr := B.returns
  have hts := atoms_spec (ws := (wG yJ0_indexOf_7cf53 cJ0_indexOf_7cf53 3 (Option.some Jvm.ClassFile.FieldType.int))) B.pre
  have htg : ∀ w ∈ G9, w.before _ s = true := fun w h => hts w (List.mem_cons_of_mem _ h)
  have hown : s.vm.findClass "java/lang/String" = some m.cls := findClass_of_methodNamed B.named
  have hlocks := B.notSynchronized
  subst hsz
  have hD := hD0.self (sz := s.heap.size)
  have hT := hT0
  clear hT0
  generalize hAe : va_A [] s.heap.size = A at hD hT ⊢
  have hA : ∀ q : Nat, s.heap.size ≤ q → A q := fun q h => by rw [← hAe]; exact Or.inr h
  obtain ⟨H, hH0⟩ : ∃ H, H = s.heap := ⟨_, rfl⟩
  have hS : va_S A s.heap H [] := by rw [hH0]; exact va_S.rf
  have hP : va_P g.1 CLS [] H := by rw [hH0]; exact hP
  rw [← hH0]
  have hl := lv_entry ([.ref (g.2.2 13), .int 115, .int 0]) (n := 3) (Nat.le_of_ble_eq_true rfl)
  rw [lg_entry_eq]
  generalize (lg_sl ([.ref (g.2.2 13), .int 115, .int 0]) ++ List.replicate (3 - (lg_sl ([.ref (g.2.2 13), .int 115, .int 0])).length) Slot.unset).toArray = ls at hl ⊢
  have hl : lv_has ls 3 [(0, .ref (g.2.2 13)), (1, .int 115), (2, .int 0)] := hl
  refine lv_aload_n hx hb dJ0_indexOf_7cf53_0 rfl (lv_at hl 0 rfl) ?_
  have hPc := hP.sub (ws' := []) [] rfl
  have hDc := hD.sub (ws' := []) [] (by decide) rfl
  have hFc := va_free (wc := []) hD hS hA [] rfl
  refine q_ci (wr := []) (va_runV (As := []) (rest := []) ⟨hx, hb, hml, hown, htg⟩ (c_isLatin1 l hfl g   H.size) ⟨(qB htg k436 k77 k433 ok_J0_isLatin1_aae02 rfl rfl ⟨Nat.le_of_ble_eq_true rfl, Nat.le_of_ble_eq_true rfl⟩), htg _ k434, htg _ k435⟩ ⟨(q_pre [.ref (g.2.2 13)] hPc hDc hK hS hT hFc).1, va_Orecv (hT.2.2.1.2.1) hS, (q_pre [.ref (g.2.2 13)] hPc hDc hK hS hT hFc).2⟩ rfl rfl hl.1 rfl (lv_room (Nat.le_of_ble_eq_true rfl)) dJ0_indexOf_7cf53_1 ⟨Nat.le_of_ble_eq_true rfl, Nat.le_of_ble_eq_true rfl⟩) hP hD hS hFc [] [] rfl rfl (by decide) (by decide) (fun r9 u9 H locs hw hP hD hS => ?_)
  try dsimp only at hw
  rcases hw with ⟨rfl, rfl⟩
  have hP : va_P g.1 CLS [] H := hP
  have hD : va_D A [] := hD
  refine W.widen (k := 0) (n := 0) (Nat.le_of_ble_eq_true rfl) (Nat.le_of_ble_eq_true rfl) ?_
  refine lv_if_eq (tgt := 23) hx hb dJ0_indexOf_7cf53_4 (by decide) (fun c_1 => absurd c_1 (by decide)) (fun c_1 => ?_)
  refine lv_aload_n hx hb dJ0_indexOf_7cf53_7 rfl (lv_at hl 0 rfl) ?_
  refine vk_getf (v := .ref (g.2.2 23)) hx hb (hT.2.2.1.2.2.2.1) hS hown (htg _ k2089) (fun _ h9 => h9) dJ0_indexOf_7cf53_8 ?_
  refine lv_iload_n hx hb dJ0_indexOf_7cf53_11 rfl (lv_at hl 1 rfl) ?_
  refine lv_iload_n hx hb dJ0_indexOf_7cf53_12 rfl (lv_at hl 2 rfl) ?_
  refine lv_aload_n hx hb dJ0_indexOf_7cf53_13 rfl (lv_at hl 0 rfl) ?_
  have hPc := hP.sub (ws' := []) [] rfl
  have hDc := hD.sub (ws' := []) [] (by decide) rfl
  have hFc := va_free (wc := []) hD hS hA [] rfl
  refine q_ci (wr := []) (va_runV (As := []) (rest := [.int 0, .int 115, .ref (g.2.2 23)]) ⟨hx, hb, hml, hown, htg⟩ (c_length l hfl g   H.size) ⟨(qB htg k442 k77 k439 ok_J0_length_8abf5 rfl rfl ⟨Nat.le_of_ble_eq_true rfl, Nat.le_of_ble_eq_true rfl⟩), htg _ k440, htg _ k441⟩ ⟨(q_pre [.ref (g.2.2 13)] hPc hDc hK hS hT hFc).1, va_Orecv (hT.2.2.1.2.1) hS, (q_pre [.ref (g.2.2 13)] hPc hDc hK hS hT hFc).2⟩ rfl rfl hl.1 rfl (lv_room (Nat.le_of_ble_eq_true rfl)) dJ0_indexOf_7cf53_14 ⟨Nat.le_of_ble_eq_true rfl, Nat.le_of_ble_eq_true rfl⟩) hP hD hS hFc [] [] rfl rfl (by decide) (by decide) (fun r9 u9 H locs hw hP hD hS => ?_)
  try dsimp only at hw
  rcases hw with ⟨rfl, rfl⟩
  have hP : va_P g.1 CLS [] H := hP
  have hD : va_D A [] := hD
  refine W.widen (k := 0) (n := 0) (Nat.le_of_ble_eq_true rfl) (Nat.le_of_ble_eq_true rfl) ?_
  have hPc := hP.sub (ws' := []) [] rfl
  have hDc := hD.sub (ws' := []) [] (by decide) rfl
  have hFc := va_free (wc := []) hD hS hA [] rfl
  refine q_ci (wr := []) (va_runS (As := [.ref (g.2.2 23), .int 115, .int 0, .int 5]) (rest := []) ⟨hx, hb, hml, hown, htg⟩ (c_idx4_s l hfl g   H.size) ⟨(qB htg k449 k78 k447 ok_J1_indexOf_4cfef rfl rfl ⟨Nat.le_of_ble_eq_true rfl, Nat.le_of_ble_eq_true rfl⟩), htg _ k448⟩ (q_pre [.ref (g.2.2 23), .int 115, .int 0, .int 5] hPc hDc hK hS hT hFc) rfl rfl hl.1 rfl (lv_room (Nat.le_of_ble_eq_true rfl)) dJ0_indexOf_7cf53_17 ⟨Nat.le_of_ble_eq_true rfl, Nat.le_of_ble_eq_true rfl⟩) hP hD hS hFc [] [] rfl rfl (by decide) (by decide) (fun r9 u9 H locs hw hP hD hS => ?_)
  try dsimp only at hw
  rcases hw with ⟨rfl, rfl⟩
  have hP : va_P g.1 CLS [] H := hP
  have hD : va_D A [] := hD
  refine W.widen (k := 0) (n := 0) (Nat.le_of_ble_eq_true rfl) (Nat.le_of_ble_eq_true rfl) ?_
  refine lv_goto (tgt := 36) hx hb dJ0_indexOf_7cf53_20 (by decide) ?_
  have hP9 := hP.sub (ws' := []) [] rfl
  have hD9 := hD.sub (ws' := []) [] (by decide) rfl
  refine W.widen (k := 0) (n := 0) (Nat.le_of_ble_eq_true rfl) (Nat.le_of_ble_eq_true rfl) ?_
  exact W.iret (v := 3) hx hb hr (fun t ht hW => ⟨⟨3, [], rfl, ⟨rfl, rfl⟩, by rw [ht]; exact hP9, va_K.moved hW.alike hK, hD9⟩, hS.F ht⟩) hS.2.2 dJ0_indexOf_7cf53_36

set_option maxHeartbeats 4000000 in
set_option maxRecDepth 100000 in
theorem c_idx1_s (l : Launch) (hfl : l.stackTraces = false) (g : GP)   : CI l yJ0_indexOf_0f7a4 (wG yJ0_indexOf_0f7a4 cJ0_indexOf_0f7a4 2 (Option.some Jvm.ClassFile.FieldType.int)) (LV 4 0 0) g [.ref (g.2.2 13), .int 115] ([]) (fun (r : Int32) (u : va_W) => r = 3 ∧ u = []) := by
  intro sz
  refine Met.ofW (cc := cJ0_indexOf_0f7a4) (maxL := 2) (ret := (Option.some Jvm.ClassFile.FieldType.int)) (by decide) rfl ?_
  intro p e s m args below meth c s₁ B hml hv
  obtain ⟨rfl, hsz, hP, hK, hD0, hT0⟩ := hv
  have hx := B.exec
  have hb := B.bytes
  have hr := B.returns
  have hts := atoms_spec (ws := (wG yJ0_indexOf_0f7a4 cJ0_indexOf_0f7a4 2 (Option.some Jvm.ClassFile.FieldType.int))) B.pre
  have htg : ∀ w ∈ G9, w.before _ s = true := fun w h => hts w (List.mem_cons_of_mem _ h)
  have hown : s.vm.findClass "java/lang/String" = some m.cls := findClass_of_methodNamed B.named
  have hlocks := B.notSynchronized
  subst hsz
  have hD := hD0.self (sz := s.heap.size)
  have hT := hT0
  clear hT0
  generalize hAe : va_A [] s.heap.size = A at hD hT ⊢
  have hA : ∀ q : Nat, s.heap.size ≤ q → A q := fun q h => by rw [← hAe]; exact Or.inr h
  obtain ⟨H, hH0⟩ : ∃ H, H = s.heap := ⟨_, rfl⟩
  have hS : va_S A s.heap H [] := by rw [hH0]; exact va_S.rf
  have hP : va_P g.1 CLS [] H := by rw [hH0]; exact hP
  rw [← hH0]
  have hl := lv_entry ([.ref (g.2.2 13), .int 115]) (n := 2) (Nat.le_of_ble_eq_true rfl)
  rw [lg_entry_eq]
  generalize (lg_sl ([.ref (g.2.2 13), .int 115]) ++ List.replicate (2 - (lg_sl ([.ref (g.2.2 13), .int 115])).length) Slot.unset).toArray = ls at hl ⊢
  have hl : lv_has ls 2 [(0, .ref (g.2.2 13)), (1, .int 115)] := hl
  refine lv_aload_n hx hb dJ0_indexOf_0f7a4_0 rfl (lv_at hl 0 rfl) ?_
  refine lv_iload_n hx hb dJ0_indexOf_0f7a4_1 rfl (lv_at hl 1 rfl) ?_
  refine lv_iconst (v := 0) hx hb dJ0_indexOf_0f7a4_2 (by decide) ?_
  have hPc := hP.sub (ws' := []) [] rfl
  have hDc := hD.sub (ws' := []) [] (by decide) rfl
  have hFc := va_free (wc := []) hD hS hA [] rfl
  refine q_ci (wr := []) (va_runV (As := [.int 115, .int 0]) (rest := []) ⟨hx, hb, hml, hown, htg⟩ (c_idx2_s l hfl g   H.size) ⟨(qB htg k432 k77 k429 ok_J0_indexOf_7cf53 rfl rfl ⟨Nat.le_of_ble_eq_true rfl, Nat.le_of_ble_eq_true rfl⟩), htg _ k430, htg _ k431⟩ ⟨(q_pre [.ref (g.2.2 13), .int 115, .int 0] hPc hDc hK hS hT hFc).1, va_Orecv (hT.2.2.1.2.1) hS, (q_pre [.ref (g.2.2 13), .int 115, .int 0] hPc hDc hK hS hT hFc).2⟩ rfl rfl hl.1 rfl (lv_room (Nat.le_of_ble_eq_true rfl)) dJ0_indexOf_0f7a4_3 ⟨Nat.le_of_ble_eq_true rfl, Nat.le_of_ble_eq_true rfl⟩) hP hD hS hFc [] [] rfl rfl (by decide) (by decide) (fun r9 u9 H locs hw hP hD hS => ?_)
  try dsimp only at hw
  rcases hw with ⟨rfl, rfl⟩
  have hP : va_P g.1 CLS [] H := hP
  have hD : va_D A [] := hD
  refine W.widen (k := 0) (n := 0) (Nat.le_of_ble_eq_true rfl) (Nat.le_of_ble_eq_true rfl) ?_
  have hP9 := hP.sub (ws' := []) [] rfl
  have hD9 := hD.sub (ws' := []) [] (by decide) rfl
  refine W.widen (k := 0) (n := 0) (Nat.le_of_ble_eq_true rfl) (Nat.le_of_ble_eq_true rfl) ?_
  exact W.iret (v := 3) hx hb hr (fun t ht hW => ⟨⟨3, [], rfl, ⟨rfl, rfl⟩, by rw [ht]; exact hP9, va_K.moved hW.alike hK, hD9⟩, hS.F ht⟩) hS.2.2 dJ0_indexOf_0f7a4_6

set_option maxHeartbeats 4000000 in
set_option maxRecDepth 100000 in
theorem c_Itr_init (l : Launch) (hfl : l.stackTraces = false) (g : GP) (z0 : Nat)  : CV l yJx35411_init_45d68 (wG yJx35411_init_45d68 cJx35411_init_45d68 2 (Option.none : Option Jvm.ClassFile.FieldType)) (LV 2 0 0) g [.ref z0, .ref (g.2.2 2002)] ([(z0, .inr (0, [.int 0, .int 0, .int 0, .null]))]) (fun (u : va_W) => u = [(z0, .inr (0, [.int 0, .int (-1), .int (nI (g.2.2 2012)), .ref (g.2.2 2002)]))]) := by
  intro sz
  refine Met.ofW (cc := cJx35411_init_45d68) (maxL := 2) (ret := (Option.none : Option Jvm.ClassFile.FieldType)) (by decide) rfl ?_
  intro p e s m args below meth c s₁ B hml hv
  obtain ⟨rfl, hsz, hP, hK, hD0, hT0⟩ := hv
  have hx := B.exec
  have hb := B.bytes
  have hr := B.returns
  have hts := atoms_spec (ws := (wG yJx35411_init_45d68 cJx35411_init_45d68 2 (Option.none : Option Jvm.ClassFile.FieldType))) B.pre
  have htg : ∀ w ∈ G9, w.before _ s = true := fun w h => hts w (List.mem_cons_of_mem _ h)
  have hown : s.vm.findClass "java/util/ArrayList$Itr" = some m.cls := findClass_of_methodNamed B.named
  have hlocks := B.notSynchronized
  have hin : meth.name = "<init>" := (name_of_methodNamed B.named B.method).1
  subst hsz
  have hD := hD0.self (sz := s.heap.size)
  have hT := hT0
  clear hT0
  generalize hAe : va_A [(z0, .inr (0, [.int 0, .int 0, .int 0, .null]))] s.heap.size = A at hD hT ⊢
  have hA : ∀ q : Nat, s.heap.size ≤ q → A q := fun q h => by rw [← hAe]; exact Or.inr h
  obtain ⟨H, hH0⟩ : ∃ H, H = s.heap := ⟨_, rfl⟩
  have hS : va_S A s.heap H [] := by rw [hH0]; exact va_S.rf
  have hP : va_P g.1 CLS [(z0, .inr (0, [.int 0, .int 0, .int 0, .null]))] H := by rw [hH0]; exact hP
  rw [← hH0]
  have hl := lv_entry ([.ref z0, .ref (g.2.2 2002)]) (n := 2) (Nat.le_of_ble_eq_true rfl)
  rw [lg_entry_eq]
  generalize (lg_sl ([.ref z0, .ref (g.2.2 2002)]) ++ List.replicate (2 - (lg_sl ([.ref z0, .ref (g.2.2 2002)])).length) Slot.unset).toArray = ls at hl ⊢
  have hl : lv_has ls 2 [(0, .ref z0), (1, .ref (g.2.2 2002))] := hl
  refine lv_aload_n hx hb dJx35411_init_45d68_0 rfl (lv_at hl 0 rfl) ?_
  refine lv_aload_n hx hb dJx35411_init_45d68_1 rfl (lv_at hl 1 rfl) ?_
  refine va_putF (D := g.1) (ci := 0) (v := .ref (g.2.2 2002)) (ty := (.object "java/util/ArrayList")) (C := RJx35411) (T := TJx35411) (N := 4) hx hb htg inG_Jx35411 tyJx35411 tyJx35411_ok nmJx35411 hown hK hP hD hS 0 rfl rfl 3 (by decide) (htg _ k1436) (fun _ h9 => h9) rfl hin rfl (by decide +kernel) rfl rfl (Nat.le_of_ble_eq_true rfl) dJx35411_init_45d68_2 (fun H locs hP hD hS => ?_)
  have hP : va_P g.1 CLS [(z0, .inr (0, [.int 0, .int 0, .int 0, .ref (g.2.2 2002)]))] H := hP
  have hD : va_D A [(z0, .inr (0, [.int 0, .int 0, .int 0, .ref (g.2.2 2002)]))] := hD
  refine lv_aload_n hx hb dJx35411_init_45d68_5 rfl (lv_at hl 0 rfl) ?_
  refine W.objInit hx hb hown (htg _ k1432) (htg _ k98) (htg _ k99) rfl (by rw [hml]; exact hl.1) rfl dJx35411_init_45d68_6 (Nat.le_of_ble_eq_true rfl) (Nat.le_of_ble_eq_true rfl) ?_
  refine W.eq (g2 := F0 m 9 ls []) rfl ?_
  refine lv_aload_n hx hb dJx35411_init_45d68_9 rfl (lv_at hl 0 rfl) ?_
  refine lv_iconst (v := (-1)) hx hb dJx35411_init_45d68_10 (by decide) ?_
  refine va_put (D := g.1) (ci := 0) (v := .int (-1)) (ty := .int) (C := RJx35411) (T := TJx35411) (N := 4) hx hb htg inG_Jx35411 tyJx35411 tyJx35411_ok nmJx35411 hown hK hP hD hS 0 rfl rfl 1 (by decide) (htg _ k1434) (fun _ h9 => h9) rfl (by decide +kernel) rfl rfl (Nat.le_of_ble_eq_true rfl) dJx35411_init_45d68_11 (fun H locs hP hD hS => ?_)
  have hP : va_P g.1 CLS [(z0, .inr (0, [.int 0, .int (-1), .int 0, .ref (g.2.2 2002)]))] H := hP
  have hD : va_D A [(z0, .inr (0, [.int 0, .int (-1), .int 0, .ref (g.2.2 2002)]))] := hD
  refine lv_aload_n hx hb dJx35411_init_45d68_14 rfl (lv_at hl 0 rfl) ?_
  refine lv_aload_n hx hb dJx35411_init_45d68_15 rfl (lv_at hl 0 rfl) ?_
  refine va_get (D := g.1) (ci := 0) (v := .ref (g.2.2 2002)) (C := RJx35411) (T := TJx35411) (N := 4) hx hb htg inG_Jx35411 hown hK hP 0 rfl rfl 3 (by decide) (htg _ k1436) (fun _ h9 => h9) rfl dJx35411_init_45d68_16 ?_
  refine vk_getf (v := .int (nI (g.2.2 2012))) hx hb (hT.2.2.2.2.1.2.2.2.1) hS hown (htg _ k1312) (fun _ h9 => h9) dJx35411_init_45d68_19 ?_
  refine va_put (D := g.1) (ci := 0) (v := .int (nI (g.2.2 2012))) (ty := .int) (C := RJx35411) (T := TJx35411) (N := 4) hx hb htg inG_Jx35411 tyJx35411 tyJx35411_ok nmJx35411 hown hK hP hD hS 0 rfl rfl 2 (by decide) (htg _ k1435) (fun _ h9 => h9) rfl (by decide +kernel) rfl rfl (Nat.le_of_ble_eq_true rfl) dJx35411_init_45d68_22 (fun H locs hP hD hS => ?_)
  have hP : va_P g.1 CLS [(z0, .inr (0, [.int 0, .int (-1), .int (nI (g.2.2 2012)), .ref (g.2.2 2002)]))] H := hP
  have hD : va_D A [(z0, .inr (0, [.int 0, .int (-1), .int (nI (g.2.2 2012)), .ref (g.2.2 2002)]))] := hD
  have hP9 := hP.sub (ws' := [(z0, .inr (0, [.int 0, .int (-1), .int (nI (g.2.2 2012)), .ref (g.2.2 2002)]))]) [0] rfl
  have hD9 := hD.sub (ws' := [(z0, .inr (0, [.int 0, .int (-1), .int (nI (g.2.2 2012)), .ref (g.2.2 2002)]))]) [0] (by decide) rfl
  refine W.widen (k := 0) (n := 0) (Nat.le_of_ble_eq_true rfl) (Nat.le_of_ble_eq_true rfl) ?_
  exact W.vret hx hb hr (fun t ht hW => ⟨⟨[(z0, .inr (0, [.int 0, .int (-1), .int (nI (g.2.2 2012)), .ref (g.2.2 2002)]))], rfl, rfl, by rw [ht]; exact hP9, va_K.moved hW.alike hK, hD9⟩, hS.F ht⟩) hS.2.2 dJx35411_init_45d68_25

set_option maxHeartbeats 4000000 in
set_option maxRecDepth 100000 in
theorem c_iterator (l : Launch) (hfl : l.stackTraces = false) (g : GP)   : CQ l yJx4a65c_iterator_32c93 (wG yJx4a65c_iterator_32c93 cJx4a65c_iterator_32c93 1 (Option.some (Jvm.ClassFile.FieldType.object "java/util/Iterator"))) (LV 3 1 4) g [.ref (g.2.2 2002)] ([]) (fun (r : Option Nat) (u : va_W) => ∃ (q1 : Nat), r = some q1 ∧ u = [(q1, .inr (0, [.int 0, .int (-1), .int (nI (g.2.2 2012)), .ref (g.2.2 2002)]))]) := by
  intro sz
  refine Met.ofW (cc := cJx4a65c_iterator_32c93) (maxL := 1) (ret := (Option.some (Jvm.ClassFile.FieldType.object "java/util/Iterator"))) (by decide) rfl ?_
  intro p e s m args below meth c s₁ B hml hv
  obtain ⟨rfl, hsz, hP, hK, hD0, hT0⟩ := hv
  have hx := B.exec
  have hb := B.bytes
  have hr := B.returns
  have hts := atoms_spec (ws := (wG yJx4a65c_iterator_32c93 cJx4a65c_iterator_32c93 1 (Option.some (Jvm.ClassFile.FieldType.object "java/util/Iterator")))) B.pre
  have htg : ∀ w ∈ G9, w.before _ s = true := fun w h => hts w (List.mem_cons_of_mem _ h)
  have hown : s.vm.findClass "java/util/ArrayList" = some m.cls := findClass_of_methodNamed B.named
  have hlocks := B.notSynchronized
  subst hsz
  have hD := hD0.self (sz := s.heap.size)
  have hT := hT0
  clear hT0
  generalize hAe : va_A [] s.heap.size = A at hD hT ⊢
  have hA : ∀ q : Nat, s.heap.size ≤ q → A q := fun q h => by rw [← hAe]; exact Or.inr h
  obtain ⟨H, hH0⟩ : ∃ H, H = s.heap := ⟨_, rfl⟩
  have hS : va_S A s.heap H [] := by rw [hH0]; exact va_S.rf
  have hP : va_P g.1 CLS [] H := by rw [hH0]; exact hP
  rw [← hH0]
  have hl := lv_entry ([.ref (g.2.2 2002)]) (n := 1) (Nat.le_of_ble_eq_true rfl)
  rw [lg_entry_eq]
  generalize (lg_sl ([.ref (g.2.2 2002)]) ++ List.replicate (1 - (lg_sl ([.ref (g.2.2 2002)])).length) Slot.unset).toArray = ls at hl ⊢
  have hl : lv_has ls 1 [(0, .ref (g.2.2 2002))] := hl
  refine va_new (ci := 0) (fs := [.int 0, .int 0, .int 0, .null]) (C := RJx35411) (T := TJx35411) (N := 4) hx hb htg inG_Jx35411 tyJx35411 tyJx35411_ok hown (htg _ k1427) (htg _ k1428) (htg _ k73) hK hP hD hS hA rfl (by decide) (Nat.le_of_ble_eq_true rfl) (Nat.le_of_ble_eq_true rfl) dJx4a65c_iterator_32c93_0 (fun q_1 H hP hD hS => ?_)
  have hP : va_P g.1 CLS [(q_1, .inr (0, [.int 0, .int 0, .int 0, .null]))] H := hP
  have hD : va_D A [(q_1, .inr (0, [.int 0, .int 0, .int 0, .null]))] := hD
  refine W.widen (k := 1) (n := 4) (Nat.le_of_ble_eq_true rfl) (Nat.le_of_ble_eq_true rfl) ?_
  refine lv_dup hx hb dJx4a65c_iterator_32c93_3 rfl ?_
  refine lv_aload_n hx hb dJx4a65c_iterator_32c93_4 rfl (lv_at hl 0 rfl) ?_
  have hPc := hP.sub (ws' := [(q_1, .inr (0, [.int 0, .int 0, .int 0, .null]))]) [0] rfl
  have hDc := hD.sub (ws' := [(q_1, .inr (0, [.int 0, .int 0, .int 0, .null]))]) [0] (by decide) rfl
  have hFc := va_free (wc := [(q_1, .inr (0, [.int 0, .int 0, .int 0, .null]))]) hD hS hA [0] rfl
  refine q_cv (wr := []) (va_runI (As := [.ref (g.2.2 2002)]) (rest := [.ref q_1]) ⟨hx, hb, hml, hown, htg⟩ (c_Itr_init l hfl g q_1  H.size) ⟨(qB htg k1431 k73 k1429 ok_Jx35411_init_45d68 rfl rfl ⟨Nat.le_of_ble_eq_true rfl, Nat.le_of_ble_eq_true rfl⟩), rfl, htg _ k1430⟩ (q_pre [.ref q_1, .ref (g.2.2 2002)] hPc hDc hK hS hT hFc) rfl rfl hl.1 rfl (lv_room (Nat.le_of_ble_eq_true rfl)) dJx4a65c_iterator_32c93_5 ⟨Nat.le_of_ble_eq_true rfl, Nat.le_of_ble_eq_true rfl⟩) hP hD hS hFc [0] [] rfl rfl (by decide) (by decide) (fun u9 H locs hw hP hD hS => ?_)
  try dsimp only at hw
  rcases hw with rfl
  have hP : va_P g.1 CLS [(q_1, .inr (0, [.int 0, .int (-1), .int (nI (g.2.2 2012)), .ref (g.2.2 2002)]))] H := hP
  have hD : va_D A [(q_1, .inr (0, [.int 0, .int (-1), .int (nI (g.2.2 2012)), .ref (g.2.2 2002)]))] := hD
  refine W.widen (k := 1) (n := 4) (Nat.le_of_ble_eq_true rfl) (Nat.le_of_ble_eq_true rfl) ?_
  have hP9 := hP.sub (ws' := [(q_1, .inr (0, [.int 0, .int (-1), .int (nI (g.2.2 2012)), .ref (g.2.2 2002)]))]) [0] rfl
  have hD9 := hD.sub (ws' := [(q_1, .inr (0, [.int 0, .int (-1), .int (nI (g.2.2 2012)), .ref (g.2.2 2002)]))]) [0] (by decide) rfl
  refine W.widen (k := 1) (n := 4) (Nat.le_of_ble_eq_true rfl) (Nat.le_of_ble_eq_true rfl) ?_
  exact W.aret (v := .ref q_1) hx hb hr (Or.inl ⟨_, rfl⟩) (Or.inr ⟨_, rfl⟩) (fun t ht hW => ⟨⟨some q_1, [(q_1, .inr (0, [.int 0, .int (-1), .int (nI (g.2.2 2012)), .ref (g.2.2 2002)]))], rfl, ⟨q_1, rfl, rfl⟩, by rw [ht]; exact hP9, va_K.moved hW.alike hK, hD9⟩, hS.F ht⟩) hS.2.2 dJx4a65c_iterator_32c93_8

set_option maxHeartbeats 4000000 in
set_option maxRecDepth 100000 in
theorem c_hasNext1 (l : Launch) (hfl : l.stackTraces = false) (g : GP) (z0 : Nat) (k1 : Nat) (n1 : Int32) (hk : k1 < g.2.2 2010) : CI l yJx35411_hasNext_aae02 (wG yJx35411_hasNext_aae02 cJx35411_hasNext_aae02 1 (Option.some Jvm.ClassFile.FieldType.boolean)) (LV 1 0 0) g [.ref z0] ([(z0, .inr (0, [.int (nI k1), .int n1, .int (nI (g.2.2 2012)), .ref (g.2.2 2002)]))]) (fun (r : Int32) (u : va_W) => r = 1 ∧ u = [(z0, .inr (0, [.int (nI k1), .int n1, .int (nI (g.2.2 2012)), .ref (g.2.2 2002)]))]) := by
  intro sz
  refine Met.ofW (cc := cJx35411_hasNext_aae02) (maxL := 1) (ret := (Option.some Jvm.ClassFile.FieldType.boolean)) (by decide) rfl ?_
  intro p e s m args below meth c s₁ B hml hv
  obtain ⟨rfl, hsz, hP, hK, hD0, hT0⟩ := hv
  have hx := B.exec
  have hb := B.bytes
  have hr := B.returns
  have hts := atoms_spec (ws := (wG yJx35411_hasNext_aae02 cJx35411_hasNext_aae02 1 (Option.some Jvm.ClassFile.FieldType.boolean))) B.pre
  have htg : ∀ w ∈ G9, w.before _ s = true := fun w h => hts w (List.mem_cons_of_mem _ h)
  have hown : s.vm.findClass "java/util/ArrayList$Itr" = some m.cls := findClass_of_methodNamed B.named
  have hlocks := B.notSynchronized
  subst hsz
  have hD := hD0.self (sz := s.heap.size)
  have hT := hT0
  clear hT0
  generalize hAe : va_A [(z0, .inr (0, [.int (nI k1), .int n1, .int (nI (g.2.2 2012)), .ref (g.2.2 2002)]))] s.heap.size = A at hD hT ⊢
  have hA : ∀ q : Nat, s.heap.size ≤ q → A q := fun q h => by rw [← hAe]; exact Or.inr h
  obtain ⟨H, hH0⟩ : ∃ H, H = s.heap := ⟨_, rfl⟩
  have hS : va_S A s.heap H [] := by rw [hH0]; exact va_S.rf
  have hP : va_P g.1 CLS [(z0, .inr (0, [.int (nI k1), .int n1, .int (nI (g.2.2 2012)), .ref (g.2.2 2002)]))] H := by rw [hH0]; exact hP
  rw [← hH0]
  have hl := lv_entry ([.ref z0]) (n := 1) (Nat.le_of_ble_eq_true rfl)
  rw [lg_entry_eq]
  generalize (lg_sl ([.ref z0]) ++ List.replicate (1 - (lg_sl ([.ref z0])).length) Slot.unset).toArray = ls at hl ⊢
  have hl : lv_has ls 1 [(0, .ref z0)] := hl
  refine lv_aload_n hx hb dJx35411_hasNext_aae02_0 rfl (lv_at hl 0 rfl) ?_
  refine va_get (D := g.1) (ci := 0) (v := .int (nI k1)) (C := RJx35411) (T := TJx35411) (N := 4) hx hb htg inG_Jx35411 hown hK hP 0 rfl rfl 0 (by decide) (htg _ k1433) (fun _ h9 => h9) rfl dJx35411_hasNext_aae02_1 ?_
  refine lv_aload_n hx hb dJx35411_hasNext_aae02_4 rfl (lv_at hl 0 rfl) ?_
  refine va_get (D := g.1) (ci := 0) (v := .ref (g.2.2 2002)) (C := RJx35411) (T := TJx35411) (N := 4) hx hb htg inG_Jx35411 hown hK hP 0 rfl rfl 3 (by decide) (htg _ k1436) (fun _ h9 => h9) rfl dJx35411_hasNext_aae02_5 ?_
  refine q_getfN (v := .int (nI (g.2.2 2010))) hx hb (hT.2.2.2.2.1.2.1) hS hown (va_Nw.use rfl (hT.1.1 _ (List.mem_of_getElem? (i := 0) rfl))) (fun _ h9 => h9) dJx35411_hasNext_aae02_8 ?_
  refine lv_icmp_eq (tgt := 18) hx hb dJx35411_hasNext_aae02_11 (by decide) (fun c_1 => absurd c_1 (q_ne hk (Nat.lt_trans hT.2.2.2.2.2.2.2.2.1 (by decide)))) (fun c_1 => ?_)
  refine lv_iconst (v := 1) hx hb dJx35411_hasNext_aae02_14 (by decide) ?_
  refine lv_goto (tgt := 19) hx hb dJx35411_hasNext_aae02_15 (by decide) ?_
  have hP9 := hP.sub (ws' := [(z0, .inr (0, [.int (nI k1), .int n1, .int (nI (g.2.2 2012)), .ref (g.2.2 2002)]))]) [0] rfl
  have hD9 := hD.sub (ws' := [(z0, .inr (0, [.int (nI k1), .int n1, .int (nI (g.2.2 2012)), .ref (g.2.2 2002)]))]) [0] (by decide) rfl
  refine W.widen (k := 0) (n := 0) (Nat.le_of_ble_eq_true rfl) (Nat.le_of_ble_eq_true rfl) ?_
  exact W.zret (v := 1) hx hb hr rfl (fun t ht hW => ⟨⟨1, [(z0, .inr (0, [.int (nI k1), .int n1, .int (nI (g.2.2 2012)), .ref (g.2.2 2002)]))], rfl, ⟨rfl, rfl⟩, by rw [ht]; exact hP9, va_K.moved hW.alike hK, hD9⟩, hS.F ht⟩) hS.2.2 dJx35411_hasNext_aae02_19

set_option maxHeartbeats 4000000 in
set_option maxRecDepth 100000 in
theorem c_hasNext0 (l : Launch) (hfl : l.stackTraces = false) (g : GP) (z0 : Nat) (n1 : Int32)  : CI l yJx35411_hasNext_aae02 (wG yJx35411_hasNext_aae02 cJx35411_hasNext_aae02 1 (Option.some Jvm.ClassFile.FieldType.boolean)) (LV 1 0 0) g [.ref z0] ([(z0, .inr (0, [.int (nI (g.2.2 2010)), .int n1, .int (nI (g.2.2 2012)), .ref (g.2.2 2002)]))]) (fun (r : Int32) (u : va_W) => r = 0 ∧ u = [(z0, .inr (0, [.int (nI (g.2.2 2010)), .int n1, .int (nI (g.2.2 2012)), .ref (g.2.2 2002)]))]) := by
  intro sz
  refine Met.ofW (cc := cJx35411_hasNext_aae02) (maxL := 1) (ret := (Option.some Jvm.ClassFile.FieldType.boolean)) (by decide) rfl ?_
  intro p e s m args below meth c s₁ B hml hv
  obtain ⟨rfl, hsz, hP, hK, hD0, hT0⟩ := hv
  have hx := B.exec
  have hb := B.bytes
  have hr := B.returns
  have hts := atoms_spec (ws := (wG yJx35411_hasNext_aae02 cJx35411_hasNext_aae02 1 (Option.some Jvm.ClassFile.FieldType.boolean))) B.pre
  have htg : ∀ w ∈ G9, w.before _ s = true := fun w h => hts w (List.mem_cons_of_mem _ h)
  have hown : s.vm.findClass "java/util/ArrayList$Itr" = some m.cls := findClass_of_methodNamed B.named
  have hlocks := B.notSynchronized
  subst hsz
  have hD := hD0.self (sz := s.heap.size)
  have hT := hT0
  clear hT0
  generalize hAe : va_A [(z0, .inr (0, [.int (nI (g.2.2 2010)), .int n1, .int (nI (g.2.2 2012)), .ref (g.2.2 2002)]))] s.heap.size = A at hD hT ⊢
  have hA : ∀ q : Nat, s.heap.size ≤ q → A q := fun q h => by rw [← hAe]; exact Or.inr h
  obtain ⟨H, hH0⟩ : ∃ H, H = s.heap := ⟨_, rfl⟩
  have hS : va_S A s.heap H [] := by rw [hH0]; exact va_S.rf
  have hP : va_P g.1 CLS [(z0, .inr (0, [.int (nI (g.2.2 2010)), .int n1, .int (nI (g.2.2 2012)), .ref (g.2.2 2002)]))] H := by rw [hH0]; exact hP
  rw [← hH0]
  have hl := lv_entry ([.ref z0]) (n := 1) (Nat.le_of_ble_eq_true rfl)
  rw [lg_entry_eq]
  generalize (lg_sl ([.ref z0]) ++ List.replicate (1 - (lg_sl ([.ref z0])).length) Slot.unset).toArray = ls at hl ⊢
  have hl : lv_has ls 1 [(0, .ref z0)] := hl
  refine lv_aload_n hx hb dJx35411_hasNext_aae02_0 rfl (lv_at hl 0 rfl) ?_
  refine va_get (D := g.1) (ci := 0) (v := .int (nI (g.2.2 2010))) (C := RJx35411) (T := TJx35411) (N := 4) hx hb htg inG_Jx35411 hown hK hP 0 rfl rfl 0 (by decide) (htg _ k1433) (fun _ h9 => h9) rfl dJx35411_hasNext_aae02_1 ?_
  refine lv_aload_n hx hb dJx35411_hasNext_aae02_4 rfl (lv_at hl 0 rfl) ?_
  refine va_get (D := g.1) (ci := 0) (v := .ref (g.2.2 2002)) (C := RJx35411) (T := TJx35411) (N := 4) hx hb htg inG_Jx35411 hown hK hP 0 rfl rfl 3 (by decide) (htg _ k1436) (fun _ h9 => h9) rfl dJx35411_hasNext_aae02_5 ?_
  refine q_getfN (v := .int (nI (g.2.2 2010))) hx hb (hT.2.2.2.2.1.2.1) hS hown (va_Nw.use rfl (hT.1.1 _ (List.mem_of_getElem? (i := 0) rfl))) (fun _ h9 => h9) dJx35411_hasNext_aae02_8 ?_
  refine lv_icmp_eq (tgt := 18) hx hb dJx35411_hasNext_aae02_11 (by decide) (fun c_1 => ?_) (fun c_1 => absurd (rfl) c_1)
  refine lv_iconst (v := 0) hx hb dJx35411_hasNext_aae02_18 (by decide) ?_
  have hP9 := hP.sub (ws' := [(z0, .inr (0, [.int (nI (g.2.2 2010)), .int n1, .int (nI (g.2.2 2012)), .ref (g.2.2 2002)]))]) [0] rfl
  have hD9 := hD.sub (ws' := [(z0, .inr (0, [.int (nI (g.2.2 2010)), .int n1, .int (nI (g.2.2 2012)), .ref (g.2.2 2002)]))]) [0] (by decide) rfl
  refine W.widen (k := 0) (n := 0) (Nat.le_of_ble_eq_true rfl) (Nat.le_of_ble_eq_true rfl) ?_
  exact W.zret (v := 0) hx hb hr rfl (fun t ht hW => ⟨⟨0, [(z0, .inr (0, [.int (nI (g.2.2 2010)), .int n1, .int (nI (g.2.2 2012)), .ref (g.2.2 2002)]))], rfl, ⟨rfl, rfl⟩, by rw [ht]; exact hP9, va_K.moved hW.alike hK, hD9⟩, hS.F ht⟩) hS.2.2 dJx35411_hasNext_aae02_19

set_option maxHeartbeats 4000000 in
set_option maxRecDepth 100000 in
theorem c_coMod (l : Launch) (hfl : l.stackTraces = false) (g : GP) (z0 : Nat) (n0 : Int32) (n1 : Int32)  : CV l yJx35411_checkForComodification_da8c8 (wG yJx35411_checkForComodification_da8c8 cJx35411_checkForComodification_da8c8 1 (Option.none : Option Jvm.ClassFile.FieldType)) (LV 1 0 0) g [.ref z0] ([(z0, .inr (0, [.int n0, .int n1, .int (nI (g.2.2 2012)), .ref (g.2.2 2002)]))]) (fun (u : va_W) => u = [(z0, .inr (0, [.int n0, .int n1, .int (nI (g.2.2 2012)), .ref (g.2.2 2002)]))]) := by
  intro sz
  refine Met.ofW (cc := cJx35411_checkForComodification_da8c8) (maxL := 1) (ret := (Option.none : Option Jvm.ClassFile.FieldType)) (by decide) rfl ?_
  intro p e s m args below meth c s₁ B hml hv
  obtain ⟨rfl, hsz, hP, hK, hD0, hT0⟩ := hv
  have hx := B.exec
  have hb := B.bytes
  have hr := B.returns
  have hts := atoms_spec (ws := (wG yJx35411_checkForComodification_da8c8 cJx35411_checkForComodification_da8c8 1 (Option.none : Option Jvm.ClassFile.FieldType))) B.pre
  have htg : ∀ w ∈ G9, w.before _ s = true := fun w h => hts w (List.mem_cons_of_mem _ h)
  have hown : s.vm.findClass "java/util/ArrayList$Itr" = some m.cls := findClass_of_methodNamed B.named
  have hlocks := B.notSynchronized
  subst hsz
  have hD := hD0.self (sz := s.heap.size)
  have hT := hT0
  clear hT0
  generalize hAe : va_A [(z0, .inr (0, [.int n0, .int n1, .int (nI (g.2.2 2012)), .ref (g.2.2 2002)]))] s.heap.size = A at hD hT ⊢
  have hA : ∀ q : Nat, s.heap.size ≤ q → A q := fun q h => by rw [← hAe]; exact Or.inr h
  obtain ⟨H, hH0⟩ : ∃ H, H = s.heap := ⟨_, rfl⟩
  have hS : va_S A s.heap H [] := by rw [hH0]; exact va_S.rf
  have hP : va_P g.1 CLS [(z0, .inr (0, [.int n0, .int n1, .int (nI (g.2.2 2012)), .ref (g.2.2 2002)]))] H := by rw [hH0]; exact hP
  rw [← hH0]
  have hl := lv_entry ([.ref z0]) (n := 1) (Nat.le_of_ble_eq_true rfl)
  rw [lg_entry_eq]
  generalize (lg_sl ([.ref z0]) ++ List.replicate (1 - (lg_sl ([.ref z0])).length) Slot.unset).toArray = ls at hl ⊢
  have hl : lv_has ls 1 [(0, .ref z0)] := hl
  refine lv_aload_n hx hb dJx35411_checkForComodification_da8c8_0 rfl (lv_at hl 0 rfl) ?_
  refine va_get (D := g.1) (ci := 0) (v := .ref (g.2.2 2002)) (C := RJx35411) (T := TJx35411) (N := 4) hx hb htg inG_Jx35411 hown hK hP 0 rfl rfl 3 (by decide) (htg _ k1436) (fun _ h9 => h9) rfl dJx35411_checkForComodification_da8c8_1 ?_
  refine vk_getf (v := .int (nI (g.2.2 2012))) hx hb (hT.2.2.2.2.1.2.2.2.1) hS hown (htg _ k1312) (fun _ h9 => h9) dJx35411_checkForComodification_da8c8_4 ?_
  refine lv_aload_n hx hb dJx35411_checkForComodification_da8c8_7 rfl (lv_at hl 0 rfl) ?_
  refine va_get (D := g.1) (ci := 0) (v := .int (nI (g.2.2 2012))) (C := RJx35411) (T := TJx35411) (N := 4) hx hb htg inG_Jx35411 hown hK hP 0 rfl rfl 2 (by decide) (htg _ k1435) (fun _ h9 => h9) rfl dJx35411_checkForComodification_da8c8_8 ?_
  refine lv_icmp_eq (tgt := 22) hx hb dJx35411_checkForComodification_da8c8_11 (by decide) (fun c_1 => ?_) (fun c_1 => absurd (rfl) c_1)
  have hP9 := hP.sub (ws' := [(z0, .inr (0, [.int n0, .int n1, .int (nI (g.2.2 2012)), .ref (g.2.2 2002)]))]) [0] rfl
  have hD9 := hD.sub (ws' := [(z0, .inr (0, [.int n0, .int n1, .int (nI (g.2.2 2012)), .ref (g.2.2 2002)]))]) [0] (by decide) rfl
  refine W.widen (k := 0) (n := 0) (Nat.le_of_ble_eq_true rfl) (Nat.le_of_ble_eq_true rfl) ?_
  exact W.vret hx hb hr (fun t ht hW => ⟨⟨[(z0, .inr (0, [.int n0, .int n1, .int (nI (g.2.2 2012)), .ref (g.2.2 2002)]))], rfl, rfl, by rw [ht]; exact hP9, va_K.moved hW.alike hK, hD9⟩, hS.F ht⟩) hS.2.2 dJx35411_checkForComodification_da8c8_22

set_option maxHeartbeats 4000000 in
set_option maxRecDepth 100000 in
theorem c_next (l : Launch) (hfl : l.stackTraces = false) (g : GP) (z0 : Nat) (k1 : Nat) (n1 : Int32) (hk : k1 < g.2.2 2010) : CQ l yJx35411_next_0502b (wG yJx35411_next_0502b cJx35411_next_0502b 3 (Option.some (Jvm.ClassFile.FieldType.object "java/lang/Object"))) (LV 2 0 0) g [.ref z0] ([(z0, .inr (0, [.int (nI k1), .int n1, .int (nI (g.2.2 2012)), .ref (g.2.2 2002)]))]) (fun (r : Option Nat) (u : va_W) => r = some (g.2.2 (3000 + k1)) ∧ u = [(z0, .inr (0, [.int (nI (k1 + 1)), .int (nI k1), .int (nI (g.2.2 2012)), .ref (g.2.2 2002)]))]) := by
  intro sz
  refine Met.ofW (cc := cJx35411_next_0502b) (maxL := 3) (ret := (Option.some (Jvm.ClassFile.FieldType.object "java/lang/Object"))) (by decide) rfl ?_
  intro p e s m args below meth c s₁ B hml hv
  obtain ⟨rfl, hsz, hP, hK, hD0, hT0⟩ := hv
  have hx := B.exec
  have hb := B.bytes
  have hr := B.returns
  have hts := atoms_spec (ws := (wG yJx35411_next_0502b cJx35411_next_0502b 3 (Option.some (Jvm.ClassFile.FieldType.object "java/lang/Object")))) B.pre
  have htg : ∀ w ∈ G9, w.before _ s = true := fun w h => hts w (List.mem_cons_of_mem _ h)
  have hown : s.vm.findClass "java/util/ArrayList$Itr" = some m.cls := findClass_of_methodNamed B.named
  have hlocks := B.notSynchronized
  subst hsz
  have hD := hD0.self (sz := s.heap.size)
  have hT := hT0
  clear hT0
  generalize hAe : va_A [(z0, .inr (0, [.int (nI k1), .int n1, .int (nI (g.2.2 2012)), .ref (g.2.2 2002)]))] s.heap.size = A at hD hT ⊢
  have hA : ∀ q : Nat, s.heap.size ≤ q → A q := fun q h => by rw [← hAe]; exact Or.inr h
  obtain ⟨H, hH0⟩ : ∃ H, H = s.heap := ⟨_, rfl⟩
  have hS : va_S A s.heap H [] := by rw [hH0]; exact va_S.rf
  have hP : va_P g.1 CLS [(z0, .inr (0, [.int (nI k1), .int n1, .int (nI (g.2.2 2012)), .ref (g.2.2 2002)]))] H := by rw [hH0]; exact hP
  rw [← hH0]
  have hl := lv_entry ([.ref z0]) (n := 3) (Nat.le_of_ble_eq_true rfl)
  rw [lg_entry_eq]
  generalize (lg_sl ([.ref z0]) ++ List.replicate (3 - (lg_sl ([.ref z0])).length) Slot.unset).toArray = ls at hl ⊢
  have hl : lv_has ls 3 [(0, .ref z0)] := hl
  refine lv_aload_n hx hb dJx35411_next_0502b_0 rfl (lv_at hl 0 rfl) ?_
  have hPc := hP.sub (ws' := [(z0, .inr (0, [.int (nI k1), .int n1, .int (nI (g.2.2 2012)), .ref (g.2.2 2002)]))]) [0] rfl
  have hDc := hD.sub (ws' := [(z0, .inr (0, [.int (nI k1), .int n1, .int (nI (g.2.2 2012)), .ref (g.2.2 2002)]))]) [0] (by decide) rfl
  have hFc := va_free (wc := [(z0, .inr (0, [.int (nI k1), .int n1, .int (nI (g.2.2 2012)), .ref (g.2.2 2002)]))]) hD hS hA [0] rfl
  refine q_cv (wr := []) (va_runV (As := []) (rest := []) ⟨hx, hb, hml, hown, htg⟩ (c_coMod l hfl g z0 (nI k1) n1  H.size) ⟨(qB htg k1468 k73 k1465 ok_Jx35411_checkForComodification_da8c8 rfl rfl ⟨Nat.le_of_ble_eq_true rfl, Nat.le_of_ble_eq_true rfl⟩), htg _ k1466, htg _ k1467⟩ ⟨(q_pre [.ref z0] hPc hDc hK hS hT hFc).1, va_recv hK hP (ci := 0) (q0 := 0) rfl rfl, (q_pre [.ref z0] hPc hDc hK hS hT hFc).2⟩ rfl rfl hl.1 rfl (lv_room (Nat.le_of_ble_eq_true rfl)) dJx35411_next_0502b_1 ⟨Nat.le_of_ble_eq_true rfl, Nat.le_of_ble_eq_true rfl⟩) hP hD hS hFc [0] [] rfl rfl (by decide) (by decide) (fun u9 H locs hw hP hD hS => ?_)
  try dsimp only at hw
  rcases hw with rfl
  have hP : va_P g.1 CLS [(z0, .inr (0, [.int (nI k1), .int n1, .int (nI (g.2.2 2012)), .ref (g.2.2 2002)]))] H := hP
  have hD : va_D A [(z0, .inr (0, [.int (nI k1), .int n1, .int (nI (g.2.2 2012)), .ref (g.2.2 2002)]))] := hD
  refine W.widen (k := 0) (n := 0) (Nat.le_of_ble_eq_true rfl) (Nat.le_of_ble_eq_true rfl) ?_
  refine lv_aload_n hx hb dJx35411_next_0502b_4 rfl (lv_at hl 0 rfl) ?_
  refine va_get (D := g.1) (ci := 0) (v := .int (nI k1)) (C := RJx35411) (T := TJx35411) (N := 4) hx hb htg inG_Jx35411 hown hK hP 0 rfl rfl 0 (by decide) (htg _ k1433) (fun _ h9 => h9) rfl dJx35411_next_0502b_5 ?_
  refine lv_istore_n (lv' := [(1, .int (nI k1)), (0, .ref z0)]) hx hb dJx35411_next_0502b_8 rfl hl (by decide) rfl (fun ls hl => ?_)
  refine lv_iload_n hx hb dJx35411_next_0502b_9 rfl (lv_at hl 0 rfl) ?_
  refine lv_aload_n hx hb dJx35411_next_0502b_10 rfl (lv_at hl 1 rfl) ?_
  refine va_get (D := g.1) (ci := 0) (v := .ref (g.2.2 2002)) (C := RJx35411) (T := TJx35411) (N := 4) hx hb htg inG_Jx35411 hown hK hP 0 rfl rfl 3 (by decide) (htg _ k1436) (fun _ h9 => h9) rfl dJx35411_next_0502b_11 ?_
  refine q_getfN (v := .int (nI (g.2.2 2010))) hx hb (hT.2.2.2.2.1.2.1) hS hown (va_Nw.use rfl (hT.1.1 _ (List.mem_of_getElem? (i := 0) rfl))) (fun _ h9 => h9) dJx35411_next_0502b_14 ?_
  refine lv_icmp_lt (tgt := 28) hx hb dJx35411_next_0502b_17 (by decide) (fun c_1 => ?_) (fun c_1 => absurd (nI_lt hk (Nat.lt_trans hT.2.2.2.2.2.2.2.2.1 (by decide))) c_1)
  refine lv_aload_n hx hb dJx35411_next_0502b_28 rfl (lv_at hl 1 rfl) ?_
  refine va_get (D := g.1) (ci := 0) (v := .ref (g.2.2 2002)) (C := RJx35411) (T := TJx35411) (N := 4) hx hb htg inG_Jx35411 hown hK hP 0 rfl rfl 3 (by decide) (htg _ k1436) (fun _ h9 => h9) rfl dJx35411_next_0502b_29 ?_
  refine vk_getf (v := .ref (g.2.2 2003)) hx hb (hT.2.2.2.2.1.2.2.1) hS hown (htg _ k1308) (fun _ h9 => h9) dJx35411_next_0502b_32 ?_
  refine lv_astore_n (lv' := [(2, .ref (g.2.2 2003)), (1, .int (nI k1)), (0, .ref z0)]) hx hb dJx35411_next_0502b_35 rfl hl (by decide) rfl (fun ls hl => ?_)
  refine lv_iload_n hx hb dJx35411_next_0502b_36 rfl (lv_at hl 1 rfl) ?_
  refine lv_aload_n hx hb dJx35411_next_0502b_37 rfl (lv_at hl 0 rfl) ?_
  refine va_tlen (v := nI (g.2.2 2011)) hx hb (hT.2.2.2.2.1.2.2.2.2) hS rfl dJx35411_next_0502b_38 ?_
  refine lv_icmp_lt (tgt := 50) hx hb dJx35411_next_0502b_39 (by decide) (fun c_2 => ?_) (fun c_2 => absurd (nI_lt (Nat.lt_of_lt_of_le hk hT.2.2.2.2.2.2.2.1) hT.2.2.2.2.2.2.2.2.2.1) c_2)
  refine lv_aload_n hx hb dJx35411_next_0502b_50 rfl (lv_at hl 2 rfl) ?_
  refine lv_iload_n hx hb dJx35411_next_0502b_51 rfl (lv_at hl 1 rfl) ?_
  refine lv_iconst (v := 1) hx hb dJx35411_next_0502b_52 (by decide) ?_
  refine lv_iadd hx hb dJx35411_next_0502b_53 ?_
  refine lv_topi (fun x9 e9 => ?_)
  obtain rfl : x9 = nI (k1 + 1) := e9.trans (nI_1 k1)
  refine va_put (D := g.1) (ci := 0) (v := .int (nI (k1 + 1))) (ty := .int) (C := RJx35411) (T := TJx35411) (N := 4) hx hb htg inG_Jx35411 tyJx35411 tyJx35411_ok nmJx35411 hown hK hP hD hS 0 rfl rfl 0 (by decide) (htg _ k1433) (fun _ h9 => h9) rfl (by decide +kernel) rfl rfl (Nat.le_of_ble_eq_true rfl) dJx35411_next_0502b_54 (fun H locs hP hD hS => ?_)
  have hP : va_P g.1 CLS [(z0, .inr (0, [.int (nI (k1 + 1)), .int n1, .int (nI (g.2.2 2012)), .ref (g.2.2 2002)]))] H := hP
  have hD : va_D A [(z0, .inr (0, [.int (nI (k1 + 1)), .int n1, .int (nI (g.2.2 2012)), .ref (g.2.2 2002)]))] := hD
  refine lv_aload_n hx hb dJx35411_next_0502b_57 rfl (lv_at hl 0 rfl) ?_
  refine lv_aload_n hx hb dJx35411_next_0502b_58 rfl (lv_at hl 2 rfl) ?_
  refine lv_iload_n hx hb dJx35411_next_0502b_59 rfl (lv_at hl 1 rfl) ?_
  refine lv_dup_x1 hx hb dJx35411_next_0502b_60 rfl rfl ?_
  refine va_put (D := g.1) (ci := 0) (v := .int (nI k1)) (ty := .int) (C := RJx35411) (T := TJx35411) (N := 4) hx hb htg inG_Jx35411 tyJx35411 tyJx35411_ok nmJx35411 hown hK hP hD hS 0 rfl rfl 1 (by decide) (htg _ k1434) (fun _ h9 => h9) rfl (by decide +kernel) rfl rfl (Nat.le_of_ble_eq_true rfl) dJx35411_next_0502b_61 (fun H locs hP hD hS => ?_)
  have hP : va_P g.1 CLS [(z0, .inr (0, [.int (nI (k1 + 1)), .int (nI k1), .int (nI (g.2.2 2012)), .ref (g.2.2 2002)]))] H := hP
  have hD : va_D A [(z0, .inr (0, [.int (nI (k1 + 1)), .int (nI k1), .int (nI (g.2.2 2012)), .ref (g.2.2 2002)]))] := hD
  refine vb_tq hx hb (hT.2.2.2.2.1.2.2.2.2) hS (i := nI k1) (vp_in_nI (Nat.lt_of_lt_of_le hk hT.2.2.2.2.2.2.2.1) hT.2.2.2.2.2.2.2.2.2.1) (v := .ref (g.2.2 (3000 + k1))) (by rw [nI_clamp (Nat.lt_trans hk (Nat.lt_trans hT.2.2.2.2.2.2.2.2.1 (by decide)))]; exact if_pos hk) dJx35411_next_0502b_64 ?_
  have hP9 := hP.sub (ws' := [(z0, .inr (0, [.int (nI (k1 + 1)), .int (nI k1), .int (nI (g.2.2 2012)), .ref (g.2.2 2002)]))]) [0] rfl
  have hD9 := hD.sub (ws' := [(z0, .inr (0, [.int (nI (k1 + 1)), .int (nI k1), .int (nI (g.2.2 2012)), .ref (g.2.2 2002)]))]) [0] (by decide) rfl
  refine W.widen (k := 0) (n := 0) (Nat.le_of_ble_eq_true rfl) (Nat.le_of_ble_eq_true rfl) ?_
  exact W.aret (v := .ref (g.2.2 (3000 + k1))) hx hb hr (Or.inl ⟨_, rfl⟩) (Or.inr ⟨_, rfl⟩) (fun t ht hW => ⟨⟨some (g.2.2 (3000 + k1)), [(z0, .inr (0, [.int (nI (k1 + 1)), .int (nI k1), .int (nI (g.2.2 2012)), .ref (g.2.2 2002)]))], rfl, ⟨rfl, rfl⟩, by rw [ht]; exact hP9, va_K.moved hW.alike hK, hD9⟩, hS.F ht⟩) hS.2.2 dJx35411_next_0502b_65

set_option maxHeartbeats 4000000 in
set_option maxRecDepth 100000 in
theorem c_dIsEmpty (l : Launch) (hfl : l.stackTraces = false) (g : GP)   : CI l yX12_isEmpty (wG yX12_isEmpty cX12_isEmpty 1 (Option.some Jvm.ClassFile.FieldType.boolean)) (LV 1 0 0) g [.ref (g.2.2 2005)] ([]) (fun (r : Int32) (u : va_W) => r = 1 ∧ u = []) := by
  intro sz
  refine Met.ofW (cc := cX12_isEmpty) (maxL := 1) (ret := (Option.some Jvm.ClassFile.FieldType.boolean)) (by decide) rfl ?_
  intro p e s m args below meth c s₁ B hml hv
  obtain ⟨rfl, hsz, hP, hK, hD0, hT0⟩ := hv
  have hx := B.exec
  have hb := B.bytes
  have hr := B.returns
  have hts := atoms_spec (ws := (wG yX12_isEmpty cX12_isEmpty 1 (Option.some Jvm.ClassFile.FieldType.boolean))) B.pre
  have htg : ∀ w ∈ G9, w.before _ s = true := fun w h => hts w (List.mem_cons_of_mem _ h)
  have hown : s.vm.findClass "java/util/ArrayDeque" = some m.cls := findClass_of_methodNamed B.named
  have hlocks := B.notSynchronized
  subst hsz
  have hD := hD0.self (sz := s.heap.size)
  have hT := hT0
  clear hT0
  generalize hAe : va_A [] s.heap.size = A at hD hT ⊢
  have hA : ∀ q : Nat, s.heap.size ≤ q → A q := fun q h => by rw [← hAe]; exact Or.inr h
  obtain ⟨H, hH0⟩ : ∃ H, H = s.heap := ⟨_, rfl⟩
  have hS : va_S A s.heap H [] := by rw [hH0]; exact va_S.rf
  have hP : va_P g.1 CLS [] H := by rw [hH0]; exact hP
  rw [← hH0]
  have hl := lv_entry ([.ref (g.2.2 2005)]) (n := 1) (Nat.le_of_ble_eq_true rfl)
  rw [lg_entry_eq]
  generalize (lg_sl ([.ref (g.2.2 2005)]) ++ List.replicate (1 - (lg_sl ([.ref (g.2.2 2005)])).length) Slot.unset).toArray = ls at hl ⊢
  have hl : lv_has ls 1 [(0, .ref (g.2.2 2005))] := hl
  refine lv_aload_n hx hb dX12_isEmpty_0 rfl (lv_at hl 0 rfl) ?_
  refine vk_getf (v := .int (nI (g.2.2 2013))) hx hb (hT.2.2.2.1.2.1) hS hown (htg _ k1331) (fun _ h9 => h9) dX12_isEmpty_1 ?_
  refine lv_aload_n hx hb dX12_isEmpty_4 rfl (lv_at hl 0 rfl) ?_
  refine vk_getf (v := .int (nI (g.2.2 2013))) hx hb (hT.2.2.2.1.2.2.1) hS hown (htg _ k1332) (fun _ h9 => h9) dX12_isEmpty_5 ?_
  refine lv_icmp_ne (tgt := 15) hx hb dX12_isEmpty_8 (by decide) (fun c_1 => absurd (rfl) c_1) (fun c_1 => ?_)
  refine lv_iconst (v := 1) hx hb dX12_isEmpty_11 (by decide) ?_
  refine lv_goto (tgt := 16) hx hb dX12_isEmpty_12 (by decide) ?_
  have hP9 := hP.sub (ws' := []) [] rfl
  have hD9 := hD.sub (ws' := []) [] (by decide) rfl
  refine W.widen (k := 0) (n := 0) (Nat.le_of_ble_eq_true rfl) (Nat.le_of_ble_eq_true rfl) ?_
  exact W.zret (v := 1) hx hb hr rfl (fun t ht hW => ⟨⟨1, [], rfl, ⟨rfl, rfl⟩, by rw [ht]; exact hP9, va_K.moved hW.alike hK, hD9⟩, hS.F ht⟩) hS.2.2 dX12_isEmpty_16

set_option maxHeartbeats 4000000 in
set_option maxRecDepth 100000 in
theorem c_die (l : Launch) (hfl : l.stackTraces = false) (g : GP)   : CIa l yX11_die (wG yX11_die cX11_die 1 (Option.some Jvm.ClassFile.FieldType.int)) (LV 2 0 0) g [.ref (g.2.2 2000)] ([]) (fun (r : Int32) (u : va_W) => r = 10 ∧ u = []) := by
  intro sz
  refine Met.ofW (cc := cX11_die) (maxL := 1) (ret := (Option.some Jvm.ClassFile.FieldType.int)) (by decide) rfl ?_
  intro p e s m args below meth c s₁ B hml hv
  obtain ⟨rfl, ⟨hsz, hP, hK, hD0, hT0⟩, hE⟩ := hv
  have hx := B.exec
  have hb := B.bytes
  have hr := B.returns
  have hts := atoms_spec (ws := (wG yX11_die cX11_die 1 (Option.some Jvm.ClassFile.FieldType.int))) B.pre
  have htg : ∀ w ∈ G9, w.before _ s = true := fun w h => hts w (List.mem_cons_of_mem _ h)
  have hown : s.vm.findClass "HeroTableModel" = some m.cls := findClass_of_methodNamed B.named
  have hlocks := B.notSynchronized
  subst hsz
  have hD := hD0.self (sz := s.heap.size)
  have hT := hT0
  clear hT0
  generalize hAe : va_A [] s.heap.size = A at hD hT hE ⊢
  have hA : ∀ q : Nat, s.heap.size ≤ q → A q := fun q h => by rw [← hAe]; exact Or.inr h
  obtain ⟨H, hH0⟩ : ∃ H, H = s.heap := ⟨_, rfl⟩
  have hS : va_S A s.heap H [] := by rw [hH0]; exact va_S.rf
  have hP : va_P g.1 CLS [] H := by rw [hH0]; exact hP
  rw [← hH0]
  have hl := lv_entry ([.ref (g.2.2 2000)]) (n := 1) (Nat.le_of_ble_eq_true rfl)
  rw [lg_entry_eq]
  generalize (lg_sl ([.ref (g.2.2 2000)]) ++ List.replicate (1 - (lg_sl ([.ref (g.2.2 2000)])).length) Slot.unset).toArray = ls at hl ⊢
  have hl : lv_has ls 1 [(0, .ref (g.2.2 2000))] := hl
  refine lv_aload_n hx hb dX11_die_0 rfl (lv_at hl 0 rfl) ?_
  refine vk_getf (v := .ref (g.2.2 2005)) hx hb (hE.2.2.1) hS hown (htg _ k1343) (fun _ h9 => h9) dX11_die_1 ?_
  have hPc := hP.sub (ws' := []) [] rfl
  have hDc := hD.sub (ws' := []) [] (by decide) rfl
  have hFc := va_free (wc := []) hD hS hA [] rfl
  refine q_ci (wr := []) (va_runV (As := []) (rest := []) ⟨hx, hb, hml, hown, htg⟩ (c_dIsEmpty l hfl g   H.size) ⟨(qB htg k2121 k61 k2118 ok_X12_isEmpty rfl rfl ⟨Nat.le_of_ble_eq_true rfl, Nat.le_of_ble_eq_true rfl⟩), htg _ k2119, htg _ k2120⟩ ⟨(q_pre [.ref (g.2.2 2005)] hPc hDc hK hS hT hFc).1, va_Orecv (hT.2.2.2.1.1) hS, (q_pre [.ref (g.2.2 2005)] hPc hDc hK hS hT hFc).2⟩ rfl rfl hl.1 rfl (lv_room (Nat.le_of_ble_eq_true rfl)) dX11_die_4 ⟨Nat.le_of_ble_eq_true rfl, Nat.le_of_ble_eq_true rfl⟩) hP hD hS hFc [] [] rfl rfl (by decide) (by decide) (fun r9 u9 H locs hw hP hD hS => ?_)
  try dsimp only at hw
  rcases hw with ⟨rfl, rfl⟩
  have hP : va_P g.1 CLS [] H := hP
  have hD : va_D A [] := hD
  refine W.widen (k := 0) (n := 0) (Nat.le_of_ble_eq_true rfl) (Nat.le_of_ble_eq_true rfl) ?_
  refine lv_if_eq (tgt := 15) hx hb dX11_die_7 (by decide) (fun c_1 => absurd c_1 (by decide)) (fun c_1 => ?_)
  refine lv_bipush (v := 10) hx hb dX11_die_10 (by decide) ?_
  refine lv_goto (tgt := 28) hx hb dX11_die_12 (by decide) ?_
  have hP9 := hP.sub (ws' := []) [] rfl
  have hD9 := hD.sub (ws' := []) [] (by decide) rfl
  refine W.widen (k := 0) (n := 0) (Nat.le_of_ble_eq_true rfl) (Nat.le_of_ble_eq_true rfl) ?_
  exact W.iret (v := 10) hx hb hr (fun t ht hW => ⟨⟨10, [], rfl, ⟨rfl, rfl⟩, by rw [ht]; exact hP9, va_K.moved hW.alike hK, hD9⟩, hS.F ht⟩) hS.2.2 dX11_die_28

set_option maxHeartbeats 4000000 in
set_option maxRecDepth 100000 in
theorem c_number_w (l : Launch) (hfl : l.stackTraces = false) (g : GP)   : ZIa l yX11_number (wG yX11_number cX11_number 9 (Option.some Jvm.ClassFile.FieldType.int)) (LV 5 2 7) g [.ref (g.2.2 2000), .ref (g.2.2 2001), .int 119] ([]) 2 (fun (r : Int32) (u : va_W) => r = 2 ∧ u = []) := by
  intro sz
  refine Met.ofW (cc := cX11_number) (maxL := 9) (ret := (Option.some Jvm.ClassFile.FieldType.int)) (by decide) rfl ?_
  intro p e s m args below meth c s₁ B hml hv
  obtain ⟨rfl, ⟨hsz, hP, hK, hD0, hT0⟩, hE⟩ := hv
  have hx := B.exec
  have hb := B.bytes
  have hr := B.returns
  have hts := atoms_spec (ws := (wG yX11_number cX11_number 9 (Option.some Jvm.ClassFile.FieldType.int))) B.pre
  have htg : ∀ w ∈ G9, w.before _ s = true := fun w h => hts w (List.mem_cons_of_mem _ h)
  have hown : s.vm.findClass "HeroTableModel" = some m.cls := findClass_of_methodNamed B.named
  have hlocks := B.notSynchronized
  subst hsz
  have hD := hD0.self (sz := s.heap.size)
  have hT := hT0
  clear hT0
  generalize hAe : va_A [] s.heap.size = A at hD hT hE ⊢
  have hA : ∀ q : Nat, s.heap.size ≤ q → A q := fun q h => by rw [← hAe]; exact Or.inr h
  obtain ⟨H, hH0⟩ : ∃ H, H = s.heap := ⟨_, rfl⟩
  have hS : va_S A s.heap H [] := by rw [hH0]; exact va_S.rf
  have hP : va_P g.1 CLS [] H := by rw [hH0]; exact hP
  rw [← hH0]
  have hl := lv_entry ([.ref (g.2.2 2000), .ref (g.2.2 2001), .int 119]) (n := 9) (Nat.le_of_ble_eq_true rfl)
  rw [lg_entry_eq]
  generalize (lg_sl ([.ref (g.2.2 2000), .ref (g.2.2 2001), .int 119]) ++ List.replicate (9 - (lg_sl ([.ref (g.2.2 2000), .ref (g.2.2 2001), .int 119])).length) Slot.unset).toArray = ls at hl ⊢
  have hl : lv_has ls 9 [(0, .ref (g.2.2 2000)), (1, .ref (g.2.2 2001)), (2, .int 119)] := hl
  refine lv_aload_n hx hb dX11_number_0 rfl (lv_at hl 1 rfl) ?_
  refine q_getfN (v := .ref (g.2.2 2004)) hx hb (hE.2.2.2.2) hS hown (va_Nw.use rfl (hT.1.1 _ (List.mem_of_getElem? (i := 7) rfl))) (fun _ h9 => h9) dX11_number_1 ?_
  refine va_ldcS hx hb hown (hT.2.1 _ (List.mem_of_getElem? (i := 0) rfl)) dX11_number_4 ?_
  refine lv_iload_n hx hb dX11_number_6 rfl (lv_at hl 2 rfl) ?_
  have hPc := hP.sub (ws' := []) [] rfl
  have hDc := hD.sub (ws' := []) [] (by decide) rfl
  have hFc := va_free (wc := []) hD hS hA [] rfl
  refine q_ci (wr := []) (va_runV (As := [.int 119]) (rest := [.ref (g.2.2 2004)]) ⟨hx, hb, hml, hown, htg⟩ (c_idx1_w l hfl g   H.size) ⟨(qB htg k428 k77 k1632 ok_J0_indexOf_0f7a4 rfl rfl ⟨Nat.le_of_ble_eq_true rfl, Nat.le_of_ble_eq_true rfl⟩), htg _ k426, htg _ k427⟩ ⟨(q_pre [.ref (g.2.2 13), .int 119] hPc hDc hK hS hT hFc).1, va_Orecv (hT.2.2.1.2.1) hS, (q_pre [.ref (g.2.2 13), .int 119] hPc hDc hK hS hT hFc).2⟩ rfl rfl hl.1 rfl (lv_room (Nat.le_of_ble_eq_true rfl)) dX11_number_7 ⟨Nat.le_of_ble_eq_true rfl, Nat.le_of_ble_eq_true rfl⟩) hP hD hS hFc [] [] rfl rfl (by decide) (by decide) (fun r9 u9 H locs hw hP hD hS => ?_)
  try dsimp only at hw
  rcases hw with ⟨rfl, rfl⟩
  have hP : va_P g.1 CLS [] H := hP
  have hD : va_D A [] := hD
  refine W.widen (k := 0) (n := 0) (Nat.le_of_ble_eq_true rfl) (Nat.le_of_ble_eq_true rfl) ?_
  refine va_ti hx hb (hT.2.2.2.1.2.2.2) hS (i := 4) (vp_in_iff.mpr (by decide)) (v := .int 2) rfl dX11_number_10 ?_
  refine lv_istore_n (lv' := [(3, .int 2), (0, .ref (g.2.2 2000)), (1, .ref (g.2.2 2001)), (2, .int 119)]) hx hb dX11_number_11 rfl hl (by decide) rfl (fun ls hl => ?_)
  refine lv_iconst (v := 0) hx hb dX11_number_12 (by decide) ?_
  refine lv_istore (lv' := [(4, .int 0), (3, .int 2), (0, .ref (g.2.2 2000)), (1, .ref (g.2.2 2001)), (2, .int 119)]) hx hb dX11_number_13 hl (by decide) rfl (fun ls hl => ?_)
  refine lv_iconst (v := 3) hx hb dX11_number_15 (by decide) ?_
  refine va_newa (atype := .int) (ty := .int) (a0 := (3, .inl (fun _ => 0))) (N' := 3) hx hb (htg _ k156) rfl hK hP hD hS hA (fun _ => rfl) (by decide) (by decide) (by decide) (Nat.le_of_ble_eq_true rfl) (Nat.le_of_ble_eq_true rfl) dX11_number_16 (fun q_1 cA H hK9 hP hD hS => ?_)
  obtain rfl := q_arr hK9 (t0 := 1) rfl (by decide)
  clear hK9
  have hP : va_P g.1 CLS [(q_1, .inl (g.2.1 1, 3, .inl (fun _ => 0)))] H := hP
  have hD : va_D A [(q_1, .inl (g.2.1 1, 3, .inl (fun _ => 0)))] := hD
  refine W.widen (k := 1) (n := 3) (Nat.le_of_ble_eq_true rfl) (Nat.le_of_ble_eq_true rfl) ?_
  refine lv_astore (lv' := [(5, .ref q_1), (4, .int 0), (3, .int 2), (0, .ref (g.2.2 2000)), (1, .ref (g.2.2 2001)), (2, .int 119)]) hx hb dX11_number_18 hl (by decide) rfl (fun ls hl => ?_)
  refine lv_aload_n hx hb dX11_number_20 rfl (lv_at hl 3 rfl) ?_
  refine vk_getf (v := .ref (g.2.2 2002)) hx hb (hE.2.1) hS hown (htg _ k1342) (fun _ h9 => h9) dX11_number_21 ?_
  have hPc := hP.sub (ws' := []) [] rfl
  have hDc := hD.sub (ws' := []) [] (by decide) rfl
  have hFc := va_free (wc := []) hD hS hA [] rfl
  refine q_cFq (wr := [(q_1, .inl (g.2.1 1, 3, .inl (fun _ => 0)))]) (va_runF (As := []) (rest := []) (hK.1 1 _ rfl).2 ⟨hx, hb, hml, hown, htg⟩ (c_iterator l hfl g   H.size) (qI5 htg k1426 k60 k1419 k1422 k1424 (hT.1.2.2.1) okx_iterator rfl rfl ⟨Nat.le_of_ble_eq_true rfl, Nat.le_of_ble_eq_true rfl⟩) ⟨(q_pre [.ref (g.2.2 2002)] hPc hDc hK hS hT hFc).1, va_Orecv (hT.2.2.2.2.1.1) hS, (q_pre [.ref (g.2.2 2002)] hPc hDc hK hS hT hFc).2⟩ rfl rfl hl.1 rfl (lv_room (Nat.le_of_ble_eq_true rfl)) dX11_number_24 ⟨Nat.le_of_ble_eq_true rfl, Nat.le_of_ble_eq_true rfl⟩) hP hD hS hFc [] [0] rfl rfl (by decide) (by decide) (fun r9 u9 H locs hw hP hD hS => ?_)
  try dsimp only at hw
  rcases hw with ⟨q_2, rfl, rfl⟩
  have hP : va_P g.1 CLS [(q_1, .inl (g.2.1 1, 3, .inl (fun _ => 0))), (q_2, .inr (0, [.int 0, .int (-1), .int (nI (g.2.2 2012)), .ref (g.2.2 2002)]))] H := hP
  have hD : va_D A [(q_1, .inl (g.2.1 1, 3, .inl (fun _ => 0))), (q_2, .inr (0, [.int 0, .int (-1), .int (nI (g.2.2 2012)), .ref (g.2.2 2002)]))] := hD
  refine W.widen (k := 2) (n := 7) (Nat.le_of_ble_eq_true rfl) (Nat.le_of_ble_eq_true rfl) ?_
  refine lv_astore (lv' := [(6, .ref q_2), (5, .ref q_1), (4, .int 0), (3, .int 2), (0, .ref (g.2.2 2000)), (1, .ref (g.2.2 2001)), (2, .int 119)]) hx hb dX11_number_29 hl (by decide) rfl (fun ls hl => ?_)
  refine q_loop (g.2.2 2010) (fun i9 f9 H locs ls => va_P g.1 CLS [(q_1, .inl (g.2.1 1, 3, .inl (fun _ => 0))), (q_2, .inr (0, [.int (nI i9), .int (f9 0), .int (nI (g.2.2 2012)), .ref (g.2.2 2002)]))] H ∧ va_D A [(q_1, .inl (g.2.1 1, 3, .inl (fun _ => 0))), (q_2, .inr (0, [.int (nI i9), .int (f9 0), .int (nI (g.2.2 2012)), .ref (g.2.2 2002)]))] ∧ va_S A s.heap H locs ∧ lv_has ls 9 [(6, .ref q_2), (5, .ref q_1), (4, .int 0), (3, .int 2), (0, .ref (g.2.2 2000)), (1, .ref (g.2.2 2001)), (2, .int 119)]) (fun i9 f9 H locs ls hk hp ih => ?_) (fun f9 H locs ls hp => ?_) (fun _ => -1) ⟨hP, hD, hS, hl⟩
  · obtain ⟨hP, hD, hS, hl⟩ := hp
    refine lv_aload hx hb dX11_number_31 (lv_at hl 0 rfl) ?_
    have hPc := hP.sub (ws' := [(q_2, .inr (0, [.int (nI i9), .int (f9 0), .int (nI (g.2.2 2012)), .ref (g.2.2 2002)]))]) [1] rfl
    have hDc := hD.sub (ws' := [(q_2, .inr (0, [.int (nI i9), .int (f9 0), .int (nI (g.2.2 2012)), .ref (g.2.2 2002)]))]) [1] (by decide) rfl
    have hFc := va_free (wc := [(q_2, .inr (0, [.int (nI i9), .int (f9 0), .int (nI (g.2.2 2012)), .ref (g.2.2 2002)]))]) hD hS hA [1] rfl
    refine q_cFi (wr := [(q_1, .inl (g.2.1 1, 3, .inl (fun _ => 0)))]) (va_runF (As := []) (rest := []) (hK.1 0 _ rfl).2 ⟨hx, hb, hml, hown, htg⟩ (c_hasNext1 l hfl g q_2 i9 (f9 0) (hk) H.size) (qI5 htg k1455 k73 k1447 k1451 k1453 (hT.1.2.2.2.1) okx_hasNext rfl rfl ⟨Nat.le_of_ble_eq_true rfl, Nat.le_of_ble_eq_true rfl⟩) ⟨(q_pre [.ref q_2] hPc hDc hK hS hT hFc).1, va_recv hK hP (ci := 0) (q0 := 1) rfl rfl, (q_pre [.ref q_2] hPc hDc hK hS hT hFc).2⟩ rfl rfl hl.1 rfl (lv_room (Nat.le_of_ble_eq_true rfl)) dX11_number_33 ⟨Nat.le_of_ble_eq_true rfl, Nat.le_of_ble_eq_true rfl⟩) hP hD hS hFc [1] [0] rfl rfl (by decide) (by decide) (fun r9 u9 H locs hw hP hD hS => ?_)
    try dsimp only at hw
    rcases hw with ⟨rfl, rfl⟩
    have hP : va_P g.1 CLS [(q_1, .inl (g.2.1 1, 3, .inl (fun _ => 0))), (q_2, .inr (0, [.int (nI i9), .int (f9 0), .int (nI (g.2.2 2012)), .ref (g.2.2 2002)]))] H := hP
    have hD : va_D A [(q_1, .inl (g.2.1 1, 3, .inl (fun _ => 0))), (q_2, .inr (0, [.int (nI i9), .int (f9 0), .int (nI (g.2.2 2012)), .ref (g.2.2 2002)]))] := hD
    refine W.widen (k := 2) (n := 7) (Nat.le_of_ble_eq_true rfl) (Nat.le_of_ble_eq_true rfl) ?_
    refine lv_if_eq (tgt := 193) hx hb dX11_number_38 (by decide) (fun c_3 => absurd c_3 (by decide)) (fun c_3 => ?_)
    refine lv_aload hx hb dX11_number_41 (lv_at hl 0 rfl) ?_
    have hPc := hP.sub (ws' := [(q_2, .inr (0, [.int (nI i9), .int (f9 0), .int (nI (g.2.2 2012)), .ref (g.2.2 2002)]))]) [1] rfl
    have hDc := hD.sub (ws' := [(q_2, .inr (0, [.int (nI i9), .int (f9 0), .int (nI (g.2.2 2012)), .ref (g.2.2 2002)]))]) [1] (by decide) rfl
    have hFc := va_free (wc := [(q_2, .inr (0, [.int (nI i9), .int (f9 0), .int (nI (g.2.2 2012)), .ref (g.2.2 2002)]))]) hD hS hA [1] rfl
    refine q_cFq (wr := [(q_1, .inl (g.2.1 1, 3, .inl (fun _ => 0)))]) (va_runF (As := []) (rest := []) (hK.1 0 _ rfl).2 ⟨hx, hb, hml, hown, htg⟩ (c_next l hfl g q_2 i9 (f9 0) (hk) H.size) (qI5 htg k1464 k73 k1457 k1460 k1462 (hT.1.2.2.2.2.1) okx_next rfl rfl ⟨Nat.le_of_ble_eq_true rfl, Nat.le_of_ble_eq_true rfl⟩) ⟨(q_pre [.ref q_2] hPc hDc hK hS hT hFc).1, va_recv hK hP (ci := 0) (q0 := 1) rfl rfl, (q_pre [.ref q_2] hPc hDc hK hS hT hFc).2⟩ rfl rfl hl.1 rfl (lv_room (Nat.le_of_ble_eq_true rfl)) dX11_number_43 ⟨Nat.le_of_ble_eq_true rfl, Nat.le_of_ble_eq_true rfl⟩) hP hD hS hFc [1] [0] rfl rfl (by decide) (by decide) (fun r9 u9 H locs hw hP hD hS => ?_)
    try dsimp only at hw
    rcases hw with ⟨rfl, rfl⟩
    have hP : va_P g.1 CLS [(q_1, .inl (g.2.1 1, 3, .inl (fun _ => 0))), (q_2, .inr (0, [.int (nI (i9 + 1)), .int (nI i9), .int (nI (g.2.2 2012)), .ref (g.2.2 2002)]))] H := hP
    have hD : va_D A [(q_1, .inl (g.2.1 1, 3, .inl (fun _ => 0))), (q_2, .inr (0, [.int (nI (i9 + 1)), .int (nI i9), .int (nI (g.2.2 2012)), .ref (g.2.2 2002)]))] := hD
    refine W.widen (k := 2) (n := 7) (Nat.le_of_ble_eq_true rfl) (Nat.le_of_ble_eq_true rfl) ?_
    refine va_castE hx hb hown (htg _ k1673) (va_Orecv ((hT.2.2.2.2.2.2.1 i9 hk).2.1) hS) dX11_number_48 ?_
    refine lv_astore (lv' := [(7, .ref (g.2.2 (3000 + i9))), (6, .ref q_2), (5, .ref q_1), (4, .int 0), (3, .int 2), (0, .ref (g.2.2 2000)), (1, .ref (g.2.2 2001)), (2, .int 119)]) hx hb dX11_number_51 hl (by decide) rfl (fun ls hl => ?_)
    refine lv_aload hx hb dX11_number_53 (lv_at hl 0 rfl) ?_
    refine q_getfN (v := .int 1) hx hb ((hT.2.2.2.2.2.2.1 i9 hk).2.2.1) hS hown (va_Nw.use rfl (hT.1.1 _ (List.mem_of_getElem? (i := 24) rfl))) (fun _ h9 => h9) dX11_number_55 ?_
    refine lv_if_eq (tgt := 190) hx hb dX11_number_58 (by decide) (fun c_4 => absurd c_4 (by decide)) (fun c_4 => ?_)
    refine lv_aload hx hb dX11_number_61 (lv_at hl 0 rfl) ?_
    refine q_getfN (v := .int 0) hx hb ((hT.2.2.2.2.2.2.1 i9 hk).2.2.2.1) hS hown (va_Nw.use rfl (hT.1.1 _ (List.mem_of_getElem? (i := 17) rfl))) (fun _ h9 => h9) dX11_number_63 ?_
    refine lv_aload_n hx hb dX11_number_66 rfl (lv_at hl 6 rfl) ?_
    refine q_getfN (v := .int 0) hx hb (hE.2.2.2.1) hS hown (va_Nw.use rfl (hT.1.1 _ (List.mem_of_getElem? (i := 3) rfl))) (fun _ h9 => h9) dX11_number_67 ?_
    refine lv_icmp_ne (tgt := 190) hx hb dX11_number_70 (by decide) (fun c_5 => absurd (by decide) c_5) (fun c_5 => ?_)
    refine lv_aload hx hb dX11_number_73 (lv_at hl 0 rfl) ?_
    refine q_getfN (v := .int 112) hx hb ((hT.2.2.2.2.2.2.1 i9 hk).2.2.2.2.1) hS hown (va_Nw.use rfl (hT.1.1 _ (List.mem_of_getElem? (i := 18) rfl))) (fun _ h9 => h9) dX11_number_75 ?_
    refine lv_iload_n hx hb dX11_number_78 rfl (lv_at hl 7 rfl) ?_
    refine lv_icmp_ne (tgt := 190) hx hb dX11_number_79 (by decide) (fun c_6 => ?_) (fun c_6 => absurd c_6 (by decide))
    refine lv_goto (tgt := 31) hx hb dX11_number_190 (by decide) ?_
    exact ih (fun _ => nI i9) H locs ls ⟨hP, hD, hS, lv_sub hl [1, 2, 3, 4, 5, 6, 7] rfl⟩
  · obtain ⟨hP, hD, hS, hl⟩ := hp
    refine lv_aload hx hb dX11_number_31 (lv_at hl 0 rfl) ?_
    have hPc := hP.sub (ws' := [(q_2, .inr (0, [.int (nI (g.2.2 2010)), .int (f9 0), .int (nI (g.2.2 2012)), .ref (g.2.2 2002)]))]) [1] rfl
    have hDc := hD.sub (ws' := [(q_2, .inr (0, [.int (nI (g.2.2 2010)), .int (f9 0), .int (nI (g.2.2 2012)), .ref (g.2.2 2002)]))]) [1] (by decide) rfl
    have hFc := va_free (wc := [(q_2, .inr (0, [.int (nI (g.2.2 2010)), .int (f9 0), .int (nI (g.2.2 2012)), .ref (g.2.2 2002)]))]) hD hS hA [1] rfl
    refine q_cFi (wr := [(q_1, .inl (g.2.1 1, 3, .inl (fun _ => 0)))]) (va_runF (As := []) (rest := []) (hK.1 0 _ rfl).2 ⟨hx, hb, hml, hown, htg⟩ (c_hasNext0 l hfl g q_2 (f9 0)  H.size) (qI5 htg k1455 k73 k1447 k1451 k1453 (hT.1.2.2.2.1) okx_hasNext rfl rfl ⟨Nat.le_of_ble_eq_true rfl, Nat.le_of_ble_eq_true rfl⟩) ⟨(q_pre [.ref q_2] hPc hDc hK hS hT hFc).1, va_recv hK hP (ci := 0) (q0 := 1) rfl rfl, (q_pre [.ref q_2] hPc hDc hK hS hT hFc).2⟩ rfl rfl hl.1 rfl (lv_room (Nat.le_of_ble_eq_true rfl)) dX11_number_33 ⟨Nat.le_of_ble_eq_true rfl, Nat.le_of_ble_eq_true rfl⟩) hP hD hS hFc [1] [0] rfl rfl (by decide) (by decide) (fun r9 u9 H locs hw hP hD hS => ?_)
    try dsimp only at hw
    rcases hw with ⟨rfl, rfl⟩
    have hP : va_P g.1 CLS [(q_1, .inl (g.2.1 1, 3, .inl (fun _ => 0))), (q_2, .inr (0, [.int (nI (g.2.2 2010)), .int (f9 0), .int (nI (g.2.2 2012)), .ref (g.2.2 2002)]))] H := hP
    have hD : va_D A [(q_1, .inl (g.2.1 1, 3, .inl (fun _ => 0))), (q_2, .inr (0, [.int (nI (g.2.2 2010)), .int (f9 0), .int (nI (g.2.2 2012)), .ref (g.2.2 2002)]))] := hD
    refine W.widen (k := 2) (n := 7) (Nat.le_of_ble_eq_true rfl) (Nat.le_of_ble_eq_true rfl) ?_
    refine lv_if_eq (tgt := 193) hx hb dX11_number_38 (by decide) (fun c_7 => ?_) (fun c_7 => absurd (by decide) c_7)
    refine lv_iload_n hx hb dX11_number_193 rfl (lv_at hl 3 rfl) ?_
    refine lv_iload hx hb dX11_number_194 (lv_at hl 2 rfl) ?_
    refine lv_iadd hx hb dX11_number_196 ?_
    refine lv_topi (fun x_8 ex_8 => ?_)
    obtain rfl : x_8 = 2 := ex_8.trans (by decide)
    refine lv_aload hx hb dX11_number_197 (lv_at hl 1 rfl) ?_
    refine lv_iconst (v := 0) hx hb dX11_number_199 (by decide) ?_
    refine va_iald hx hb hK hP 0 1 rfl rfl (i := 0) (vp_in_iff.mpr (by decide)) dX11_number_200 ?_
    refine lv_topi (fun x_9 ex_9 => ?_)
    obtain rfl : x_9 = 0 := ex_9.trans rfl
    refine lv_iadd hx hb dX11_number_201 ?_
    refine lv_topi (fun x_10 ex_10 => ?_)
    obtain rfl : x_10 = 2 := ex_10.trans (by decide)
    refine lv_aload hx hb dX11_number_202 (lv_at hl 1 rfl) ?_
    refine lv_iconst (v := 1) hx hb dX11_number_204 (by decide) ?_
    refine va_iald hx hb hK hP 0 1 rfl rfl (i := 1) (vp_in_iff.mpr (by decide)) dX11_number_205 ?_
    refine lv_topi (fun x_11 ex_11 => ?_)
    obtain rfl : x_11 = 0 := ex_11.trans rfl
    refine lv_iadd hx hb dX11_number_206 ?_
    refine lv_topi (fun x_12 ex_12 => ?_)
    obtain rfl : x_12 = 2 := ex_12.trans (by decide)
    refine lv_aload hx hb dX11_number_207 (lv_at hl 1 rfl) ?_
    refine lv_iconst (v := 2) hx hb dX11_number_209 (by decide) ?_
    refine va_iald hx hb hK hP 0 1 rfl rfl (i := 2) (vp_in_iff.mpr (by decide)) dX11_number_210 ?_
    refine lv_topi (fun x_13 ex_13 => ?_)
    obtain rfl : x_13 = 0 := ex_13.trans rfl
    refine lv_iadd hx hb dX11_number_211 ?_
    refine lv_topi (fun x_14 ex_14 => ?_)
    obtain rfl : x_14 = 2 := ex_14.trans (by decide)
    have hz := two_new hAe hP hD
    have hP9 := hP.sub (ws' := []) [] rfl
    have hD9 := hD.sub (ws' := []) [] (by decide) rfl
    refine W.widen (k := 2) (n := 7) (Nat.le_of_ble_eq_true rfl) (Nat.le_of_ble_eq_true rfl) ?_
    exact W.iret (v := 2) hx hb hr (fun t ht hW => ⟨⟨2, [], rfl, ⟨rfl, rfl⟩, ⟨by rw [ht]; exact hP9, va_K.moved hW.alike hK, hD9⟩, by rw [ht, hH0]; exact hz⟩, hS.F ht⟩) hS.2.2 dX11_number_212

set_option maxHeartbeats 4000000 in
set_option maxRecDepth 100000 in
theorem c_number_s (l : Launch) (hfl : l.stackTraces = false) (g : GP)   : ZIa l yX11_number (wG yX11_number cX11_number 9 (Option.some Jvm.ClassFile.FieldType.int)) (LV 5 2 7) g [.ref (g.2.2 2000), .ref (g.2.2 2001), .int 115] ([]) 2 (fun (r : Int32) (u : va_W) => r = 4 ∧ u = []) := by
  intro sz
  refine Met.ofW (cc := cX11_number) (maxL := 9) (ret := (Option.some Jvm.ClassFile.FieldType.int)) (by decide) rfl ?_
  intro p e s m args below meth c s₁ B hml hv
  obtain ⟨rfl, ⟨hsz, hP, hK, hD0, hT0⟩, hE⟩ := hv
  have hx := B.exec
  have hb := B.bytes
  have hr := B.returns
  have hts := atoms_spec (ws := (wG yX11_number cX11_number 9 (Option.some Jvm.ClassFile.FieldType.int))) B.pre
  have htg : ∀ w ∈ G9, w.before _ s = true := fun w h => hts w (List.mem_cons_of_mem _ h)
  have hown : s.vm.findClass "HeroTableModel" = some m.cls := findClass_of_methodNamed B.named
  have hlocks := B.notSynchronized
  subst hsz
  have hD := hD0.self (sz := s.heap.size)
  have hT := hT0
  clear hT0
  generalize hAe : va_A [] s.heap.size = A at hD hT hE ⊢
  have hA : ∀ q : Nat, s.heap.size ≤ q → A q := fun q h => by rw [← hAe]; exact Or.inr h
  obtain ⟨H, hH0⟩ : ∃ H, H = s.heap := ⟨_, rfl⟩
  have hS : va_S A s.heap H [] := by rw [hH0]; exact va_S.rf
  have hP : va_P g.1 CLS [] H := by rw [hH0]; exact hP
  rw [← hH0]
  have hl := lv_entry ([.ref (g.2.2 2000), .ref (g.2.2 2001), .int 115]) (n := 9) (Nat.le_of_ble_eq_true rfl)
  rw [lg_entry_eq]
  generalize (lg_sl ([.ref (g.2.2 2000), .ref (g.2.2 2001), .int 115]) ++ List.replicate (9 - (lg_sl ([.ref (g.2.2 2000), .ref (g.2.2 2001), .int 115])).length) Slot.unset).toArray = ls at hl ⊢
  have hl : lv_has ls 9 [(0, .ref (g.2.2 2000)), (1, .ref (g.2.2 2001)), (2, .int 115)] := hl
  refine lv_aload_n hx hb dX11_number_0 rfl (lv_at hl 1 rfl) ?_
  refine q_getfN (v := .ref (g.2.2 2004)) hx hb (hE.2.2.2.2) hS hown (va_Nw.use rfl (hT.1.1 _ (List.mem_of_getElem? (i := 7) rfl))) (fun _ h9 => h9) dX11_number_1 ?_
  refine va_ldcS hx hb hown (hT.2.1 _ (List.mem_of_getElem? (i := 0) rfl)) dX11_number_4 ?_
  refine lv_iload_n hx hb dX11_number_6 rfl (lv_at hl 2 rfl) ?_
  have hPc := hP.sub (ws' := []) [] rfl
  have hDc := hD.sub (ws' := []) [] (by decide) rfl
  have hFc := va_free (wc := []) hD hS hA [] rfl
  refine q_ci (wr := []) (va_runV (As := [.int 115]) (rest := [.ref (g.2.2 2004)]) ⟨hx, hb, hml, hown, htg⟩ (c_idx1_s l hfl g   H.size) ⟨(qB htg k428 k77 k1632 ok_J0_indexOf_0f7a4 rfl rfl ⟨Nat.le_of_ble_eq_true rfl, Nat.le_of_ble_eq_true rfl⟩), htg _ k426, htg _ k427⟩ ⟨(q_pre [.ref (g.2.2 13), .int 115] hPc hDc hK hS hT hFc).1, va_Orecv (hT.2.2.1.2.1) hS, (q_pre [.ref (g.2.2 13), .int 115] hPc hDc hK hS hT hFc).2⟩ rfl rfl hl.1 rfl (lv_room (Nat.le_of_ble_eq_true rfl)) dX11_number_7 ⟨Nat.le_of_ble_eq_true rfl, Nat.le_of_ble_eq_true rfl⟩) hP hD hS hFc [] [] rfl rfl (by decide) (by decide) (fun r9 u9 H locs hw hP hD hS => ?_)
  try dsimp only at hw
  rcases hw with ⟨rfl, rfl⟩
  have hP : va_P g.1 CLS [] H := hP
  have hD : va_D A [] := hD
  refine W.widen (k := 0) (n := 0) (Nat.le_of_ble_eq_true rfl) (Nat.le_of_ble_eq_true rfl) ?_
  refine va_ti hx hb (hT.2.2.2.1.2.2.2) hS (i := 3) (vp_in_iff.mpr (by decide)) (v := .int 4) rfl dX11_number_10 ?_
  refine lv_istore_n (lv' := [(3, .int 4), (0, .ref (g.2.2 2000)), (1, .ref (g.2.2 2001)), (2, .int 115)]) hx hb dX11_number_11 rfl hl (by decide) rfl (fun ls hl => ?_)
  refine lv_iconst (v := 0) hx hb dX11_number_12 (by decide) ?_
  refine lv_istore (lv' := [(4, .int 0), (3, .int 4), (0, .ref (g.2.2 2000)), (1, .ref (g.2.2 2001)), (2, .int 115)]) hx hb dX11_number_13 hl (by decide) rfl (fun ls hl => ?_)
  refine lv_iconst (v := 3) hx hb dX11_number_15 (by decide) ?_
  refine va_newa (atype := .int) (ty := .int) (a0 := (3, .inl (fun _ => 0))) (N' := 3) hx hb (htg _ k156) rfl hK hP hD hS hA (fun _ => rfl) (by decide) (by decide) (by decide) (Nat.le_of_ble_eq_true rfl) (Nat.le_of_ble_eq_true rfl) dX11_number_16 (fun q_1 cA H hK9 hP hD hS => ?_)
  obtain rfl := q_arr hK9 (t0 := 1) rfl (by decide)
  clear hK9
  have hP : va_P g.1 CLS [(q_1, .inl (g.2.1 1, 3, .inl (fun _ => 0)))] H := hP
  have hD : va_D A [(q_1, .inl (g.2.1 1, 3, .inl (fun _ => 0)))] := hD
  refine W.widen (k := 1) (n := 3) (Nat.le_of_ble_eq_true rfl) (Nat.le_of_ble_eq_true rfl) ?_
  refine lv_astore (lv' := [(5, .ref q_1), (4, .int 0), (3, .int 4), (0, .ref (g.2.2 2000)), (1, .ref (g.2.2 2001)), (2, .int 115)]) hx hb dX11_number_18 hl (by decide) rfl (fun ls hl => ?_)
  refine lv_aload_n hx hb dX11_number_20 rfl (lv_at hl 3 rfl) ?_
  refine vk_getf (v := .ref (g.2.2 2002)) hx hb (hE.2.1) hS hown (htg _ k1342) (fun _ h9 => h9) dX11_number_21 ?_
  have hPc := hP.sub (ws' := []) [] rfl
  have hDc := hD.sub (ws' := []) [] (by decide) rfl
  have hFc := va_free (wc := []) hD hS hA [] rfl
  refine q_cFq (wr := [(q_1, .inl (g.2.1 1, 3, .inl (fun _ => 0)))]) (va_runF (As := []) (rest := []) (hK.1 1 _ rfl).2 ⟨hx, hb, hml, hown, htg⟩ (c_iterator l hfl g   H.size) (qI5 htg k1426 k60 k1419 k1422 k1424 (hT.1.2.2.1) okx_iterator rfl rfl ⟨Nat.le_of_ble_eq_true rfl, Nat.le_of_ble_eq_true rfl⟩) ⟨(q_pre [.ref (g.2.2 2002)] hPc hDc hK hS hT hFc).1, va_Orecv (hT.2.2.2.2.1.1) hS, (q_pre [.ref (g.2.2 2002)] hPc hDc hK hS hT hFc).2⟩ rfl rfl hl.1 rfl (lv_room (Nat.le_of_ble_eq_true rfl)) dX11_number_24 ⟨Nat.le_of_ble_eq_true rfl, Nat.le_of_ble_eq_true rfl⟩) hP hD hS hFc [] [0] rfl rfl (by decide) (by decide) (fun r9 u9 H locs hw hP hD hS => ?_)
  try dsimp only at hw
  rcases hw with ⟨q_2, rfl, rfl⟩
  have hP : va_P g.1 CLS [(q_1, .inl (g.2.1 1, 3, .inl (fun _ => 0))), (q_2, .inr (0, [.int 0, .int (-1), .int (nI (g.2.2 2012)), .ref (g.2.2 2002)]))] H := hP
  have hD : va_D A [(q_1, .inl (g.2.1 1, 3, .inl (fun _ => 0))), (q_2, .inr (0, [.int 0, .int (-1), .int (nI (g.2.2 2012)), .ref (g.2.2 2002)]))] := hD
  refine W.widen (k := 2) (n := 7) (Nat.le_of_ble_eq_true rfl) (Nat.le_of_ble_eq_true rfl) ?_
  refine lv_astore (lv' := [(6, .ref q_2), (5, .ref q_1), (4, .int 0), (3, .int 4), (0, .ref (g.2.2 2000)), (1, .ref (g.2.2 2001)), (2, .int 115)]) hx hb dX11_number_29 hl (by decide) rfl (fun ls hl => ?_)
  refine q_loop (g.2.2 2010) (fun i9 f9 H locs ls => va_P g.1 CLS [(q_1, .inl (g.2.1 1, 3, .inl (fun _ => 0))), (q_2, .inr (0, [.int (nI i9), .int (f9 0), .int (nI (g.2.2 2012)), .ref (g.2.2 2002)]))] H ∧ va_D A [(q_1, .inl (g.2.1 1, 3, .inl (fun _ => 0))), (q_2, .inr (0, [.int (nI i9), .int (f9 0), .int (nI (g.2.2 2012)), .ref (g.2.2 2002)]))] ∧ va_S A s.heap H locs ∧ lv_has ls 9 [(6, .ref q_2), (5, .ref q_1), (4, .int 0), (3, .int 4), (0, .ref (g.2.2 2000)), (1, .ref (g.2.2 2001)), (2, .int 115)]) (fun i9 f9 H locs ls hk hp ih => ?_) (fun f9 H locs ls hp => ?_) (fun _ => -1) ⟨hP, hD, hS, hl⟩
  · obtain ⟨hP, hD, hS, hl⟩ := hp
    refine lv_aload hx hb dX11_number_31 (lv_at hl 0 rfl) ?_
    have hPc := hP.sub (ws' := [(q_2, .inr (0, [.int (nI i9), .int (f9 0), .int (nI (g.2.2 2012)), .ref (g.2.2 2002)]))]) [1] rfl
    have hDc := hD.sub (ws' := [(q_2, .inr (0, [.int (nI i9), .int (f9 0), .int (nI (g.2.2 2012)), .ref (g.2.2 2002)]))]) [1] (by decide) rfl
    have hFc := va_free (wc := [(q_2, .inr (0, [.int (nI i9), .int (f9 0), .int (nI (g.2.2 2012)), .ref (g.2.2 2002)]))]) hD hS hA [1] rfl
    refine q_cFi (wr := [(q_1, .inl (g.2.1 1, 3, .inl (fun _ => 0)))]) (va_runF (As := []) (rest := []) (hK.1 0 _ rfl).2 ⟨hx, hb, hml, hown, htg⟩ (c_hasNext1 l hfl g q_2 i9 (f9 0) (hk) H.size) (qI5 htg k1455 k73 k1447 k1451 k1453 (hT.1.2.2.2.1) okx_hasNext rfl rfl ⟨Nat.le_of_ble_eq_true rfl, Nat.le_of_ble_eq_true rfl⟩) ⟨(q_pre [.ref q_2] hPc hDc hK hS hT hFc).1, va_recv hK hP (ci := 0) (q0 := 1) rfl rfl, (q_pre [.ref q_2] hPc hDc hK hS hT hFc).2⟩ rfl rfl hl.1 rfl (lv_room (Nat.le_of_ble_eq_true rfl)) dX11_number_33 ⟨Nat.le_of_ble_eq_true rfl, Nat.le_of_ble_eq_true rfl⟩) hP hD hS hFc [1] [0] rfl rfl (by decide) (by decide) (fun r9 u9 H locs hw hP hD hS => ?_)
    try dsimp only at hw
    rcases hw with ⟨rfl, rfl⟩
    have hP : va_P g.1 CLS [(q_1, .inl (g.2.1 1, 3, .inl (fun _ => 0))), (q_2, .inr (0, [.int (nI i9), .int (f9 0), .int (nI (g.2.2 2012)), .ref (g.2.2 2002)]))] H := hP
    have hD : va_D A [(q_1, .inl (g.2.1 1, 3, .inl (fun _ => 0))), (q_2, .inr (0, [.int (nI i9), .int (f9 0), .int (nI (g.2.2 2012)), .ref (g.2.2 2002)]))] := hD
    refine W.widen (k := 2) (n := 7) (Nat.le_of_ble_eq_true rfl) (Nat.le_of_ble_eq_true rfl) ?_
    refine lv_if_eq (tgt := 193) hx hb dX11_number_38 (by decide) (fun c_3 => absurd c_3 (by decide)) (fun c_3 => ?_)
    refine lv_aload hx hb dX11_number_41 (lv_at hl 0 rfl) ?_
    have hPc := hP.sub (ws' := [(q_2, .inr (0, [.int (nI i9), .int (f9 0), .int (nI (g.2.2 2012)), .ref (g.2.2 2002)]))]) [1] rfl
    have hDc := hD.sub (ws' := [(q_2, .inr (0, [.int (nI i9), .int (f9 0), .int (nI (g.2.2 2012)), .ref (g.2.2 2002)]))]) [1] (by decide) rfl
    have hFc := va_free (wc := [(q_2, .inr (0, [.int (nI i9), .int (f9 0), .int (nI (g.2.2 2012)), .ref (g.2.2 2002)]))]) hD hS hA [1] rfl
    refine q_cFq (wr := [(q_1, .inl (g.2.1 1, 3, .inl (fun _ => 0)))]) (va_runF (As := []) (rest := []) (hK.1 0 _ rfl).2 ⟨hx, hb, hml, hown, htg⟩ (c_next l hfl g q_2 i9 (f9 0) (hk) H.size) (qI5 htg k1464 k73 k1457 k1460 k1462 (hT.1.2.2.2.2.1) okx_next rfl rfl ⟨Nat.le_of_ble_eq_true rfl, Nat.le_of_ble_eq_true rfl⟩) ⟨(q_pre [.ref q_2] hPc hDc hK hS hT hFc).1, va_recv hK hP (ci := 0) (q0 := 1) rfl rfl, (q_pre [.ref q_2] hPc hDc hK hS hT hFc).2⟩ rfl rfl hl.1 rfl (lv_room (Nat.le_of_ble_eq_true rfl)) dX11_number_43 ⟨Nat.le_of_ble_eq_true rfl, Nat.le_of_ble_eq_true rfl⟩) hP hD hS hFc [1] [0] rfl rfl (by decide) (by decide) (fun r9 u9 H locs hw hP hD hS => ?_)
    try dsimp only at hw
    rcases hw with ⟨rfl, rfl⟩
    have hP : va_P g.1 CLS [(q_1, .inl (g.2.1 1, 3, .inl (fun _ => 0))), (q_2, .inr (0, [.int (nI (i9 + 1)), .int (nI i9), .int (nI (g.2.2 2012)), .ref (g.2.2 2002)]))] H := hP
    have hD : va_D A [(q_1, .inl (g.2.1 1, 3, .inl (fun _ => 0))), (q_2, .inr (0, [.int (nI (i9 + 1)), .int (nI i9), .int (nI (g.2.2 2012)), .ref (g.2.2 2002)]))] := hD
    refine W.widen (k := 2) (n := 7) (Nat.le_of_ble_eq_true rfl) (Nat.le_of_ble_eq_true rfl) ?_
    refine va_castE hx hb hown (htg _ k1673) (va_Orecv ((hT.2.2.2.2.2.2.1 i9 hk).2.1) hS) dX11_number_48 ?_
    refine lv_astore (lv' := [(7, .ref (g.2.2 (3000 + i9))), (6, .ref q_2), (5, .ref q_1), (4, .int 0), (3, .int 4), (0, .ref (g.2.2 2000)), (1, .ref (g.2.2 2001)), (2, .int 115)]) hx hb dX11_number_51 hl (by decide) rfl (fun ls hl => ?_)
    refine lv_aload hx hb dX11_number_53 (lv_at hl 0 rfl) ?_
    refine q_getfN (v := .int 1) hx hb ((hT.2.2.2.2.2.2.1 i9 hk).2.2.1) hS hown (va_Nw.use rfl (hT.1.1 _ (List.mem_of_getElem? (i := 24) rfl))) (fun _ h9 => h9) dX11_number_55 ?_
    refine lv_if_eq (tgt := 190) hx hb dX11_number_58 (by decide) (fun c_4 => absurd c_4 (by decide)) (fun c_4 => ?_)
    refine lv_aload hx hb dX11_number_61 (lv_at hl 0 rfl) ?_
    refine q_getfN (v := .int 0) hx hb ((hT.2.2.2.2.2.2.1 i9 hk).2.2.2.1) hS hown (va_Nw.use rfl (hT.1.1 _ (List.mem_of_getElem? (i := 17) rfl))) (fun _ h9 => h9) dX11_number_63 ?_
    refine lv_aload_n hx hb dX11_number_66 rfl (lv_at hl 6 rfl) ?_
    refine q_getfN (v := .int 0) hx hb (hE.2.2.2.1) hS hown (va_Nw.use rfl (hT.1.1 _ (List.mem_of_getElem? (i := 3) rfl))) (fun _ h9 => h9) dX11_number_67 ?_
    refine lv_icmp_ne (tgt := 190) hx hb dX11_number_70 (by decide) (fun c_5 => absurd (by decide) c_5) (fun c_5 => ?_)
    refine lv_aload hx hb dX11_number_73 (lv_at hl 0 rfl) ?_
    refine q_getfN (v := .int 112) hx hb ((hT.2.2.2.2.2.2.1 i9 hk).2.2.2.2.1) hS hown (va_Nw.use rfl (hT.1.1 _ (List.mem_of_getElem? (i := 18) rfl))) (fun _ h9 => h9) dX11_number_75 ?_
    refine lv_iload_n hx hb dX11_number_78 rfl (lv_at hl 7 rfl) ?_
    refine lv_icmp_ne (tgt := 190) hx hb dX11_number_79 (by decide) (fun c_6 => ?_) (fun c_6 => absurd c_6 (by decide))
    refine lv_goto (tgt := 31) hx hb dX11_number_190 (by decide) ?_
    exact ih (fun _ => nI i9) H locs ls ⟨hP, hD, hS, lv_sub hl [1, 2, 3, 4, 5, 6, 7] rfl⟩
  · obtain ⟨hP, hD, hS, hl⟩ := hp
    refine lv_aload hx hb dX11_number_31 (lv_at hl 0 rfl) ?_
    have hPc := hP.sub (ws' := [(q_2, .inr (0, [.int (nI (g.2.2 2010)), .int (f9 0), .int (nI (g.2.2 2012)), .ref (g.2.2 2002)]))]) [1] rfl
    have hDc := hD.sub (ws' := [(q_2, .inr (0, [.int (nI (g.2.2 2010)), .int (f9 0), .int (nI (g.2.2 2012)), .ref (g.2.2 2002)]))]) [1] (by decide) rfl
    have hFc := va_free (wc := [(q_2, .inr (0, [.int (nI (g.2.2 2010)), .int (f9 0), .int (nI (g.2.2 2012)), .ref (g.2.2 2002)]))]) hD hS hA [1] rfl
    refine q_cFi (wr := [(q_1, .inl (g.2.1 1, 3, .inl (fun _ => 0)))]) (va_runF (As := []) (rest := []) (hK.1 0 _ rfl).2 ⟨hx, hb, hml, hown, htg⟩ (c_hasNext0 l hfl g q_2 (f9 0)  H.size) (qI5 htg k1455 k73 k1447 k1451 k1453 (hT.1.2.2.2.1) okx_hasNext rfl rfl ⟨Nat.le_of_ble_eq_true rfl, Nat.le_of_ble_eq_true rfl⟩) ⟨(q_pre [.ref q_2] hPc hDc hK hS hT hFc).1, va_recv hK hP (ci := 0) (q0 := 1) rfl rfl, (q_pre [.ref q_2] hPc hDc hK hS hT hFc).2⟩ rfl rfl hl.1 rfl (lv_room (Nat.le_of_ble_eq_true rfl)) dX11_number_33 ⟨Nat.le_of_ble_eq_true rfl, Nat.le_of_ble_eq_true rfl⟩) hP hD hS hFc [1] [0] rfl rfl (by decide) (by decide) (fun r9 u9 H locs hw hP hD hS => ?_)
    try dsimp only at hw
    rcases hw with ⟨rfl, rfl⟩
    have hP : va_P g.1 CLS [(q_1, .inl (g.2.1 1, 3, .inl (fun _ => 0))), (q_2, .inr (0, [.int (nI (g.2.2 2010)), .int (f9 0), .int (nI (g.2.2 2012)), .ref (g.2.2 2002)]))] H := hP
    have hD : va_D A [(q_1, .inl (g.2.1 1, 3, .inl (fun _ => 0))), (q_2, .inr (0, [.int (nI (g.2.2 2010)), .int (f9 0), .int (nI (g.2.2 2012)), .ref (g.2.2 2002)]))] := hD
    refine W.widen (k := 2) (n := 7) (Nat.le_of_ble_eq_true rfl) (Nat.le_of_ble_eq_true rfl) ?_
    refine lv_if_eq (tgt := 193) hx hb dX11_number_38 (by decide) (fun c_7 => ?_) (fun c_7 => absurd (by decide) c_7)
    refine lv_iload_n hx hb dX11_number_193 rfl (lv_at hl 3 rfl) ?_
    refine lv_iload hx hb dX11_number_194 (lv_at hl 2 rfl) ?_
    refine lv_iadd hx hb dX11_number_196 ?_
    refine lv_topi (fun x_8 ex_8 => ?_)
    obtain rfl : x_8 = 4 := ex_8.trans (by decide)
    refine lv_aload hx hb dX11_number_197 (lv_at hl 1 rfl) ?_
    refine lv_iconst (v := 0) hx hb dX11_number_199 (by decide) ?_
    refine va_iald hx hb hK hP 0 1 rfl rfl (i := 0) (vp_in_iff.mpr (by decide)) dX11_number_200 ?_
    refine lv_topi (fun x_9 ex_9 => ?_)
    obtain rfl : x_9 = 0 := ex_9.trans rfl
    refine lv_iadd hx hb dX11_number_201 ?_
    refine lv_topi (fun x_10 ex_10 => ?_)
    obtain rfl : x_10 = 4 := ex_10.trans (by decide)
    refine lv_aload hx hb dX11_number_202 (lv_at hl 1 rfl) ?_
    refine lv_iconst (v := 1) hx hb dX11_number_204 (by decide) ?_
    refine va_iald hx hb hK hP 0 1 rfl rfl (i := 1) (vp_in_iff.mpr (by decide)) dX11_number_205 ?_
    refine lv_topi (fun x_11 ex_11 => ?_)
    obtain rfl : x_11 = 0 := ex_11.trans rfl
    refine lv_iadd hx hb dX11_number_206 ?_
    refine lv_topi (fun x_12 ex_12 => ?_)
    obtain rfl : x_12 = 4 := ex_12.trans (by decide)
    refine lv_aload hx hb dX11_number_207 (lv_at hl 1 rfl) ?_
    refine lv_iconst (v := 2) hx hb dX11_number_209 (by decide) ?_
    refine va_iald hx hb hK hP 0 1 rfl rfl (i := 2) (vp_in_iff.mpr (by decide)) dX11_number_210 ?_
    refine lv_topi (fun x_13 ex_13 => ?_)
    obtain rfl : x_13 = 0 := ex_13.trans rfl
    refine lv_iadd hx hb dX11_number_211 ?_
    refine lv_topi (fun x_14 ex_14 => ?_)
    obtain rfl : x_14 = 4 := ex_14.trans (by decide)
    have hz := two_new hAe hP hD
    have hP9 := hP.sub (ws' := []) [] rfl
    have hD9 := hD.sub (ws' := []) [] (by decide) rfl
    refine W.widen (k := 2) (n := 7) (Nat.le_of_ble_eq_true rfl) (Nat.le_of_ble_eq_true rfl) ?_
    exact W.iret (v := 4) hx hb hr (fun t ht hW => ⟨⟨4, [], rfl, ⟨rfl, rfl⟩, ⟨by rw [ht]; exact hP9, va_K.moved hW.alike hK, hD9⟩, by rw [ht, hH0]; exact hz⟩, hS.F ht⟩) hS.2.2 dX11_number_212

set_option maxHeartbeats 4000000 in
set_option maxRecDepth 100000 in
theorem c_check (l : Launch) (hfl : l.stackTraces = false) (g : GP)   : ZIa l yX11_check (wG yX11_check cX11_check 2 (Option.some Jvm.ClassFile.FieldType.int)) (LV 6 2 7) g [.ref (g.2.2 2000), .ref (g.2.2 2001)] ([]) 2 (fun (r : Int32) (u : va_W) => r = 12 ∧ u = []) := by
  intro sz
  refine Met.ofW (cc := cX11_check) (maxL := 2) (ret := (Option.some Jvm.ClassFile.FieldType.int)) (by decide) rfl ?_
  intro p e s m args below meth c s₁ B hml hv
  obtain ⟨rfl, ⟨hsz, hP, hK, hD0, hT0⟩, hE⟩ := hv
  have hx := B.exec
  have hb := B.bytes
  have hr := B.returns
  have hts := atoms_spec (ws := (wG yX11_check cX11_check 2 (Option.some Jvm.ClassFile.FieldType.int))) B.pre
  have htg : ∀ w ∈ G9, w.before _ s = true := fun w h => hts w (List.mem_cons_of_mem _ h)
  have hown : s.vm.findClass "HeroTableModel" = some m.cls := findClass_of_methodNamed B.named
  have hlocks := B.notSynchronized
  subst hsz
  have hD := hD0.self (sz := s.heap.size)
  have hT := hT0
  clear hT0
  generalize hAe : va_A [] s.heap.size = A at hD hT hE ⊢
  have hA : ∀ q : Nat, s.heap.size ≤ q → A q := fun q h => by rw [← hAe]; exact Or.inr h
  obtain ⟨H, hH0⟩ : ∃ H, H = s.heap := ⟨_, rfl⟩
  have hS : va_S A s.heap H [] := by rw [hH0]; exact va_S.rf
  have hP : va_P g.1 CLS [] H := by rw [hH0]; exact hP
  rw [← hH0]
  have hl := lv_entry ([.ref (g.2.2 2000), .ref (g.2.2 2001)]) (n := 2) (Nat.le_of_ble_eq_true rfl)
  rw [lg_entry_eq]
  generalize (lg_sl ([.ref (g.2.2 2000), .ref (g.2.2 2001)]) ++ List.replicate (2 - (lg_sl ([.ref (g.2.2 2000), .ref (g.2.2 2001)])).length) Slot.unset).toArray = ls at hl ⊢
  have hl : lv_has ls 2 [(0, .ref (g.2.2 2000)), (1, .ref (g.2.2 2001))] := hl
  refine lv_aload_n hx hb dX11_check_0 rfl (lv_at hl 0 rfl) ?_
  have hPc := hP.sub (ws' := []) [] rfl
  have hDc := hD.sub (ws' := []) [] (by decide) rfl
  have hFc := va_free (wc := []) hD hS hA [] rfl
  refine q_ci (wr := []) (va_runV (As := []) (rest := []) ⟨hx, hb, hml, hown, htg⟩ (c_die l hfl g   H.size) ⟨(qB htg k2117 k57 k2114 ok_X11_die rfl rfl ⟨Nat.le_of_ble_eq_true rfl, Nat.le_of_ble_eq_true rfl⟩), htg _ k2116, htg _ k36⟩ ⟨(q_prea [.ref (g.2.2 2000)] hPc hDc hK hS hT hE hFc).1, va_Orecv (hE.1) hS, (q_prea [.ref (g.2.2 2000)] hPc hDc hK hS hT hE hFc).2⟩ rfl rfl hl.1 rfl (lv_room (Nat.le_of_ble_eq_true rfl)) dX11_check_1 ⟨Nat.le_of_ble_eq_true rfl, Nat.le_of_ble_eq_true rfl⟩) hP hD hS hFc [] [] rfl rfl (by decide) (by decide) (fun r9 u9 H locs hw hP hD hS => ?_)
  try dsimp only at hw
  rcases hw with ⟨rfl, rfl⟩
  have hP : va_P g.1 CLS [] H := hP
  have hD : va_D A [] := hD
  refine W.widen (k := 0) (n := 0) (Nat.le_of_ble_eq_true rfl) (Nat.le_of_ble_eq_true rfl) ?_
  refine lv_aload_n hx hb dX11_check_4 rfl (lv_at hl 0 rfl) ?_
  refine lv_aload_n hx hb dX11_check_5 rfl (lv_at hl 1 rfl) ?_
  refine lv_bipush (v := 119) hx hb dX11_check_6 (by decide) ?_
  have hPc := hP.sub (ws' := []) [] rfl
  have hDc := hD.sub (ws' := []) [] (by decide) rfl
  have hFc := va_free (wc := []) hD hS hA [] rfl
  have hz0 := hS.1
  refine q_ciZ (wr := []) (va_runV (As := [.ref (g.2.2 2001), .int 119]) (rest := [.int 10]) ⟨hx, hb, hml, hown, htg⟩ (c_number_w l hfl g   H.size) ⟨(qB htg k1791 k57 k1788 ok_X11_number rfl rfl ⟨Nat.le_of_ble_eq_true rfl, Nat.le_of_ble_eq_true rfl⟩), htg _ k1790, htg _ k28⟩ ⟨(q_prea [.ref (g.2.2 2000), .ref (g.2.2 2001), .int 119] hPc hDc hK hS hT hE hFc).1, va_Orecv (hE.1) hS, (q_prea [.ref (g.2.2 2000), .ref (g.2.2 2001), .int 119] hPc hDc hK hS hT hE hFc).2⟩ rfl rfl hl.1 rfl (lv_room (Nat.le_of_ble_eq_true rfl)) dX11_check_8 ⟨Nat.le_of_ble_eq_true rfl, Nat.le_of_ble_eq_true rfl⟩) hP hD hS hFc [] [] rfl rfl (by decide) (by decide) (fun r9 u9 H locs hZ hw hP hD hS => ?_)
  have hz := Nat.le_trans (Nat.add_le_add_right hz0 2) hZ
  try dsimp only at hw
  rcases hw with ⟨rfl, rfl⟩
  have hP : va_P g.1 CLS [] H := hP
  have hD : va_D A [] := hD
  refine W.widen (k := 2) (n := 7) (Nat.le_of_ble_eq_true rfl) (Nat.le_of_ble_eq_true rfl) ?_
  refine lv_iadd hx hb dX11_check_11 ?_
  refine lv_topi (fun x_1 ex_1 => ?_)
  obtain rfl : x_1 = 12 := ex_1.trans (by decide)
  have hP9 := hP.sub (ws' := []) [] rfl
  have hD9 := hD.sub (ws' := []) [] (by decide) rfl
  refine W.widen (k := 2) (n := 7) (Nat.le_of_ble_eq_true rfl) (Nat.le_of_ble_eq_true rfl) ?_
  exact W.iret (v := 12) hx hb hr (fun t ht hW => ⟨⟨12, [], rfl, ⟨rfl, rfl⟩, ⟨by rw [ht]; exact hP9, va_K.moved hW.alike hK, hD9⟩, by rw [ht, hH0]; exact hz⟩, hS.F ht⟩) hS.2.2 dX11_check_12
