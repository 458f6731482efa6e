theorem cacheJ {x y : Int32} (ho : okDie x) (e : y = x + 128) : ∃ j : Nat, j < 256 ∧ y = nI j := by
  obtain ⟨h1, h2⟩ := ho
  have hx : x = nI x.toInt.toNat := Int32.toInt_inj.mp (by rw [nI_toInt (by omega)]; omega)
  refine ⟨x.toInt.toNat + 128, by omega, ?_⟩
  have e8 : (128 : Int32) = nI 128 := rfl
  rw [e, e8]
  conv => lhs; rw [hx]
  rw [nI_add]
theorem cacheIn {x y : Int32} (ho : okDie x) (e : y = x + 128) : vp_in y 256 := by
  obtain ⟨j, hj, e⟩ := cacheJ ho e
  rw [e]
  exact vp_in_nI hj (by decide)
theorem cacheLt {x y : Int32} (ho : okDie x) (e : y = x + 128) : y.toNatClampNeg < 256 := by
  obtain ⟨j, hj, e⟩ := cacheJ ho e
  rw [e, nI_clamp (by omega)]
  exact hj
theorem k1304 : (Jvm.Cond.methodLink "java/util/AbstractCollection" (1 : Nat) ({ cls := "java/lang/Object", name := "<init>", desc := "()V" } : Jvm.MethodName)) ∈ G9 := g9 1304 (by decide +kernel) rfl
theorem k1303 : (Jvm.Cond.code ({ cls := "java/util/AbstractCollection", name := "<init>", desc := "()V" } : Jvm.MethodName) prog_42_method_1_code (1 : Nat) (Option.none : Option Jvm.ClassFile.FieldType)) ∈ G9 := g9 1303 (by decide +kernel) rfl
theorem k58 : (Jvm.Cond.initialized "java/util/AbstractCollection") ∈ G9 := g9 58 (by decide +kernel) rfl
theorem k1301 : (Jvm.Cond.methodLink "java/util/AbstractList" (1 : Nat) ({ cls := "java/util/AbstractCollection", name := "<init>", desc := "()V" } : Jvm.MethodName)) ∈ G9 := g9 1301 (by decide +kernel) rfl
theorem ok_Jxa1e45_init_da8c8 : okN yJxa1e45_init_da8c8 0 := by decide +kernel
theorem k1302 : (Jvm.Cond.instanceMethod ({ cls := "java/util/AbstractCollection", name := "<init>", desc := "()V" } : Jvm.MethodName)) ∈ G9 := g9 1302 (by decide +kernel) rfl
theorem k1319 : (Jvm.Cond.lays "java/util/ArrayList" "java/util/AbstractList" "modCount" "I") ∈ G9 := g9 1319 (by decide +kernel) rfl
theorem k1315 : (Jvm.Cond.lays "java/util/ArrayList" "java/util/ArrayList" "elementData" "[Ljava/lang/Object;") ∈ G9 := g9 1315 (by decide +kernel) rfl
theorem k1317 : (Jvm.Cond.lays "java/util/ArrayList" "java/util/ArrayList" "size" "I") ∈ G9 := g9 1317 (by decide +kernel) rfl
theorem inG_Jx4a65c : ∀ w ∈ u_ws RJx4a65c TJx4a65c 3, w ∈ G9 := by
  intro w h
  have h : w ∈ [u_lay RJx4a65c TJx4a65c 0, u_lay RJx4a65c TJx4a65c 1, u_lay RJx4a65c TJx4a65c 2] := h
  simp only [List.mem_cons, List.not_mem_nil, or_false] at h
  rcases h with rfl | rfl | rfl
  · exact k1319
  · exact k1315
  · exact k1317
theorem k1311 : (Jvm.Cond.fieldLink "java/util/AbstractList" (7 : Nat) "java/util/AbstractList" "modCount" "I") ∈ G9 := g9 1311 (by decide +kernel) rfl
theorem k1300 : (Jvm.Cond.code ({ cls := "java/util/AbstractList", name := "<init>", desc := "()V" } : Jvm.MethodName) prog_43_method_1_code (1 : Nat) (Option.none : Option Jvm.ClassFile.FieldType)) ∈ G9 := g9 1300 (by decide +kernel) rfl
theorem k59 : (Jvm.Cond.initialized "java/util/AbstractList") ∈ G9 := g9 59 (by decide +kernel) rfl
theorem k1298 : (Jvm.Cond.methodLink "java/util/ArrayList" (1 : Nat) ({ cls := "java/util/AbstractList", name := "<init>", desc := "()V" } : Jvm.MethodName)) ∈ G9 := g9 1298 (by decide +kernel) rfl
theorem ok_Jxc12de_init_da8c8 : okN yJxc12de_init_da8c8 0 := by decide +kernel
theorem k1299 : (Jvm.Cond.instanceMethod ({ cls := "java/util/AbstractList", name := "<init>", desc := "()V" } : Jvm.MethodName)) ∈ G9 := g9 1299 (by decide +kernel) rfl
theorem k1305 : (Jvm.Cond.fieldLink "java/util/ArrayList" (39 : Nat) "java/util/ArrayList" "DEFAULTCAPACITY_EMPTY_ELEMENTDATA" "[Ljava/lang/Object;") ∈ G9 := g9 1305 (by decide +kernel) rfl
theorem k1307 : (Jvm.Cond.fieldLink "java/util/ArrayList" (9 : Nat) "java/util/ArrayList" "elementData" "[Ljava/lang/Object;") ∈ G9 := g9 1307 (by decide +kernel) rfl
theorem k1310 : (Jvm.Cond.fieldLink "java/util/ArrayList" (48 : Nat) "java/util/ArrayList" "size" "I") ∈ G9 := g9 1310 (by decide +kernel) rfl
theorem k1437 : (Jvm.Cond.lays "java/util/ArrayList$Itr" "java/util/ArrayList$Itr" "cursor" "I") ∈ G9 := g9 1437 (by decide +kernel) rfl
theorem k1439 : (Jvm.Cond.lays "java/util/ArrayList$Itr" "java/util/ArrayList$Itr" "lastRet" "I") ∈ G9 := g9 1439 (by decide +kernel) rfl
theorem k1441 : (Jvm.Cond.lays "java/util/ArrayList$Itr" "java/util/ArrayList$Itr" "expectedModCount" "I") ∈ G9 := g9 1441 (by decide +kernel) rfl
theorem k1443 : (Jvm.Cond.laysFinal "java/util/ArrayList$Itr" "java/util/ArrayList$Itr" "this$0" "Ljava/util/ArrayList;") ∈ G9 := g9 1443 (by decide +kernel) rfl
theorem inG_Jx35411 : ∀ w ∈ u_ws RJx35411 TJx35411 4, w ∈ G9 := by
  intro w h
  have h : w ∈ [u_lay RJx35411 TJx35411 0, u_lay RJx35411 TJx35411 1, u_lay RJx35411 TJx35411 2, u_lay RJx35411 TJx35411 3] := h
  simp only [List.mem_cons, List.not_mem_nil, or_false] at h
  rcases h with rfl | rfl | rfl | rfl
  · exact k1437
  · exact k1439
  · exact k1441
  · exact k1443
theorem k1436 : (Jvm.Cond.fieldLink "java/util/ArrayList$Itr" (1 : Nat) "java/util/ArrayList$Itr" "this$0" "Ljava/util/ArrayList;") ∈ G9 := g9 1436 (by decide +kernel) rfl
theorem k1432 : (Jvm.Cond.methodLink "java/util/ArrayList$Itr" (7 : Nat) ({ cls := "java/lang/Object", name := "<init>", desc := "()V" } : Jvm.MethodName)) ∈ G9 := g9 1432 (by decide +kernel) rfl
theorem k1434 : (Jvm.Cond.fieldLink "java/util/ArrayList$Itr" (13 : Nat) "java/util/ArrayList$Itr" "lastRet" "I") ∈ G9 := g9 1434 (by decide +kernel) rfl
theorem k1313 : (Jvm.Cond.sameField "java/util/ArrayList" "java/util/AbstractList" "modCount" "I") ∈ G9 := g9 1313 (by decide +kernel) rfl
theorem k1312 : (Jvm.Cond.fieldLink "java/util/ArrayList$Itr" (17 : Nat) "java/util/ArrayList" "modCount" "I") ∈ G9 := g9 1312 (by decide +kernel) rfl
theorem k1435 : (Jvm.Cond.fieldLink "java/util/ArrayList$Itr" (22 : Nat) "java/util/ArrayList$Itr" "expectedModCount" "I") ∈ G9 := g9 1435 (by decide +kernel) rfl
theorem k1427 : (Jvm.Cond.classLink "java/util/ArrayList" (267 : Nat) "java/util/ArrayList$Itr") ∈ G9 := g9 1427 (by decide +kernel) rfl
theorem k1428 : (Jvm.Cond.instantiable "java/util/ArrayList$Itr" (4 : Nat)) ∈ G9 := g9 1428 (by decide +kernel) rfl
theorem k73 : (Jvm.Cond.initialized "java/util/ArrayList$Itr") ∈ G9 := g9 73 (by decide +kernel) rfl
theorem k1431 : (Jvm.Cond.code ({ cls := "java/util/ArrayList$Itr", name := "<init>", desc := "(Ljava/util/ArrayList;)V" } : Jvm.MethodName) prog_46_method_1_code (2 : Nat) (Option.none : Option Jvm.ClassFile.FieldType)) ∈ G9 := g9 1431 (by decide +kernel) rfl
theorem k1429 : (Jvm.Cond.methodLink "java/util/ArrayList" (269 : Nat) ({ cls := "java/util/ArrayList$Itr", name := "<init>", desc := "(Ljava/util/ArrayList;)V" } : Jvm.MethodName)) ∈ G9 := g9 1429 (by decide +kernel) rfl
theorem ok_Jx35411_init_45d68 : okN yJx35411_init_45d68 1 := by decide +kernel
theorem k1430 : (Jvm.Cond.instanceMethod ({ cls := "java/util/ArrayList$Itr", name := "<init>", desc := "(Ljava/util/ArrayList;)V" } : Jvm.MethodName)) ∈ G9 := g9 1430 (by decide +kernel) rfl
theorem k1433 : (Jvm.Cond.fieldLink "java/util/ArrayList$Itr" (25 : Nat) "java/util/ArrayList$Itr" "cursor" "I") ∈ G9 := g9 1433 (by decide +kernel) rfl
theorem k1566 : (Jvm.Cond.methodLink "java/util/ArrayList" (79 : Nat) ({ cls := "java/lang/Math", name := "max", desc := "(II)I" } : Jvm.MethodName)) ∈ G9 := g9 1566 (by decide +kernel) rfl
theorem k1567 : (Jvm.Cond.classLink "java/util/ArrayList" (7 : Nat) "java/lang/Object") ∈ G9 := g9 1567 (by decide +kernel) rfl
theorem k1520 : (Jvm.Cond.code ({ cls := "java/util/ArrayList", name := "grow", desc := "(I)[Ljava/lang/Object;" } : Jvm.MethodName) prog_45_method_6_code (4 : Nat) (Option.some (Jvm.ClassFile.FieldType.array (Jvm.ClassFile.FieldType.object "java/lang/Object")))) ∈ G9 := g9 1520 (by decide +kernel) rfl
theorem k60 : (Jvm.Cond.initialized "java/util/ArrayList") ∈ G9 := g9 60 (by decide +kernel) rfl
theorem k1517 : (Jvm.Cond.methodLink "java/util/ArrayList" (69 : Nat) ({ cls := "java/util/ArrayList", name := "grow", desc := "(I)[Ljava/lang/Object;" } : Jvm.MethodName)) ∈ G9 := g9 1517 (by decide +kernel) rfl
theorem ok_Jx4a65c_grow_92f84 : okN yJx4a65c_grow_92f84 1 := by decide +kernel
theorem k1519 : (Jvm.Cond.instanceMethod ({ cls := "java/util/ArrayList", name := "grow", desc := "(I)[Ljava/lang/Object;" } : Jvm.MethodName)) ∈ G9 := g9 1519 (by decide +kernel) rfl
theorem k22 : (Jvm.Cond.selects "java/util/ArrayList" ({ cls := "java/util/ArrayList", name := "grow", desc := "(I)[Ljava/lang/Object;" } : Jvm.MethodName) ({ cls := "java/util/ArrayList", name := "grow", desc := "(I)[Ljava/lang/Object;" } : Jvm.MethodName)) ∈ G9 := g9 22 (by decide +kernel) rfl
theorem k1516 : (Jvm.Cond.code ({ cls := "java/util/ArrayList", name := "grow", desc := "()[Ljava/lang/Object;" } : Jvm.MethodName) prog_45_method_7_code (1 : Nat) (Option.some (Jvm.ClassFile.FieldType.array (Jvm.ClassFile.FieldType.object "java/lang/Object")))) ∈ G9 := g9 1516 (by decide +kernel) rfl
theorem k1513 : (Jvm.Cond.methodLink "java/util/ArrayList" (129 : Nat) ({ cls := "java/util/ArrayList", name := "grow", desc := "()[Ljava/lang/Object;" } : Jvm.MethodName)) ∈ G9 := g9 1513 (by decide +kernel) rfl
theorem ok_Jx4a65c_grow_d5877 : okN yJx4a65c_grow_d5877 0 := by decide +kernel
theorem k1515 : (Jvm.Cond.instanceMethod ({ cls := "java/util/ArrayList", name := "grow", desc := "()[Ljava/lang/Object;" } : Jvm.MethodName)) ∈ G9 := g9 1515 (by decide +kernel) rfl
theorem k21 : (Jvm.Cond.selects "java/util/ArrayList" ({ cls := "java/util/ArrayList", name := "grow", desc := "()[Ljava/lang/Object;" } : Jvm.MethodName) ({ cls := "java/util/ArrayList", name := "grow", desc := "()[Ljava/lang/Object;" } : Jvm.MethodName)) ∈ G9 := g9 21 (by decide +kernel) rfl
theorem k1314 : (Jvm.Cond.fieldLink "java/util/ArrayList" (63 : Nat) "java/util/ArrayList" "modCount" "I") ∈ G9 := g9 1314 (by decide +kernel) rfl
theorem k1512 : (Jvm.Cond.code ({ cls := "java/util/ArrayList", name := "add", desc := "(Ljava/lang/Object;[Ljava/lang/Object;I)V" } : Jvm.MethodName) prog_45_method_24_code (4 : Nat) (Option.none : Option Jvm.ClassFile.FieldType)) ∈ G9 := g9 1512 (by decide +kernel) rfl
theorem k1509 : (Jvm.Cond.methodLink "java/util/ArrayList" (131 : Nat) ({ cls := "java/util/ArrayList", name := "add", desc := "(Ljava/lang/Object;[Ljava/lang/Object;I)V" } : Jvm.MethodName)) ∈ G9 := g9 1509 (by decide +kernel) rfl
theorem ok_Jx4a65c_add_72be8 : okN yJx4a65c_add_72be8 3 := by decide +kernel
theorem k1511 : (Jvm.Cond.instanceMethod ({ cls := "java/util/ArrayList", name := "add", desc := "(Ljava/lang/Object;[Ljava/lang/Object;I)V" } : Jvm.MethodName)) ∈ G9 := g9 1511 (by decide +kernel) rfl
theorem k20 : (Jvm.Cond.selects "java/util/ArrayList" ({ cls := "java/util/ArrayList", name := "add", desc := "(Ljava/lang/Object;[Ljava/lang/Object;I)V" } : Jvm.MethodName) ({ cls := "java/util/ArrayList", name := "add", desc := "(Ljava/lang/Object;[Ljava/lang/Object;I)V" } : Jvm.MethodName)) ∈ G9 := g9 20 (by decide +kernel) rfl
theorem k1327 : (Jvm.Cond.methodLink "java/util/ArrayDeque" (42 : Nat) ({ cls := "java/util/AbstractCollection", name := "<init>", desc := "()V" } : Jvm.MethodName)) ∈ G9 := g9 1327 (by decide +kernel) rfl
theorem k1328 : (Jvm.Cond.classLink "java/util/ArrayDeque" (47 : Nat) "java/lang/Object") ∈ G9 := g9 1328 (by decide +kernel) rfl
theorem k1333 : (Jvm.Cond.lays "java/util/ArrayDeque" "java/util/ArrayDeque" "elements" "[Ljava/lang/Object;") ∈ G9 := g9 1333 (by decide +kernel) rfl
theorem k1335 : (Jvm.Cond.lays "java/util/ArrayDeque" "java/util/ArrayDeque" "head" "I") ∈ G9 := g9 1335 (by decide +kernel) rfl
theorem k1337 : (Jvm.Cond.lays "java/util/ArrayDeque" "java/util/ArrayDeque" "tail" "I") ∈ G9 := g9 1337 (by decide +kernel) rfl
theorem inG_X12 : ∀ w ∈ u_ws RX12 TX12 3, w ∈ G9 := by
  intro w h
  have h : w ∈ [u_lay RX12 TX12 0, u_lay RX12 TX12 1, u_lay RX12 TX12 2] := h
  simp only [List.mem_cons, List.not_mem_nil, or_false] at h
  rcases h with rfl | rfl | rfl
  · exact k1333
  · exact k1335
  · exact k1337
theorem k1330 : (Jvm.Cond.fieldLink "java/util/ArrayDeque" (3 : Nat) "java/util/ArrayDeque" "elements" "[Ljava/lang/Object;") ∈ G9 := g9 1330 (by decide +kernel) rfl
theorem k1332 : (Jvm.Cond.fieldLink "java/util/ArrayDeque" (20 : Nat) "java/util/ArrayDeque" "tail" "I") ∈ G9 := g9 1332 (by decide +kernel) rfl
theorem k1331 : (Jvm.Cond.fieldLink "java/util/ArrayDeque" (24 : Nat) "java/util/ArrayDeque" "head" "I") ∈ G9 := g9 1331 (by decide +kernel) rfl
theorem k1859 : (Jvm.Cond.code ({ cls := "java/util/ArrayDeque", name := "sub", desc := "(III)I" } : Jvm.MethodName) prog_44_method_9_code (3 : Nat) (Option.some Jvm.ClassFile.FieldType.int)) ∈ G9 := g9 1859 (by decide +kernel) rfl
theorem k61 : (Jvm.Cond.initialized "java/util/ArrayDeque") ∈ G9 := g9 61 (by decide +kernel) rfl
theorem k1857 : (Jvm.Cond.methodLink "java/util/ArrayDeque" (127 : Nat) ({ cls := "java/util/ArrayDeque", name := "sub", desc := "(III)I" } : Jvm.MethodName)) ∈ G9 := g9 1857 (by decide +kernel) rfl
theorem ok_X12_sub : okN yX12_sub 3 := by decide +kernel
theorem k1858 : (Jvm.Cond.static ({ cls := "java/util/ArrayDeque", name := "sub", desc := "(III)I" } : Jvm.MethodName)) ∈ G9 := g9 1858 (by decide +kernel) rfl
theorem k1837 : (Jvm.Cond.code ({ cls := "java/util/ArrayDeque", name := "inc", desc := "(II)I" } : Jvm.MethodName) prog_44_method_6_code (2 : Nat) (Option.some Jvm.ClassFile.FieldType.int)) ∈ G9 := g9 1837 (by decide +kernel) rfl
theorem k1835 : (Jvm.Cond.methodLink "java/util/ArrayDeque" (74 : Nat) ({ cls := "java/util/ArrayDeque", name := "inc", desc := "(II)I" } : Jvm.MethodName)) ∈ G9 := g9 1835 (by decide +kernel) rfl
theorem ok_X12_inc : okN yX12_inc 2 := by decide +kernel
theorem k1836 : (Jvm.Cond.static ({ cls := "java/util/ArrayDeque", name := "inc", desc := "(II)I" } : Jvm.MethodName)) ∈ G9 := g9 1836 (by decide +kernel) rfl
theorem k1814 : (Jvm.Cond.fieldLink "java/lang/Integer" (191 : Nat) "java/lang/Integer$IntegerCache" "high" "I") ∈ G9 := g9 1814 (by decide +kernel) rfl
theorem k1816 : (Jvm.Cond.fieldLink "java/lang/Integer" (195 : Nat) "java/lang/Integer$IntegerCache" "cache" "[Ljava/lang/Integer;") ∈ G9 := g9 1816 (by decide +kernel) rfl
theorem dJxa1e45_init_da8c8_0 : decode cJxa1e45_init_da8c8 0 = .ok (.aload_n 0, 1) := by decide +kernel
theorem dJxa1e45_init_da8c8_1 : decode cJxa1e45_init_da8c8 1 = .ok (.invokespecial 1, 3) := by decide +kernel
theorem dJxa1e45_init_da8c8_4 : decode cJxa1e45_init_da8c8 4 = .ok (.return_, 1) := by decide +kernel
theorem dJxc12de_init_da8c8_0 : decode cJxc12de_init_da8c8 0 = .ok (.aload_n 0, 1) := by decide +kernel
theorem dJxc12de_init_da8c8_1 : decode cJxc12de_init_da8c8 1 = .ok (.invokespecial 1, 3) := by decide +kernel
theorem dJxc12de_init_da8c8_4 : decode cJxc12de_init_da8c8 4 = .ok (.aload_n 0, 1) := by decide +kernel
theorem dJxc12de_init_da8c8_5 : decode cJxc12de_init_da8c8 5 = .ok (.iconst 0, 1) := by decide +kernel
theorem dJxc12de_init_da8c8_6 : decode cJxc12de_init_da8c8 6 = .ok (.putfield 7, 3) := by decide +kernel
theorem dJxc12de_init_da8c8_9 : decode cJxc12de_init_da8c8 9 = .ok (.return_, 1) := by decide +kernel
theorem dJx4a65c_init_da8c8_0 : decode cJx4a65c_init_da8c8 0 = .ok (.aload_n 0, 1) := by decide +kernel
theorem dJx4a65c_init_da8c8_1 : decode cJx4a65c_init_da8c8 1 = .ok (.invokespecial 1, 3) := by decide +kernel
theorem dJx4a65c_init_da8c8_4 : decode cJx4a65c_init_da8c8 4 = .ok (.aload_n 0, 1) := by decide +kernel
theorem dJx4a65c_init_da8c8_5 : decode cJx4a65c_init_da8c8 5 = .ok (.getstatic 39, 3) := by decide +kernel
theorem dJx4a65c_init_da8c8_8 : decode cJx4a65c_init_da8c8 8 = .ok (.putfield 9, 3) := by decide +kernel
theorem dJx4a65c_init_da8c8_11 : decode cJx4a65c_init_da8c8 11 = .ok (.return_, 1) := by decide +kernel
theorem dJx4a65c_size_8abf5_0 : decode cJx4a65c_size_8abf5 0 = .ok (.aload_n 0, 1) := by decide +kernel
theorem dJx4a65c_size_8abf5_1 : decode cJx4a65c_size_8abf5 1 = .ok (.getfield 48, 3) := by decide +kernel
theorem dJx4a65c_size_8abf5_4 : decode cJx4a65c_size_8abf5 4 = .ok (.ireturn, 1) := by decide +kernel
theorem dJx4a65c_isEmpty_aae02_0 : decode cJx4a65c_isEmpty_aae02 0 = .ok (.aload_n 0, 1) := by decide +kernel
theorem dJx4a65c_isEmpty_aae02_1 : decode cJx4a65c_isEmpty_aae02 1 = .ok (.getfield 48, 3) := by decide +kernel
theorem dJx4a65c_isEmpty_aae02_4 : decode cJx4a65c_isEmpty_aae02 4 = .ok (.ifCond .ne 7, 3) := by decide +kernel
theorem dJx4a65c_isEmpty_aae02_7 : decode cJx4a65c_isEmpty_aae02 7 = .ok (.iconst 1, 1) := by decide +kernel
theorem dJx4a65c_isEmpty_aae02_8 : decode cJx4a65c_isEmpty_aae02 8 = .ok (.goto 4, 3) := by decide +kernel
theorem dJx4a65c_isEmpty_aae02_12 : decode cJx4a65c_isEmpty_aae02 12 = .ok (.ireturn, 1) := by decide +kernel
theorem dJx35411_init_45d68_0 : decode cJx35411_init_45d68 0 = .ok (.aload_n 0, 1) := by decide +kernel
theorem dJx35411_init_45d68_1 : decode cJx35411_init_45d68 1 = .ok (.aload_n 1, 1) := by decide +kernel
theorem dJx35411_init_45d68_2 : decode cJx35411_init_45d68 2 = .ok (.putfield 1, 3) := by decide +kernel
theorem dJx35411_init_45d68_5 : decode cJx35411_init_45d68 5 = .ok (.aload_n 0, 1) := by decide +kernel
theorem dJx35411_init_45d68_6 : decode cJx35411_init_45d68 6 = .ok (.invokespecial 7, 3) := by decide +kernel
theorem dJx35411_init_45d68_9 : decode cJx35411_init_45d68 9 = .ok (.aload_n 0, 1) := by decide +kernel
theorem dJx35411_init_45d68_10 : decode cJx35411_init_45d68 10 = .ok (.iconst (-1), 1) := by decide +kernel
theorem dJx35411_init_45d68_11 : decode cJx35411_init_45d68 11 = .ok (.putfield 13, 3) := by decide +kernel
theorem dJx35411_init_45d68_14 : decode cJx35411_init_45d68 14 = .ok (.aload_n 0, 1) := by decide +kernel
theorem dJx35411_init_45d68_15 : decode cJx35411_init_45d68 15 = .ok (.aload_n 0, 1) := by decide +kernel
theorem dJx35411_init_45d68_16 : decode cJx35411_init_45d68 16 = .ok (.getfield 1, 3) := by decide +kernel
theorem dJx35411_init_45d68_19 : decode cJx35411_init_45d68 19 = .ok (.getfield 17, 3) := by decide +kernel
theorem dJx35411_init_45d68_22 : decode cJx35411_init_45d68 22 = .ok (.putfield 22, 3) := by decide +kernel
theorem dJx35411_init_45d68_25 : decode cJx35411_init_45d68 25 = .ok (.return_, 1) := by decide +kernel
theorem dJx4a65c_iterator_32c93_0 : decode cJx4a65c_iterator_32c93 0 = .ok (.new 267, 3) := by decide +kernel
theorem dJx4a65c_iterator_32c93_3 : decode cJx4a65c_iterator_32c93 3 = .ok (.dup, 1) := by decide +kernel
theorem dJx4a65c_iterator_32c93_4 : decode cJx4a65c_iterator_32c93 4 = .ok (.aload_n 0, 1) := by decide +kernel
theorem dJx4a65c_iterator_32c93_5 : decode cJx4a65c_iterator_32c93 5 = .ok (.invokespecial 269, 3) := by decide +kernel
theorem dJx4a65c_iterator_32c93_8 : decode cJx4a65c_iterator_32c93 8 = .ok (.areturn, 1) := by decide +kernel
theorem dJx35411_hasNext_aae02_0 : decode cJx35411_hasNext_aae02 0 = .ok (.aload_n 0, 1) := by decide +kernel
theorem dJx35411_hasNext_aae02_1 : decode cJx35411_hasNext_aae02 1 = .ok (.getfield 25, 3) := by decide +kernel
theorem dJx35411_hasNext_aae02_4 : decode cJx35411_hasNext_aae02 4 = .ok (.aload_n 0, 1) := by decide +kernel
theorem dJx35411_hasNext_aae02_5 : decode cJx35411_hasNext_aae02 5 = .ok (.getfield 1, 3) := by decide +kernel
theorem dJx35411_hasNext_aae02_8 : decode cJx35411_hasNext_aae02 8 = .ok (.getfield 28, 3) := by decide +kernel
theorem dJx35411_hasNext_aae02_11 : decode cJx35411_hasNext_aae02 11 = .ok (.if_icmp .eq 7, 3) := by decide +kernel
theorem dJx35411_hasNext_aae02_18 : decode cJx35411_hasNext_aae02 18 = .ok (.iconst 0, 1) := by decide +kernel
theorem dJx35411_hasNext_aae02_19 : decode cJx35411_hasNext_aae02 19 = .ok (.ireturn, 1) := by decide +kernel
theorem dJx4a65c_grow_92f84_0 : decode cJx4a65c_grow_92f84 0 = .ok (.aload_n 0, 1) := by decide +kernel
theorem dJx4a65c_grow_92f84_1 : decode cJx4a65c_grow_92f84 1 = .ok (.getfield 9, 3) := by decide +kernel
theorem dJx4a65c_grow_92f84_4 : decode cJx4a65c_grow_92f84 4 = .ok (.arraylength, 1) := by decide +kernel
theorem dJx4a65c_grow_92f84_5 : decode cJx4a65c_grow_92f84 5 = .ok (.istore_n 2, 1) := by decide +kernel
theorem dJx4a65c_grow_92f84_6 : decode cJx4a65c_grow_92f84 6 = .ok (.iload_n 2, 1) := by decide +kernel
theorem dJx4a65c_grow_92f84_7 : decode cJx4a65c_grow_92f84 7 = .ok (.ifCond .gt 13, 3) := by decide +kernel
theorem dJx4a65c_grow_92f84_10 : decode cJx4a65c_grow_92f84 10 = .ok (.aload_n 0, 1) := by decide +kernel
theorem dJx4a65c_grow_92f84_11 : decode cJx4a65c_grow_92f84 11 = .ok (.getfield 9, 3) := by decide +kernel
theorem dJx4a65c_grow_92f84_14 : decode cJx4a65c_grow_92f84 14 = .ok (.getstatic 39, 3) := by decide +kernel
theorem dJx4a65c_grow_92f84_17 : decode cJx4a65c_grow_92f84 17 = .ok (.if_acmp .eq 28, 3) := by decide +kernel
theorem dJx4a65c_grow_92f84_45 : decode cJx4a65c_grow_92f84 45 = .ok (.aload_n 0, 1) := by decide +kernel
theorem dJx4a65c_grow_92f84_46 : decode cJx4a65c_grow_92f84 46 = .ok (.bipush 10, 2) := by decide +kernel
theorem dJx4a65c_grow_92f84_48 : decode cJx4a65c_grow_92f84 48 = .ok (.iload_n 1, 1) := by decide +kernel
theorem dJx4a65c_grow_92f84_49 : decode cJx4a65c_grow_92f84 49 = .ok (.invokestatic 79, 3) := by decide +kernel
theorem dJx4a65c_grow_92f84_52 : decode cJx4a65c_grow_92f84 52 = .ok (.anewarray 7, 3) := by decide +kernel
theorem dJx4a65c_grow_92f84_55 : decode cJx4a65c_grow_92f84 55 = .ok (.dup_x1, 1) := by decide +kernel
theorem dJx4a65c_grow_92f84_56 : decode cJx4a65c_grow_92f84 56 = .ok (.putfield 9, 3) := by decide +kernel
theorem dJx4a65c_grow_92f84_59 : decode cJx4a65c_grow_92f84 59 = .ok (.areturn, 1) := by decide +kernel
theorem dJx4a65c_grow_d5877_0 : decode cJx4a65c_grow_d5877 0 = .ok (.aload_n 0, 1) := by decide +kernel
theorem dJx4a65c_grow_d5877_1 : decode cJx4a65c_grow_d5877 1 = .ok (.aload_n 0, 1) := by decide +kernel
theorem dJx4a65c_grow_d5877_2 : decode cJx4a65c_grow_d5877 2 = .ok (.getfield 48, 3) := by decide +kernel
theorem dJx4a65c_grow_d5877_5 : decode cJx4a65c_grow_d5877 5 = .ok (.iconst 1, 1) := by decide +kernel
theorem dJx4a65c_grow_d5877_6 : decode cJx4a65c_grow_d5877 6 = .ok (.iadd, 1) := by decide +kernel
theorem dJx4a65c_grow_d5877_7 : decode cJx4a65c_grow_d5877 7 = .ok (.invokevirtual 69, 3) := by decide +kernel
theorem dJx4a65c_grow_d5877_10 : decode cJx4a65c_grow_d5877 10 = .ok (.areturn, 1) := by decide +kernel
theorem dJx4a65c_add_72be8_0 : decode cJx4a65c_add_72be8 0 = .ok (.iload_n 3, 1) := by decide +kernel
theorem dJx4a65c_add_72be8_1 : decode cJx4a65c_add_72be8 1 = .ok (.aload_n 2, 1) := by decide +kernel
theorem dJx4a65c_add_72be8_2 : decode cJx4a65c_add_72be8 2 = .ok (.arraylength, 1) := by decide +kernel
theorem dJx4a65c_add_72be8_3 : decode cJx4a65c_add_72be8 3 = .ok (.if_icmp .ne 8, 3) := by decide +kernel
theorem dJx4a65c_add_72be8_6 : decode cJx4a65c_add_72be8 6 = .ok (.aload_n 0, 1) := by decide +kernel
theorem dJx4a65c_add_72be8_7 : decode cJx4a65c_add_72be8 7 = .ok (.invokevirtual 129, 3) := by decide +kernel
theorem dJx4a65c_add_72be8_10 : decode cJx4a65c_add_72be8 10 = .ok (.astore_n 2, 1) := by decide +kernel
theorem dJx4a65c_add_72be8_11 : decode cJx4a65c_add_72be8 11 = .ok (.aload_n 2, 1) := by decide +kernel
theorem dJx4a65c_add_72be8_12 : decode cJx4a65c_add_72be8 12 = .ok (.iload_n 3, 1) := by decide +kernel
theorem dJx4a65c_add_72be8_13 : decode cJx4a65c_add_72be8 13 = .ok (.aload_n 1, 1) := by decide +kernel
theorem dJx4a65c_add_72be8_14 : decode cJx4a65c_add_72be8 14 = .ok (.aastore, 1) := by decide +kernel
theorem dJx4a65c_add_72be8_15 : decode cJx4a65c_add_72be8 15 = .ok (.aload_n 0, 1) := by decide +kernel
theorem dJx4a65c_add_72be8_16 : decode cJx4a65c_add_72be8 16 = .ok (.iload_n 3, 1) := by decide +kernel
theorem dJx4a65c_add_72be8_17 : decode cJx4a65c_add_72be8 17 = .ok (.iconst 1, 1) := by decide +kernel
theorem dJx4a65c_add_72be8_18 : decode cJx4a65c_add_72be8 18 = .ok (.iadd, 1) := by decide +kernel
theorem dJx4a65c_add_72be8_19 : decode cJx4a65c_add_72be8 19 = .ok (.putfield 48, 3) := by decide +kernel
theorem dJx4a65c_add_72be8_22 : decode cJx4a65c_add_72be8 22 = .ok (.return_, 1) := by decide +kernel
theorem dJx4a65c_add_9ea2d_0 : decode cJx4a65c_add_9ea2d 0 = .ok (.aload_n 0, 1) := by decide +kernel
theorem dJx4a65c_add_9ea2d_1 : decode cJx4a65c_add_9ea2d 1 = .ok (.dup, 1) := by decide +kernel
theorem dJx4a65c_add_9ea2d_2 : decode cJx4a65c_add_9ea2d 2 = .ok (.getfield 63, 3) := by decide +kernel
theorem dJx4a65c_add_9ea2d_5 : decode cJx4a65c_add_9ea2d 5 = .ok (.iconst 1, 1) := by decide +kernel
theorem dJx4a65c_add_9ea2d_6 : decode cJx4a65c_add_9ea2d 6 = .ok (.iadd, 1) := by decide +kernel
theorem dJx4a65c_add_9ea2d_7 : decode cJx4a65c_add_9ea2d 7 = .ok (.putfield 63, 3) := by decide +kernel
theorem dJx4a65c_add_9ea2d_10 : decode cJx4a65c_add_9ea2d 10 = .ok (.aload_n 0, 1) := by decide +kernel
theorem dJx4a65c_add_9ea2d_11 : decode cJx4a65c_add_9ea2d 11 = .ok (.aload_n 1, 1) := by decide +kernel
theorem dJx4a65c_add_9ea2d_12 : decode cJx4a65c_add_9ea2d 12 = .ok (.aload_n 0, 1) := by decide +kernel
theorem dJx4a65c_add_9ea2d_13 : decode cJx4a65c_add_9ea2d 13 = .ok (.getfield 9, 3) := by decide +kernel
theorem dJx4a65c_add_9ea2d_16 : decode cJx4a65c_add_9ea2d 16 = .ok (.aload_n 0, 1) := by decide +kernel
theorem dJx4a65c_add_9ea2d_17 : decode cJx4a65c_add_9ea2d 17 = .ok (.getfield 48, 3) := by decide +kernel
theorem dJx4a65c_add_9ea2d_20 : decode cJx4a65c_add_9ea2d 20 = .ok (.invokevirtual 131, 3) := by decide +kernel
theorem dJx4a65c_add_9ea2d_23 : decode cJx4a65c_add_9ea2d 23 = .ok (.iconst 1, 1) := by decide +kernel
theorem dJx4a65c_add_9ea2d_24 : decode cJx4a65c_add_9ea2d 24 = .ok (.ireturn, 1) := by decide +kernel
theorem dX12_init_0 : decode cX12_init 0 = .ok (.aload_n 0, 1) := by decide +kernel
theorem dX12_init_1 : decode cX12_init 1 = .ok (.invokespecial 42, 3) := by decide +kernel
theorem dX12_init_4 : decode cX12_init 4 = .ok (.aload_n 0, 1) := by decide +kernel
theorem dX12_init_5 : decode cX12_init 5 = .ok (.bipush 17, 2) := by decide +kernel
theorem dX12_init_7 : decode cX12_init 7 = .ok (.anewarray 47, 3) := by decide +kernel
theorem dX12_init_10 : decode cX12_init 10 = .ok (.putfield 3, 3) := by decide +kernel
theorem dX12_init_13 : decode cX12_init 13 = .ok (.return_, 1) := by decide +kernel
theorem dX12_sub_0 : decode cX12_sub 0 = .ok (.iload_n 0, 1) := by decide +kernel
theorem dX12_sub_1 : decode cX12_sub 1 = .ok (.iload_n 1, 1) := by decide +kernel
theorem dX12_sub_2 : decode cX12_sub 2 = .ok (.isub, 1) := by decide +kernel
theorem dX12_sub_3 : decode cX12_sub 3 = .ok (.dup, 1) := by decide +kernel
theorem dX12_sub_4 : decode cX12_sub 4 = .ok (.istore_n 0, 1) := by decide +kernel
theorem dX12_sub_5 : decode cX12_sub 5 = .ok (.ifCond .ge 7, 3) := by decide +kernel
theorem dX12_sub_12 : decode cX12_sub 12 = .ok (.iload_n 0, 1) := by decide +kernel
theorem dX12_sub_13 : decode cX12_sub 13 = .ok (.ireturn, 1) := by decide +kernel
theorem dX12_inc_0 : decode cX12_inc 0 = .ok (.iinc 0 1, 3) := by decide +kernel
theorem dX12_inc_3 : decode cX12_inc 3 = .ok (.iload_n 0, 1) := by decide +kernel
theorem dX12_inc_4 : decode cX12_inc 4 = .ok (.iload_n 1, 1) := by decide +kernel
theorem dX12_inc_5 : decode cX12_inc 5 = .ok (.if_icmp .lt 5, 3) := by decide +kernel
theorem dX12_inc_10 : decode cX12_inc 10 = .ok (.iload_n 0, 1) := by decide +kernel
theorem dX12_inc_11 : decode cX12_inc 11 = .ok (.ireturn, 1) := by decide +kernel
theorem dX12_size_0 : decode cX12_size 0 = .ok (.aload_n 0, 1) := by decide +kernel
theorem dX12_size_1 : decode cX12_size 1 = .ok (.getfield 20, 3) := by decide +kernel
theorem dX12_size_4 : decode cX12_size 4 = .ok (.aload_n 0, 1) := by decide +kernel
theorem dX12_size_5 : decode cX12_size 5 = .ok (.getfield 24, 3) := by decide +kernel
theorem dX12_size_8 : decode cX12_size 8 = .ok (.aload_n 0, 1) := by decide +kernel
theorem dX12_size_9 : decode cX12_size 9 = .ok (.getfield 3, 3) := by decide +kernel
theorem dX12_size_12 : decode cX12_size 12 = .ok (.arraylength, 1) := by decide +kernel
theorem dX12_size_13 : decode cX12_size 13 = .ok (.invokestatic 127, 3) := by decide +kernel
theorem dX12_size_16 : decode cX12_size 16 = .ok (.ireturn, 1) := by decide +kernel
theorem dX12_addLast_0 : decode cX12_addLast 0 = .ok (.aload_n 1, 1) := by decide +kernel
theorem dX12_addLast_1 : decode cX12_addLast 1 = .ok (.ifnonnull 11, 3) := by decide +kernel
theorem dX12_addLast_12 : decode cX12_addLast 12 = .ok (.aload_n 0, 1) := by decide +kernel
theorem dX12_addLast_13 : decode cX12_addLast 13 = .ok (.getfield 3, 3) := by decide +kernel
theorem dX12_addLast_16 : decode cX12_addLast 16 = .ok (.astore_n 2, 1) := by decide +kernel
theorem dX12_addLast_17 : decode cX12_addLast 17 = .ok (.aload_n 2, 1) := by decide +kernel
theorem dX12_addLast_18 : decode cX12_addLast 18 = .ok (.aload_n 0, 1) := by decide +kernel
theorem dX12_addLast_19 : decode cX12_addLast 19 = .ok (.getfield 20, 3) := by decide +kernel
theorem dX12_addLast_22 : decode cX12_addLast 22 = .ok (.aload_n 1, 1) := by decide +kernel
theorem dX12_addLast_23 : decode cX12_addLast 23 = .ok (.aastore, 1) := by decide +kernel
theorem dX12_addLast_24 : decode cX12_addLast 24 = .ok (.aload_n 0, 1) := by decide +kernel
theorem dX12_addLast_25 : decode cX12_addLast 25 = .ok (.getfield 24, 3) := by decide +kernel
theorem dX12_addLast_28 : decode cX12_addLast 28 = .ok (.aload_n 0, 1) := by decide +kernel
theorem dX12_addLast_29 : decode cX12_addLast 29 = .ok (.aload_n 0, 1) := by decide +kernel
theorem dX12_addLast_30 : decode cX12_addLast 30 = .ok (.getfield 20, 3) := by decide +kernel
theorem dX12_addLast_33 : decode cX12_addLast 33 = .ok (.aload_n 2, 1) := by decide +kernel
theorem dX12_addLast_34 : decode cX12_addLast 34 = .ok (.arraylength, 1) := by decide +kernel
theorem dX12_addLast_35 : decode cX12_addLast 35 = .ok (.invokestatic 74, 3) := by decide +kernel
theorem dX12_addLast_38 : decode cX12_addLast 38 = .ok (.dup_x1, 1) := by decide +kernel
theorem dX12_addLast_39 : decode cX12_addLast 39 = .ok (.putfield 20, 3) := by decide +kernel
theorem dX12_addLast_42 : decode cX12_addLast 42 = .ok (.if_icmp .ne 8, 3) := by decide +kernel
theorem dX12_addLast_50 : decode cX12_addLast 50 = .ok (.return_, 1) := by decide +kernel
theorem dJ6_valueOf_2dffe_0 : decode cJ6_valueOf_2dffe 0 = .ok (.iload_n 0, 1) := by decide +kernel
theorem dJ6_valueOf_2dffe_1 : decode cJ6_valueOf_2dffe 1 = .ok (.bipush (-128), 2) := by decide +kernel
theorem dJ6_valueOf_2dffe_3 : decode cJ6_valueOf_2dffe 3 = .ok (.if_icmp .lt 20, 3) := by decide +kernel
theorem dJ6_valueOf_2dffe_6 : decode cJ6_valueOf_2dffe 6 = .ok (.iload_n 0, 1) := by decide +kernel
theorem dJ6_valueOf_2dffe_7 : decode cJ6_valueOf_2dffe 7 = .ok (.getstatic 191, 3) := by decide +kernel
theorem dJ6_valueOf_2dffe_10 : decode cJ6_valueOf_2dffe 10 = .ok (.if_icmp .gt 13, 3) := by decide +kernel
theorem dJ6_valueOf_2dffe_13 : decode cJ6_valueOf_2dffe 13 = .ok (.getstatic 195, 3) := by decide +kernel
theorem dJ6_valueOf_2dffe_16 : decode cJ6_valueOf_2dffe 16 = .ok (.iload_n 0, 1) := by decide +kernel
theorem dJ6_valueOf_2dffe_17 : decode cJ6_valueOf_2dffe 17 = .ok (.sipush 128, 3) := by decide +kernel
theorem dJ6_valueOf_2dffe_20 : decode cJ6_valueOf_2dffe 20 = .ok (.iadd, 1) := by decide +kernel
theorem dJ6_valueOf_2dffe_21 : decode cJ6_valueOf_2dffe 21 = .ok (.aaload, 1) := by decide +kernel
theorem dJ6_valueOf_2dffe_22 : decode cJ6_valueOf_2dffe 22 = .ok (.areturn, 1) := by decide +kernel
set_option maxHeartbeats 4000000 in
set_option maxRecDepth 100000 in
theorem c_Jxa1e45_init_L (l : Launch) (hfl : l.stackTraces = false) (g : GP) (z0 : Nat)  : CV l yJxa1e45_init_da8c8 (wG yJxa1e45_init_da8c8 cJxa1e45_init_da8c8 1 (Option.none : Option Jvm.ClassFile.FieldType)) (LV 2 0 0) g [.ref z0] ([(z0, .inr (1, [.int 0, .null, .int 0]))]) (fun (u : va_W) => u = [(z0, .inr (1, [.int 0, .null, .int 0]))]) := by
  intro sz
  refine Met.ofW (cc := cJxa1e45_init_da8c8) (maxL := 1) (ret := (Option.none : Option Jvm.ClassFile.FieldType)) (by decide) rfl ?_
  intro p e s m args below meth c s₁ B hml hv
  obtain ⟨rfl, hsz, hP, hK, hD0, hT0⟩ := hv
  have hx := B.exec
  have hb := B.bytes
  have hr := B.returns
  have hts := atoms_spec (ws := (wG yJxa1e45_init_da8c8 cJxa1e45_init_da8c8 1 (Option.none : Option Jvm.ClassFile.FieldType))) B.pre
  have htg : ∀ w ∈ G9, w.before _ s = true := fun w h => hts w (List.mem_cons_of_mem _ h)
  have hown : s.vm.findClass "java/util/AbstractCollection" = some m.cls := findClass_of_methodNamed B.named
  have hlocks := B.notSynchronized
  have hin : meth.name = "<init>" := (name_of_methodNamed B.named B.method).1
  subst hsz
  have hD := hD0.self (sz := s.heap.size)
  have hT := hT0
  clear hT0
  generalize hAe : va_A [(z0, .inr (1, [.int 0, .null, .int 0]))] s.heap.size = A at hD hT ⊢
  have hA : ∀ q : Nat, s.heap.size ≤ q → A q := fun q h => by rw [← hAe]; exact Or.inr h
  obtain ⟨H, hH0⟩ : ∃ H, H = s.heap := ⟨_, rfl⟩
  have hS : va_S A s.heap H [] := by rw [hH0]; exact va_S.rf
  have hP : va_P g.1 CLS [(z0, .inr (1, [.int 0, .null, .int 0]))] H := by rw [hH0]; exact hP
  rw [← hH0]
  have hl := lv_entry ([.ref z0]) (n := 1) (Nat.le_of_ble_eq_true rfl)
  rw [lg_entry_eq]
  generalize (lg_sl ([.ref z0]) ++ List.replicate (1 - (lg_sl ([.ref z0])).length) Slot.unset).toArray = ls at hl ⊢
  have hl : lv_has ls 1 [(0, .ref z0)] := hl
  refine lv_aload_n hx hb dJxa1e45_init_da8c8_0 rfl (lv_at hl 0 rfl) ?_
  refine W.objInit hx hb hown (htg _ k1304) (htg _ k98) (htg _ k99) rfl (by rw [hml]; exact hl.1) rfl dJxa1e45_init_da8c8_1 (Nat.le_of_ble_eq_true rfl) (Nat.le_of_ble_eq_true rfl) ?_
  refine W.eq (g2 := F0 m 4 ls []) rfl ?_
  have hP9 := hP.sub (ws' := [(z0, .inr (1, [.int 0, .null, .int 0]))]) [0] rfl
  have hD9 := hD.sub (ws' := [(z0, .inr (1, [.int 0, .null, .int 0]))]) [0] (by decide) rfl
  refine W.widen (k := 0) (n := 0) (Nat.le_of_ble_eq_true rfl) (Nat.le_of_ble_eq_true rfl) ?_
  exact W.vret hx hb hr (fun t ht hW => ⟨⟨[(z0, .inr (1, [.int 0, .null, .int 0]))], rfl, rfl, by rw [ht]; exact hP9, va_K.moved hW.alike hK, hD9⟩, hS.F ht⟩) hS.2.2 dJxa1e45_init_da8c8_4

set_option maxHeartbeats 4000000 in
set_option maxRecDepth 100000 in
theorem c_Jxa1e45_init_D (l : Launch) (hfl : l.stackTraces = false) (g : GP) (z0 : Nat)  : CV l yJxa1e45_init_da8c8 (wG yJxa1e45_init_da8c8 cJxa1e45_init_da8c8 1 (Option.none : Option Jvm.ClassFile.FieldType)) (LV 2 0 0) g [.ref z0] ([(z0, .inr (12, [.null, .int 0, .int 0]))]) (fun (u : va_W) => u = [(z0, .inr (12, [.null, .int 0, .int 0]))]) := by
  intro sz
  refine Met.ofW (cc := cJxa1e45_init_da8c8) (maxL := 1) (ret := (Option.none : Option Jvm.ClassFile.FieldType)) (by decide) rfl ?_
  intro p e s m args below meth c s₁ B hml hv
  obtain ⟨rfl, hsz, hP, hK, hD0, hT0⟩ := hv
  have hx := B.exec
  have hb := B.bytes
  have hr := B.returns
  have hts := atoms_spec (ws := (wG yJxa1e45_init_da8c8 cJxa1e45_init_da8c8 1 (Option.none : Option Jvm.ClassFile.FieldType))) B.pre
  have htg : ∀ w ∈ G9, w.before _ s = true := fun w h => hts w (List.mem_cons_of_mem _ h)
  have hown : s.vm.findClass "java/util/AbstractCollection" = some m.cls := findClass_of_methodNamed B.named
  have hlocks := B.notSynchronized
  have hin : meth.name = "<init>" := (name_of_methodNamed B.named B.method).1
  subst hsz
  have hD := hD0.self (sz := s.heap.size)
  have hT := hT0
  clear hT0
  generalize hAe : va_A [(z0, .inr (12, [.null, .int 0, .int 0]))] s.heap.size = A at hD hT ⊢
  have hA : ∀ q : Nat, s.heap.size ≤ q → A q := fun q h => by rw [← hAe]; exact Or.inr h
  obtain ⟨H, hH0⟩ : ∃ H, H = s.heap := ⟨_, rfl⟩
  have hS : va_S A s.heap H [] := by rw [hH0]; exact va_S.rf
  have hP : va_P g.1 CLS [(z0, .inr (12, [.null, .int 0, .int 0]))] H := by rw [hH0]; exact hP
  rw [← hH0]
  have hl := lv_entry ([.ref z0]) (n := 1) (Nat.le_of_ble_eq_true rfl)
  rw [lg_entry_eq]
  generalize (lg_sl ([.ref z0]) ++ List.replicate (1 - (lg_sl ([.ref z0])).length) Slot.unset).toArray = ls at hl ⊢
  have hl : lv_has ls 1 [(0, .ref z0)] := hl
  refine lv_aload_n hx hb dJxa1e45_init_da8c8_0 rfl (lv_at hl 0 rfl) ?_
  refine W.objInit hx hb hown (htg _ k1304) (htg _ k98) (htg _ k99) rfl (by rw [hml]; exact hl.1) rfl dJxa1e45_init_da8c8_1 (Nat.le_of_ble_eq_true rfl) (Nat.le_of_ble_eq_true rfl) ?_
  refine W.eq (g2 := F0 m 4 ls []) rfl ?_
  have hP9 := hP.sub (ws' := [(z0, .inr (12, [.null, .int 0, .int 0]))]) [0] rfl
  have hD9 := hD.sub (ws' := [(z0, .inr (12, [.null, .int 0, .int 0]))]) [0] (by decide) rfl
  refine W.widen (k := 0) (n := 0) (Nat.le_of_ble_eq_true rfl) (Nat.le_of_ble_eq_true rfl) ?_
  exact W.vret hx hb hr (fun t ht hW => ⟨⟨[(z0, .inr (12, [.null, .int 0, .int 0]))], rfl, rfl, by rw [ht]; exact hP9, va_K.moved hW.alike hK, hD9⟩, hS.F ht⟩) hS.2.2 dJxa1e45_init_da8c8_4

set_option maxHeartbeats 4000000 in
set_option maxRecDepth 100000 in
theorem c_Jxc12de_init (l : Launch) (hfl : l.stackTraces = false) (g : GP) (z0 : Nat)  : CV l yJxc12de_init_da8c8 (wG yJxc12de_init_da8c8 cJxc12de_init_da8c8 1 (Option.none : Option Jvm.ClassFile.FieldType)) (LV 3 0 0) g [.ref z0] ([(z0, .inr (1, [.int 0, .null, .int 0]))]) (fun (u : va_W) => u = [(z0, .inr (1, [.int 0, .null, .int 0]))]) := by
  intro sz
  refine Met.ofW (cc := cJxc12de_init_da8c8) (maxL := 1) (ret := (Option.none : Option Jvm.ClassFile.FieldType)) (by decide) rfl ?_
  intro p e s m args below meth c s₁ B hml hv
  obtain ⟨rfl, hsz, hP, hK, hD0, hT0⟩ := hv
  have hx := B.exec
  have hb := B.bytes
  have hr := B.returns
  have hts := atoms_spec (ws := (wG yJxc12de_init_da8c8 cJxc12de_init_da8c8 1 (Option.none : Option Jvm.ClassFile.FieldType))) B.pre
  have htg : ∀ w ∈ G9, w.before _ s = true := fun w h => hts w (List.mem_cons_of_mem _ h)
  have hown : s.vm.findClass "java/util/AbstractList" = some m.cls := findClass_of_methodNamed B.named
  have hlocks := B.notSynchronized
  have hin : meth.name = "<init>" := (name_of_methodNamed B.named B.method).1
  subst hsz
  have hD := hD0.self (sz := s.heap.size)
  have hT := hT0
  clear hT0
  generalize hAe : va_A [(z0, .inr (1, [.int 0, .null, .int 0]))] s.heap.size = A at hD hT ⊢
  have hA : ∀ q : Nat, s.heap.size ≤ q → A q := fun q h => by rw [← hAe]; exact Or.inr h
  obtain ⟨H, hH0⟩ : ∃ H, H = s.heap := ⟨_, rfl⟩
  have hS : va_S A s.heap H [] := by rw [hH0]; exact va_S.rf
  have hP : va_P g.1 CLS [(z0, .inr (1, [.int 0, .null, .int 0]))] H := by rw [hH0]; exact hP
  rw [← hH0]
  have hl := lv_entry ([.ref z0]) (n := 1) (Nat.le_of_ble_eq_true rfl)
  rw [lg_entry_eq]
  generalize (lg_sl ([.ref z0]) ++ List.replicate (1 - (lg_sl ([.ref z0])).length) Slot.unset).toArray = ls at hl ⊢
  have hl : lv_has ls 1 [(0, .ref z0)] := hl
  refine lv_aload_n hx hb dJxc12de_init_da8c8_0 rfl (lv_at hl 0 rfl) ?_
  have hPc := hP.sub (ws' := [(z0, .inr (1, [.int 0, .null, .int 0]))]) [0] rfl
  have hDc := hD.sub (ws' := [(z0, .inr (1, [.int 0, .null, .int 0]))]) [0] (by decide) rfl
  have hFc := va_free (wc := [(z0, .inr (1, [.int 0, .null, .int 0]))]) hD hS hA [0] rfl
  refine q_cv (wr := []) (va_runI (As := []) (rest := []) ⟨hx, hb, hml, hown, htg⟩ (c_Jxa1e45_init_L l hfl g z0  H.size) ⟨(qB htg k1303 k58 k1301 ok_Jxa1e45_init_da8c8 rfl rfl ⟨Nat.le_of_ble_eq_true rfl, Nat.le_of_ble_eq_true rfl⟩), rfl, htg _ k1302⟩ (q_pre [.ref z0] hPc hDc hK hS hT hFc) rfl rfl hl.1 rfl (lv_room (Nat.le_of_ble_eq_true rfl)) dJxc12de_init_da8c8_1 ⟨Nat.le_of_ble_eq_true rfl, Nat.le_of_ble_eq_true rfl⟩) hP hD hS hFc [0] [] rfl rfl (by decide) (by decide) (fun u9 H locs hw hP hD hS => ?_)
  try dsimp only at hw
  rcases hw with rfl
  have hP : va_P g.1 CLS [(z0, .inr (1, [.int 0, .null, .int 0]))] H := hP
  have hD : va_D A [(z0, .inr (1, [.int 0, .null, .int 0]))] := hD
  refine W.widen (k := 0) (n := 0) (Nat.le_of_ble_eq_true rfl) (Nat.le_of_ble_eq_true rfl) ?_
  refine lv_aload_n hx hb dJxc12de_init_da8c8_4 rfl (lv_at hl 0 rfl) ?_
  refine lv_iconst (v := 0) hx hb dJxc12de_init_da8c8_5 (by decide) ?_
  refine va_put (D := g.1) (ci := 1) (v := .int 0) (ty := .int) (C := RJx4a65c) (T := TJx4a65c) (N := 3) hx hb htg inG_Jx4a65c tyJx4a65c tyJx4a65c_ok nmJx4a65c hown hK hP hD hS 0 rfl rfl 0 (by decide) (htg _ k1311) (fun _ h9 => h9) rfl (by decide +kernel) rfl rfl (Nat.le_of_ble_eq_true rfl) dJxc12de_init_da8c8_6 (fun H locs hP hD hS => ?_)
  have hP : va_P g.1 CLS [(z0, .inr (1, [.int 0, .null, .int 0]))] H := hP
  have hD : va_D A [(z0, .inr (1, [.int 0, .null, .int 0]))] := hD
  have hP9 := hP.sub (ws' := [(z0, .inr (1, [.int 0, .null, .int 0]))]) [0] rfl
  have hD9 := hD.sub (ws' := [(z0, .inr (1, [.int 0, .null, .int 0]))]) [0] (by decide) rfl
  refine W.widen (k := 0) (n := 0) (Nat.le_of_ble_eq_true rfl) (Nat.le_of_ble_eq_true rfl) ?_
  exact W.vret hx hb hr (fun t ht hW => ⟨⟨[(z0, .inr (1, [.int 0, .null, .int 0]))], rfl, rfl, by rw [ht]; exact hP9, va_K.moved hW.alike hK, hD9⟩, hS.F ht⟩) hS.2.2 dJxc12de_init_da8c8_9

set_option maxHeartbeats 4000000 in
set_option maxRecDepth 100000 in
theorem c_L_init (l : Launch) (hfl : l.stackTraces = false) (g : GP) (z0 : Nat)  : CV l yJx4a65c_init_da8c8 (wG yJx4a65c_init_da8c8 cJx4a65c_init_da8c8 1 (Option.none : Option Jvm.ClassFile.FieldType)) (LV 4 0 0) g [.ref z0] ([(z0, .inr (1, [.int 0, .null, .int 0]))]) (fun (u : va_W) => u = [(z0, .inr (1, [.int 0, .ref (g.2.2 1), .int 0]))]) := by
  intro sz
  refine Met.ofW (cc := cJx4a65c_init_da8c8) (maxL := 1) (ret := (Option.none : Option Jvm.ClassFile.FieldType)) (by decide) rfl ?_
  intro p e s m args below meth c s₁ B hml hv
  obtain ⟨rfl, hsz, hP, hK, hD0, hT0⟩ := hv
  have hx := B.exec
  have hb := B.bytes
  have hr := B.returns
  have hts := atoms_spec (ws := (wG yJx4a65c_init_da8c8 cJx4a65c_init_da8c8 1 (Option.none : Option Jvm.ClassFile.FieldType))) B.pre
  have htg : ∀ w ∈ G9, w.before _ s = true := fun w h => hts w (List.mem_cons_of_mem _ h)
  have hown : s.vm.findClass "java/util/ArrayList" = some m.cls := findClass_of_methodNamed B.named
  have hlocks := B.notSynchronized
  have hin : meth.name = "<init>" := (name_of_methodNamed B.named B.method).1
  subst hsz
  have hD := hD0.self (sz := s.heap.size)
  have hT := hT0
  clear hT0
  generalize hAe : va_A [(z0, .inr (1, [.int 0, .null, .int 0]))] s.heap.size = A at hD hT ⊢
  have hA : ∀ q : Nat, s.heap.size ≤ q → A q := fun q h => by rw [← hAe]; exact Or.inr h
  obtain ⟨H, hH0⟩ : ∃ H, H = s.heap := ⟨_, rfl⟩
  have hS : va_S A s.heap H [] := by rw [hH0]; exact va_S.rf
  have hP : va_P g.1 CLS [(z0, .inr (1, [.int 0, .null, .int 0]))] H := by rw [hH0]; exact hP
  rw [← hH0]
  have hl := lv_entry ([.ref z0]) (n := 1) (Nat.le_of_ble_eq_true rfl)
  rw [lg_entry_eq]
  generalize (lg_sl ([.ref z0]) ++ List.replicate (1 - (lg_sl ([.ref z0])).length) Slot.unset).toArray = ls at hl ⊢
  have hl : lv_has ls 1 [(0, .ref z0)] := hl
  refine lv_aload_n hx hb dJx4a65c_init_da8c8_0 rfl (lv_at hl 0 rfl) ?_
  have hPc := hP.sub (ws' := [(z0, .inr (1, [.int 0, .null, .int 0]))]) [0] rfl
  have hDc := hD.sub (ws' := [(z0, .inr (1, [.int 0, .null, .int 0]))]) [0] (by decide) rfl
  have hFc := va_free (wc := [(z0, .inr (1, [.int 0, .null, .int 0]))]) hD hS hA [0] rfl
  refine q_cv (wr := []) (va_runI (As := []) (rest := []) ⟨hx, hb, hml, hown, htg⟩ (c_Jxc12de_init l hfl g z0  H.size) ⟨(qB htg k1300 k59 k1298 ok_Jxc12de_init_da8c8 rfl rfl ⟨Nat.le_of_ble_eq_true rfl, Nat.le_of_ble_eq_true rfl⟩), rfl, htg _ k1299⟩ (q_pre [.ref z0] hPc hDc hK hS hT hFc) rfl rfl hl.1 rfl (lv_room (Nat.le_of_ble_eq_true rfl)) dJx4a65c_init_da8c8_1 ⟨Nat.le_of_ble_eq_true rfl, Nat.le_of_ble_eq_true rfl⟩) hP hD hS hFc [0] [] rfl rfl (by decide) (by decide) (fun u9 H locs hw hP hD hS => ?_)
  try dsimp only at hw
  rcases hw with rfl
  have hP : va_P g.1 CLS [(z0, .inr (1, [.int 0, .null, .int 0]))] H := hP
  have hD : va_D A [(z0, .inr (1, [.int 0, .null, .int 0]))] := hD
  refine W.widen (k := 0) (n := 0) (Nat.le_of_ble_eq_true rfl) (Nat.le_of_ble_eq_true rfl) ?_
  refine lv_aload_n hx hb dJx4a65c_init_da8c8_4 rfl (lv_at hl 0 rfl) ?_
  refine va_gets hx hb (hT.2.2.2.2.1.1) hS hown (htg _ k1305) (fun _ h9 => h9) dJx4a65c_init_da8c8_5 ?_
  refine va_put (D := g.1) (ci := 1) (v := .ref (g.2.2 1)) (ty := (.array (.object "java/lang/Object"))) (C := RJx4a65c) (T := TJx4a65c) (N := 3) hx hb htg inG_Jx4a65c tyJx4a65c tyJx4a65c_ok nmJx4a65c hown hK hP hD hS 0 rfl rfl 1 (by decide) (htg _ k1307) (fun _ h9 => h9) rfl (by decide +kernel) rfl rfl (Nat.le_of_ble_eq_true rfl) dJx4a65c_init_da8c8_8 (fun H locs hP hD hS => ?_)
  have hP : va_P g.1 CLS [(z0, .inr (1, [.int 0, .ref (g.2.2 1), .int 0]))] H := hP
  have hD : va_D A [(z0, .inr (1, [.int 0, .ref (g.2.2 1), .int 0]))] := hD
  have hP9 := hP.sub (ws' := [(z0, .inr (1, [.int 0, .ref (g.2.2 1), .int 0]))]) [0] rfl
  have hD9 := hD.sub (ws' := [(z0, .inr (1, [.int 0, .ref (g.2.2 1), .int 0]))]) [0] (by decide) rfl
  refine W.widen (k := 0) (n := 0) (Nat.le_of_ble_eq_true rfl) (Nat.le_of_ble_eq_true rfl) ?_
  exact W.vret hx hb hr (fun t ht hW => ⟨⟨[(z0, .inr (1, [.int 0, .ref (g.2.2 1), .int 0]))], rfl, rfl, by rw [ht]; exact hP9, va_K.moved hW.alike hK, hD9⟩, hS.F ht⟩) hS.2.2 dJx4a65c_init_da8c8_11

set_option maxHeartbeats 4000000 in
set_option maxRecDepth 100000 in
theorem c_L_size (l : Launch) (hfl : l.stackTraces = false) (g : GP) (z0 : Nat) (z1 : Nat) (n1 : Int32) (n2 : Int32)  : CI l yJx4a65c_size_8abf5 (wG yJx4a65c_size_8abf5 cJx4a65c_size_8abf5 1 (Option.some Jvm.ClassFile.FieldType.int)) (LV 1 0 0) g [.ref z0] ([(z0, .inr (1, [.int n1, .ref z1, .int n2]))]) (fun (r : Int32) (u : va_W) => r = n2 ∧ u = [(z0, .inr (1, [.int n1, .ref z1, .int n2]))]) := by
  intro sz
  refine Met.ofW (cc := cJx4a65c_size_8abf5) (maxL := 1) (ret := (Option.some Jvm.ClassFile.FieldType.int)) (by decide) rfl ?_
  intro p e s m args below meth c s₁ B hml hv
  obtain ⟨rfl, hsz, hP, hK, hD0, hT0⟩ := hv
  have hx := B.exec
  have hb := B.bytes
  have hr := B.returns
  have hts := atoms_spec (ws := (wG yJx4a65c_size_8abf5 cJx4a65c_size_8abf5 1 (Option.some Jvm.ClassFile.FieldType.int))) B.pre
  have htg : ∀ w ∈ G9, w.before _ s = true := fun w h => hts w (List.mem_cons_of_mem _ h)
  have hown : s.vm.findClass "java/util/ArrayList" = some m.cls := findClass_of_methodNamed B.named
  have hlocks := B.notSynchronized
  subst hsz
  have hD := hD0.self (sz := s.heap.size)
  have hT := hT0
  clear hT0
  generalize hAe : va_A [(z0, .inr (1, [.int n1, .ref z1, .int n2]))] s.heap.size = A at hD hT ⊢
  have hA : ∀ q : Nat, s.heap.size ≤ q → A q := fun q h => by rw [← hAe]; exact Or.inr h
  obtain ⟨H, hH0⟩ : ∃ H, H = s.heap := ⟨_, rfl⟩
  have hS : va_S A s.heap H [] := by rw [hH0]; exact va_S.rf
  have hP : va_P g.1 CLS [(z0, .inr (1, [.int n1, .ref z1, .int n2]))] H := by rw [hH0]; exact hP
  rw [← hH0]
  have hl := lv_entry ([.ref z0]) (n := 1) (Nat.le_of_ble_eq_true rfl)
  rw [lg_entry_eq]
  generalize (lg_sl ([.ref z0]) ++ List.replicate (1 - (lg_sl ([.ref z0])).length) Slot.unset).toArray = ls at hl ⊢
  have hl : lv_has ls 1 [(0, .ref z0)] := hl
  refine lv_aload_n hx hb dJx4a65c_size_8abf5_0 rfl (lv_at hl 0 rfl) ?_
  refine va_get (D := g.1) (ci := 1) (v := .int n2) (C := RJx4a65c) (T := TJx4a65c) (N := 3) hx hb htg inG_Jx4a65c hown hK hP 0 rfl rfl 2 (by decide) (htg _ k1310) (fun _ h9 => h9) rfl dJx4a65c_size_8abf5_1 ?_
  have hP9 := hP.sub (ws' := [(z0, .inr (1, [.int n1, .ref z1, .int n2]))]) [0] rfl
  have hD9 := hD.sub (ws' := [(z0, .inr (1, [.int n1, .ref z1, .int n2]))]) [0] (by decide) rfl
  refine W.widen (k := 0) (n := 0) (Nat.le_of_ble_eq_true rfl) (Nat.le_of_ble_eq_true rfl) ?_
  exact W.iret (v := n2) hx hb hr (fun t ht hW => ⟨⟨n2, [(z0, .inr (1, [.int n1, .ref z1, .int n2]))], rfl, ⟨rfl, rfl⟩, by rw [ht]; exact hP9, va_K.moved hW.alike hK, hD9⟩, hS.F ht⟩) hS.2.2 dJx4a65c_size_8abf5_4

set_option maxHeartbeats 4000000 in
set_option maxRecDepth 100000 in
theorem c_L_isEmpty (l : Launch) (hfl : l.stackTraces = false) (g : GP) (z0 : Nat)  : CI l yJx4a65c_isEmpty_aae02 (wG yJx4a65c_isEmpty_aae02 cJx4a65c_isEmpty_aae02 1 (Option.some Jvm.ClassFile.FieldType.boolean)) (LV 1 0 0) g [.ref z0] ([(z0, .inr (1, [.int 0, .ref (g.2.2 1), .int 0]))]) (fun (r : Int32) (u : va_W) => r = 1 ∧ u = [(z0, .inr (1, [.int 0, .ref (g.2.2 1), .int 0]))]) := by
  intro sz
  refine Met.ofW (cc := cJx4a65c_isEmpty_aae02) (maxL := 1) (ret := (Option.some Jvm.ClassFile.FieldType.boolean)) (by decide) rfl ?_
  intro p e s m args below meth c s₁ B hml hv
  obtain ⟨rfl, hsz, hP, hK, hD0, hT0⟩ := hv
  have hx := B.exec
  have hb := B.bytes
  have hr := B.returns
  have hts := atoms_spec (ws := (wG yJx4a65c_isEmpty_aae02 cJx4a65c_isEmpty_aae02 1 (Option.some Jvm.ClassFile.FieldType.boolean))) B.pre
  have htg : ∀ w ∈ G9, w.before _ s = true := fun w h => hts w (List.mem_cons_of_mem _ h)
  have hown : s.vm.findClass "java/util/ArrayList" = some m.cls := findClass_of_methodNamed B.named
  have hlocks := B.notSynchronized
  subst hsz
  have hD := hD0.self (sz := s.heap.size)
  have hT := hT0
  clear hT0
  generalize hAe : va_A [(z0, .inr (1, [.int 0, .ref (g.2.2 1), .int 0]))] s.heap.size = A at hD hT ⊢
  have hA : ∀ q : Nat, s.heap.size ≤ q → A q := fun q h => by rw [← hAe]; exact Or.inr h
  obtain ⟨H, hH0⟩ : ∃ H, H = s.heap := ⟨_, rfl⟩
  have hS : va_S A s.heap H [] := by rw [hH0]; exact va_S.rf
  have hP : va_P g.1 CLS [(z0, .inr (1, [.int 0, .ref (g.2.2 1), .int 0]))] H := by rw [hH0]; exact hP
  rw [← hH0]
  have hl := lv_entry ([.ref z0]) (n := 1) (Nat.le_of_ble_eq_true rfl)
  rw [lg_entry_eq]
  generalize (lg_sl ([.ref z0]) ++ List.replicate (1 - (lg_sl ([.ref z0])).length) Slot.unset).toArray = ls at hl ⊢
  have hl : lv_has ls 1 [(0, .ref z0)] := hl
  refine lv_aload_n hx hb dJx4a65c_isEmpty_aae02_0 rfl (lv_at hl 0 rfl) ?_
  refine va_get (D := g.1) (ci := 1) (v := .int 0) (C := RJx4a65c) (T := TJx4a65c) (N := 3) hx hb htg inG_Jx4a65c hown hK hP 0 rfl rfl 2 (by decide) (htg _ k1310) (fun _ h9 => h9) rfl dJx4a65c_isEmpty_aae02_1 ?_
  refine lv_if_ne (tgt := 11) hx hb dJx4a65c_isEmpty_aae02_4 (by decide) (fun c_1 => absurd (by decide) c_1) (fun c_1 => ?_)
  refine lv_iconst (v := 1) hx hb dJx4a65c_isEmpty_aae02_7 (by decide) ?_
  refine lv_goto (tgt := 12) hx hb dJx4a65c_isEmpty_aae02_8 (by decide) ?_
  have hP9 := hP.sub (ws' := [(z0, .inr (1, [.int 0, .ref (g.2.2 1), .int 0]))]) [0] rfl
  have hD9 := hD.sub (ws' := [(z0, .inr (1, [.int 0, .ref (g.2.2 1), .int 0]))]) [0] (by decide) rfl
  refine W.widen (k := 0) (n := 0) (Nat.le_of_ble_eq_true rfl) (Nat.le_of_ble_eq_true rfl) ?_
  exact W.zret (v := 1) hx hb hr rfl (fun t ht hW => ⟨⟨1, [(z0, .inr (1, [.int 0, .ref (g.2.2 1), .int 0]))], rfl, ⟨rfl, rfl⟩, by rw [ht]; exact hP9, va_K.moved hW.alike hK, hD9⟩, hS.F ht⟩) hS.2.2 dJx4a65c_isEmpty_aae02_12

set_option maxHeartbeats 4000000 in
set_option maxRecDepth 100000 in
theorem c_Itr_init (l : Launch) (hfl : l.stackTraces = false) (g : GP) (z0 : Nat) (z1 : Nat)  : CV l yJx35411_init_45d68 (wG yJx35411_init_45d68 cJx35411_init_45d68 2 (Option.none : Option Jvm.ClassFile.FieldType)) (LV 2 0 0) g [.ref z0, .ref z1] ([(z0, .inr (0, [.int 0, .int 0, .int 0, .null])), (z1, .inr (1, [.int 0, .ref (g.2.2 1), .int 0]))]) (fun (u : va_W) => u = [(z0, .inr (0, [.int 0, .int (-1), .int 0, .ref z1])), (z1, .inr (1, [.int 0, .ref (g.2.2 1), .int 0]))]) := by
  intro sz
  refine Met.ofW (cc := cJx35411_init_45d68) (maxL := 2) (ret := (Option.none : Option Jvm.ClassFile.FieldType)) (by decide) rfl ?_
  intro p e s m args below meth c s₁ B hml hv
  obtain ⟨rfl, hsz, hP, hK, hD0, hT0⟩ := hv
  have hx := B.exec
  have hb := B.bytes
  have hr := B.returns
  have hts := atoms_spec (ws := (wG yJx35411_init_45d68 cJx35411_init_45d68 2 (Option.none : Option Jvm.ClassFile.FieldType))) B.pre
  have htg : ∀ w ∈ G9, w.before _ s = true := fun w h => hts w (List.mem_cons_of_mem _ h)
  have hown : s.vm.findClass "java/util/ArrayList$Itr" = some m.cls := findClass_of_methodNamed B.named
  have hlocks := B.notSynchronized
  have hin : meth.name = "<init>" := (name_of_methodNamed B.named B.method).1
  subst hsz
  have hD := hD0.self (sz := s.heap.size)
  have hT := hT0
  clear hT0
  generalize hAe : va_A [(z0, .inr (0, [.int 0, .int 0, .int 0, .null])), (z1, .inr (1, [.int 0, .ref (g.2.2 1), .int 0]))] s.heap.size = A at hD hT ⊢
  have hA : ∀ q : Nat, s.heap.size ≤ q → A q := fun q h => by rw [← hAe]; exact Or.inr h
  obtain ⟨H, hH0⟩ : ∃ H, H = s.heap := ⟨_, rfl⟩
  have hS : va_S A s.heap H [] := by rw [hH0]; exact va_S.rf
  have hP : va_P g.1 CLS [(z0, .inr (0, [.int 0, .int 0, .int 0, .null])), (z1, .inr (1, [.int 0, .ref (g.2.2 1), .int 0]))] H := by rw [hH0]; exact hP
  rw [← hH0]
  have hl := lv_entry ([.ref z0, .ref z1]) (n := 2) (Nat.le_of_ble_eq_true rfl)
  rw [lg_entry_eq]
  generalize (lg_sl ([.ref z0, .ref z1]) ++ List.replicate (2 - (lg_sl ([.ref z0, .ref z1])).length) Slot.unset).toArray = ls at hl ⊢
  have hl : lv_has ls 2 [(0, .ref z0), (1, .ref z1)] := hl
  refine lv_aload_n hx hb dJx35411_init_45d68_0 rfl (lv_at hl 0 rfl) ?_
  refine lv_aload_n hx hb dJx35411_init_45d68_1 rfl (lv_at hl 1 rfl) ?_
  refine va_putF (D := g.1) (ci := 0) (v := .ref z1) (ty := (.object "java/util/ArrayList")) (C := RJx35411) (T := TJx35411) (N := 4) hx hb htg inG_Jx35411 tyJx35411 tyJx35411_ok nmJx35411 hown hK hP hD hS 0 rfl rfl 3 (by decide) (htg _ k1436) (fun _ h9 => h9) rfl hin rfl (by decide +kernel) rfl rfl (Nat.le_of_ble_eq_true rfl) dJx35411_init_45d68_2 (fun H locs hP hD hS => ?_)
  have hP : va_P g.1 CLS [(z0, .inr (0, [.int 0, .int 0, .int 0, .ref z1])), (z1, .inr (1, [.int 0, .ref (g.2.2 1), .int 0]))] H := hP
  have hD : va_D A [(z0, .inr (0, [.int 0, .int 0, .int 0, .ref z1])), (z1, .inr (1, [.int 0, .ref (g.2.2 1), .int 0]))] := hD
  refine lv_aload_n hx hb dJx35411_init_45d68_5 rfl (lv_at hl 0 rfl) ?_
  refine W.objInit hx hb hown (htg _ k1432) (htg _ k98) (htg _ k99) rfl (by rw [hml]; exact hl.1) rfl dJx35411_init_45d68_6 (Nat.le_of_ble_eq_true rfl) (Nat.le_of_ble_eq_true rfl) ?_
  refine W.eq (g2 := F0 m 9 ls []) rfl ?_
  refine lv_aload_n hx hb dJx35411_init_45d68_9 rfl (lv_at hl 0 rfl) ?_
  refine lv_iconst (v := (-1)) hx hb dJx35411_init_45d68_10 (by decide) ?_
  refine va_put (D := g.1) (ci := 0) (v := .int (-1)) (ty := .int) (C := RJx35411) (T := TJx35411) (N := 4) hx hb htg inG_Jx35411 tyJx35411 tyJx35411_ok nmJx35411 hown hK hP hD hS 0 rfl rfl 1 (by decide) (htg _ k1434) (fun _ h9 => h9) rfl (by decide +kernel) rfl rfl (Nat.le_of_ble_eq_true rfl) dJx35411_init_45d68_11 (fun H locs hP hD hS => ?_)
  have hP : va_P g.1 CLS [(z0, .inr (0, [.int 0, .int (-1), .int 0, .ref z1])), (z1, .inr (1, [.int 0, .ref (g.2.2 1), .int 0]))] H := hP
  have hD : va_D A [(z0, .inr (0, [.int 0, .int (-1), .int 0, .ref z1])), (z1, .inr (1, [.int 0, .ref (g.2.2 1), .int 0]))] := hD
  refine lv_aload_n hx hb dJx35411_init_45d68_14 rfl (lv_at hl 0 rfl) ?_
  refine lv_aload_n hx hb dJx35411_init_45d68_15 rfl (lv_at hl 0 rfl) ?_
  refine va_get (D := g.1) (ci := 0) (v := .ref z1) (C := RJx35411) (T := TJx35411) (N := 4) hx hb htg inG_Jx35411 hown hK hP 0 rfl rfl 3 (by decide) (htg _ k1436) (fun _ h9 => h9) rfl dJx35411_init_45d68_16 ?_
  refine va_get (D := g.1) (ci := 1) (v := .int 0) (C := RJx4a65c) (T := TJx4a65c) (N := 3) hx hb htg inG_Jx4a65c hown hK hP 1 rfl rfl 0 (by decide) (htg _ k1312) (fun x9 h9 => u_same (htg _ k1313) x9 h9) rfl dJx35411_init_45d68_19 ?_
  refine va_put (D := g.1) (ci := 0) (v := .int 0) (ty := .int) (C := RJx35411) (T := TJx35411) (N := 4) hx hb htg inG_Jx35411 tyJx35411 tyJx35411_ok nmJx35411 hown hK hP hD hS 0 rfl rfl 2 (by decide) (htg _ k1435) (fun _ h9 => h9) rfl (by decide +kernel) rfl rfl (Nat.le_of_ble_eq_true rfl) dJx35411_init_45d68_22 (fun H locs hP hD hS => ?_)
  have hP : va_P g.1 CLS [(z0, .inr (0, [.int 0, .int (-1), .int 0, .ref z1])), (z1, .inr (1, [.int 0, .ref (g.2.2 1), .int 0]))] H := hP
  have hD : va_D A [(z0, .inr (0, [.int 0, .int (-1), .int 0, .ref z1])), (z1, .inr (1, [.int 0, .ref (g.2.2 1), .int 0]))] := hD
  have hP9 := hP.sub (ws' := [(z0, .inr (0, [.int 0, .int (-1), .int 0, .ref z1])), (z1, .inr (1, [.int 0, .ref (g.2.2 1), .int 0]))]) [0, 1] rfl
  have hD9 := hD.sub (ws' := [(z0, .inr (0, [.int 0, .int (-1), .int 0, .ref z1])), (z1, .inr (1, [.int 0, .ref (g.2.2 1), .int 0]))]) [0, 1] (by decide) rfl
  refine W.widen (k := 0) (n := 0) (Nat.le_of_ble_eq_true rfl) (Nat.le_of_ble_eq_true rfl) ?_
  exact W.vret hx hb hr (fun t ht hW => ⟨⟨[(z0, .inr (0, [.int 0, .int (-1), .int 0, .ref z1])), (z1, .inr (1, [.int 0, .ref (g.2.2 1), .int 0]))], rfl, rfl, by rw [ht]; exact hP9, va_K.moved hW.alike hK, hD9⟩, hS.F ht⟩) hS.2.2 dJx35411_init_45d68_25

set_option maxHeartbeats 4000000 in
set_option maxRecDepth 100000 in
theorem c_L_iterator (l : Launch) (hfl : l.stackTraces = false) (g : GP) (z0 : Nat)  : CQ l yJx4a65c_iterator_32c93 (wG yJx4a65c_iterator_32c93 cJx4a65c_iterator_32c93 1 (Option.some (Jvm.ClassFile.FieldType.object "java/util/Iterator"))) (LV 3 1 4) g [.ref z0] ([(z0, .inr (1, [.int 0, .ref (g.2.2 1), .int 0]))]) (fun (r : Option Nat) (u : va_W) => ∃ (q1 : Nat), r = some q1 ∧ u = [(z0, .inr (1, [.int 0, .ref (g.2.2 1), .int 0])), (q1, .inr (0, [.int 0, .int (-1), .int 0, .ref z0]))]) := by
  intro sz
  refine Met.ofW (cc := cJx4a65c_iterator_32c93) (maxL := 1) (ret := (Option.some (Jvm.ClassFile.FieldType.object "java/util/Iterator"))) (by decide) rfl ?_
  intro p e s m args below meth c s₁ B hml hv
  obtain ⟨rfl, hsz, hP, hK, hD0, hT0⟩ := hv
  have hx := B.exec
  have hb := B.bytes
  have hr := B.returns
  have hts := atoms_spec (ws := (wG yJx4a65c_iterator_32c93 cJx4a65c_iterator_32c93 1 (Option.some (Jvm.ClassFile.FieldType.object "java/util/Iterator")))) B.pre
  have htg : ∀ w ∈ G9, w.before _ s = true := fun w h => hts w (List.mem_cons_of_mem _ h)
  have hown : s.vm.findClass "java/util/ArrayList" = some m.cls := findClass_of_methodNamed B.named
  have hlocks := B.notSynchronized
  subst hsz
  have hD := hD0.self (sz := s.heap.size)
  have hT := hT0
  clear hT0
  generalize hAe : va_A [(z0, .inr (1, [.int 0, .ref (g.2.2 1), .int 0]))] s.heap.size = A at hD hT ⊢
  have hA : ∀ q : Nat, s.heap.size ≤ q → A q := fun q h => by rw [← hAe]; exact Or.inr h
  obtain ⟨H, hH0⟩ : ∃ H, H = s.heap := ⟨_, rfl⟩
  have hS : va_S A s.heap H [] := by rw [hH0]; exact va_S.rf
  have hP : va_P g.1 CLS [(z0, .inr (1, [.int 0, .ref (g.2.2 1), .int 0]))] H := by rw [hH0]; exact hP
  rw [← hH0]
  have hl := lv_entry ([.ref z0]) (n := 1) (Nat.le_of_ble_eq_true rfl)
  rw [lg_entry_eq]
  generalize (lg_sl ([.ref z0]) ++ List.replicate (1 - (lg_sl ([.ref z0])).length) Slot.unset).toArray = ls at hl ⊢
  have hl : lv_has ls 1 [(0, .ref z0)] := hl
  refine va_new (ci := 0) (fs := [.int 0, .int 0, .int 0, .null]) (C := RJx35411) (T := TJx35411) (N := 4) hx hb htg inG_Jx35411 tyJx35411 tyJx35411_ok hown (htg _ k1427) (htg _ k1428) (htg _ k73) hK hP hD hS hA rfl (by decide) (Nat.le_of_ble_eq_true rfl) (Nat.le_of_ble_eq_true rfl) dJx4a65c_iterator_32c93_0 (fun q_1 H hP hD hS => ?_)
  have hP : va_P g.1 CLS [(z0, .inr (1, [.int 0, .ref (g.2.2 1), .int 0])), (q_1, .inr (0, [.int 0, .int 0, .int 0, .null]))] H := hP
  have hD : va_D A [(z0, .inr (1, [.int 0, .ref (g.2.2 1), .int 0])), (q_1, .inr (0, [.int 0, .int 0, .int 0, .null]))] := hD
  refine W.widen (k := 1) (n := 4) (Nat.le_of_ble_eq_true rfl) (Nat.le_of_ble_eq_true rfl) ?_
  refine lv_dup hx hb dJx4a65c_iterator_32c93_3 rfl ?_
  refine lv_aload_n hx hb dJx4a65c_iterator_32c93_4 rfl (lv_at hl 0 rfl) ?_
  have hPc := hP.sub (ws' := [(q_1, .inr (0, [.int 0, .int 0, .int 0, .null])), (z0, .inr (1, [.int 0, .ref (g.2.2 1), .int 0]))]) [1, 0] rfl
  have hDc := hD.sub (ws' := [(q_1, .inr (0, [.int 0, .int 0, .int 0, .null])), (z0, .inr (1, [.int 0, .ref (g.2.2 1), .int 0]))]) [1, 0] (by decide) rfl
  have hFc := va_free (wc := [(q_1, .inr (0, [.int 0, .int 0, .int 0, .null])), (z0, .inr (1, [.int 0, .ref (g.2.2 1), .int 0]))]) hD hS hA [1, 0] rfl
  refine q_cv (wr := []) (va_runI (As := [.ref z0]) (rest := [.ref q_1]) ⟨hx, hb, hml, hown, htg⟩ (c_Itr_init l hfl g q_1 z0  H.size) ⟨(qB htg k1431 k73 k1429 ok_Jx35411_init_45d68 rfl rfl ⟨Nat.le_of_ble_eq_true rfl, Nat.le_of_ble_eq_true rfl⟩), rfl, htg _ k1430⟩ (q_pre [.ref q_1, .ref z0] hPc hDc hK hS hT hFc) rfl rfl hl.1 rfl (lv_room (Nat.le_of_ble_eq_true rfl)) dJx4a65c_iterator_32c93_5 ⟨Nat.le_of_ble_eq_true rfl, Nat.le_of_ble_eq_true rfl⟩) hP hD hS hFc [1, 0] [] rfl rfl (by decide) (by decide) (fun u9 H locs hw hP hD hS => ?_)
  try dsimp only at hw
  rcases hw with rfl
  have hP : va_P g.1 CLS [(q_1, .inr (0, [.int 0, .int (-1), .int 0, .ref z0])), (z0, .inr (1, [.int 0, .ref (g.2.2 1), .int 0]))] H := hP
  have hD : va_D A [(q_1, .inr (0, [.int 0, .int (-1), .int 0, .ref z0])), (z0, .inr (1, [.int 0, .ref (g.2.2 1), .int 0]))] := hD
  refine W.widen (k := 1) (n := 4) (Nat.le_of_ble_eq_true rfl) (Nat.le_of_ble_eq_true rfl) ?_
  have hP9 := hP.sub (ws' := [(z0, .inr (1, [.int 0, .ref (g.2.2 1), .int 0])), (q_1, .inr (0, [.int 0, .int (-1), .int 0, .ref z0]))]) [1, 0] rfl
  have hD9 := hD.sub (ws' := [(z0, .inr (1, [.int 0, .ref (g.2.2 1), .int 0])), (q_1, .inr (0, [.int 0, .int (-1), .int 0, .ref z0]))]) [1, 0] (by decide) rfl
  refine W.widen (k := 1) (n := 4) (Nat.le_of_ble_eq_true rfl) (Nat.le_of_ble_eq_true rfl) ?_
  exact W.aret (v := .ref q_1) hx hb hr (Or.inl ⟨_, rfl⟩) (Or.inr ⟨_, rfl⟩) (fun t ht hW => ⟨⟨some q_1, [(z0, .inr (1, [.int 0, .ref (g.2.2 1), .int 0])), (q_1, .inr (0, [.int 0, .int (-1), .int 0, .ref z0]))], rfl, ⟨q_1, rfl, rfl⟩, by rw [ht]; exact hP9, va_K.moved hW.alike hK, hD9⟩, hS.F ht⟩) hS.2.2 dJx4a65c_iterator_32c93_8

set_option maxHeartbeats 4000000 in
set_option maxRecDepth 100000 in
theorem c_Itr_hasNext (l : Launch) (hfl : l.stackTraces = false) (g : GP) (z0 : Nat) (z1 : Nat)  : CI l yJx35411_hasNext_aae02 (wG yJx35411_hasNext_aae02 cJx35411_hasNext_aae02 1 (Option.some Jvm.ClassFile.FieldType.boolean)) (LV 1 0 0) g [.ref z0] ([(z0, .inr (0, [.int 0, .int (-1), .int 0, .ref z1])), (z1, .inr (1, [.int 0, .ref (g.2.2 1), .int 0]))]) (fun (r : Int32) (u : va_W) => r = 0 ∧ u = [(z0, .inr (0, [.int 0, .int (-1), .int 0, .ref z1])), (z1, .inr (1, [.int 0, .ref (g.2.2 1), .int 0]))]) := by
  intro sz
  refine Met.ofW (cc := cJx35411_hasNext_aae02) (maxL := 1) (ret := (Option.some Jvm.ClassFile.FieldType.boolean)) (by decide) rfl ?_
  intro p e s m args below meth c s₁ B hml hv
  obtain ⟨rfl, hsz, hP, hK, hD0, hT0⟩ := hv
  have hx := B.exec
  have hb := B.bytes
  have hr := B.returns
  have hts := atoms_spec (ws := (wG yJx35411_hasNext_aae02 cJx35411_hasNext_aae02 1 (Option.some Jvm.ClassFile.FieldType.boolean))) B.pre
  have htg : ∀ w ∈ G9, w.before _ s = true := fun w h => hts w (List.mem_cons_of_mem _ h)
  have hown : s.vm.findClass "java/util/ArrayList$Itr" = some m.cls := findClass_of_methodNamed B.named
  have hlocks := B.notSynchronized
  subst hsz
  have hD := hD0.self (sz := s.heap.size)
  have hT := hT0
  clear hT0
  generalize hAe : va_A [(z0, .inr (0, [.int 0, .int (-1), .int 0, .ref z1])), (z1, .inr (1, [.int 0, .ref (g.2.2 1), .int 0]))] s.heap.size = A at hD hT ⊢
  have hA : ∀ q : Nat, s.heap.size ≤ q → A q := fun q h => by rw [← hAe]; exact Or.inr h
  obtain ⟨H, hH0⟩ : ∃ H, H = s.heap := ⟨_, rfl⟩
  have hS : va_S A s.heap H [] := by rw [hH0]; exact va_S.rf
  have hP : va_P g.1 CLS [(z0, .inr (0, [.int 0, .int (-1), .int 0, .ref z1])), (z1, .inr (1, [.int 0, .ref (g.2.2 1), .int 0]))] H := by rw [hH0]; exact hP
  rw [← hH0]
  have hl := lv_entry ([.ref z0]) (n := 1) (Nat.le_of_ble_eq_true rfl)
  rw [lg_entry_eq]
  generalize (lg_sl ([.ref z0]) ++ List.replicate (1 - (lg_sl ([.ref z0])).length) Slot.unset).toArray = ls at hl ⊢
  have hl : lv_has ls 1 [(0, .ref z0)] := hl
  refine lv_aload_n hx hb dJx35411_hasNext_aae02_0 rfl (lv_at hl 0 rfl) ?_
  refine va_get (D := g.1) (ci := 0) (v := .int 0) (C := RJx35411) (T := TJx35411) (N := 4) hx hb htg inG_Jx35411 hown hK hP 0 rfl rfl 0 (by decide) (htg _ k1433) (fun _ h9 => h9) rfl dJx35411_hasNext_aae02_1 ?_
  refine lv_aload_n hx hb dJx35411_hasNext_aae02_4 rfl (lv_at hl 0 rfl) ?_
  refine va_get (D := g.1) (ci := 0) (v := .ref z1) (C := RJx35411) (T := TJx35411) (N := 4) hx hb htg inG_Jx35411 hown hK hP 0 rfl rfl 3 (by decide) (htg _ k1436) (fun _ h9 => h9) rfl dJx35411_hasNext_aae02_5 ?_
  refine va_getN (D := g.1) (ci := 1) (v := .int 0) (C := RJx4a65c) (T := TJx4a65c) (N := 3) hx hb htg inG_Jx4a65c hown hK hP 1 rfl rfl 2 (by decide) (va_Nw.use rfl hT.1.2.1.2) (fun _ h9 => h9) rfl dJx35411_hasNext_aae02_8 ?_
  refine lv_icmp_eq (tgt := 18) hx hb dJx35411_hasNext_aae02_11 (by decide) (fun c_1 => ?_) (fun c_1 => absurd (by decide) c_1)
  refine lv_iconst (v := 0) hx hb dJx35411_hasNext_aae02_18 (by decide) ?_
  have hP9 := hP.sub (ws' := [(z0, .inr (0, [.int 0, .int (-1), .int 0, .ref z1])), (z1, .inr (1, [.int 0, .ref (g.2.2 1), .int 0]))]) [0, 1] rfl
  have hD9 := hD.sub (ws' := [(z0, .inr (0, [.int 0, .int (-1), .int 0, .ref z1])), (z1, .inr (1, [.int 0, .ref (g.2.2 1), .int 0]))]) [0, 1] (by decide) rfl
  refine W.widen (k := 0) (n := 0) (Nat.le_of_ble_eq_true rfl) (Nat.le_of_ble_eq_true rfl) ?_
  exact W.zret (v := 0) hx hb hr rfl (fun t ht hW => ⟨⟨0, [(z0, .inr (0, [.int 0, .int (-1), .int 0, .ref z1])), (z1, .inr (1, [.int 0, .ref (g.2.2 1), .int 0]))], rfl, ⟨rfl, rfl⟩, by rw [ht]; exact hP9, va_K.moved hW.alike hK, hD9⟩, hS.F ht⟩) hS.2.2 dJx35411_hasNext_aae02_19

set_option maxHeartbeats 4000000 in
set_option maxRecDepth 100000 in
theorem c_L_growI (l : Launch) (hfl : l.stackTraces = false) (g : GP) (z0 : Nat)  : CQ l yJx4a65c_grow_92f84 (wG yJx4a65c_grow_92f84 cJx4a65c_grow_92f84 4 (Option.some (Jvm.ClassFile.FieldType.array (Jvm.ClassFile.FieldType.object "java/lang/Object")))) (LV 2 1 10) g [.ref z0, .int 1] ([(z0, .inr (1, [.int 1, .ref (g.2.2 1), .int 0]))]) (fun (r : Option Nat) (u : va_W) => ∃ (q1 : Nat), r = some q1 ∧ u = [(z0, .inr (1, [.int 1, .ref q1, .int 0])), (q1, .inl (g.2.1 5, 10, .inr (.inr (.inr (.inr (fun _ => none))))))]) := by
  intro sz
  refine Met.ofW (cc := cJx4a65c_grow_92f84) (maxL := 4) (ret := (Option.some (Jvm.ClassFile.FieldType.array (Jvm.ClassFile.FieldType.object "java/lang/Object")))) (by decide) rfl ?_
  intro p e s m args below meth c s₁ B hml hv
  obtain ⟨rfl, hsz, hP, hK, hD0, hT0⟩ := hv
  have hx := B.exec
  have hb := B.bytes
  have hr := B.returns
  have hts := atoms_spec (ws := (wG yJx4a65c_grow_92f84 cJx4a65c_grow_92f84 4 (Option.some (Jvm.ClassFile.FieldType.array (Jvm.ClassFile.FieldType.object "java/lang/Object"))))) B.pre
  have htg : ∀ w ∈ G9, w.before _ s = true := fun w h => hts w (List.mem_cons_of_mem _ h)
  have hown : s.vm.findClass "java/util/ArrayList" = some m.cls := findClass_of_methodNamed B.named
  have hlocks := B.notSynchronized
  subst hsz
  have hD := hD0.self (sz := s.heap.size)
  have hT := hT0
  clear hT0
  generalize hAe : va_A [(z0, .inr (1, [.int 1, .ref (g.2.2 1), .int 0]))] s.heap.size = A at hD hT ⊢
  have hA : ∀ q : Nat, s.heap.size ≤ q → A q := fun q h => by rw [← hAe]; exact Or.inr h
  obtain ⟨H, hH0⟩ : ∃ H, H = s.heap := ⟨_, rfl⟩
  have hS : va_S A s.heap H [] := by rw [hH0]; exact va_S.rf
  have hP : va_P g.1 CLS [(z0, .inr (1, [.int 1, .ref (g.2.2 1), .int 0]))] H := by rw [hH0]; exact hP
  rw [← hH0]
  have hl := lv_entry ([.ref z0, .int 1]) (n := 4) (Nat.le_of_ble_eq_true rfl)
  rw [lg_entry_eq]
  generalize (lg_sl ([.ref z0, .int 1]) ++ List.replicate (4 - (lg_sl ([.ref z0, .int 1])).length) Slot.unset).toArray = ls at hl ⊢
  have hl : lv_has ls 4 [(0, .ref z0), (1, .int 1)] := hl
  refine lv_aload_n hx hb dJx4a65c_grow_92f84_0 rfl (lv_at hl 0 rfl) ?_
  refine va_get (D := g.1) (ci := 1) (v := .ref (g.2.2 1)) (C := RJx4a65c) (T := TJx4a65c) (N := 3) hx hb htg inG_Jx4a65c hown hK hP 0 rfl rfl 1 (by decide) (htg _ k1307) (fun _ h9 => h9) rfl dJx4a65c_grow_92f84_1 ?_
  refine va_tlen (v := 0) hx hb (hT.2.2.2.2.1.2) hS rfl dJx4a65c_grow_92f84_4 ?_
  refine lv_istore_n (lv' := [(2, .int 0), (0, .ref z0), (1, .int 1)]) hx hb dJx4a65c_grow_92f84_5 rfl hl (by decide) rfl (fun ls hl => ?_)
  refine lv_iload_n hx hb dJx4a65c_grow_92f84_6 rfl (lv_at hl 0 rfl) ?_
  refine lv_if_gt (tgt := 20) hx hb dJx4a65c_grow_92f84_7 (by decide) (fun c_1 => absurd c_1 (by decide)) (fun c_1 => ?_)
  refine lv_aload_n hx hb dJx4a65c_grow_92f84_10 rfl (lv_at hl 1 rfl) ?_
  refine va_get (D := g.1) (ci := 1) (v := .ref (g.2.2 1)) (C := RJx4a65c) (T := TJx4a65c) (N := 3) hx hb htg inG_Jx4a65c hown hK hP 0 rfl rfl 1 (by decide) (htg _ k1307) (fun _ h9 => h9) rfl dJx4a65c_grow_92f84_11 ?_
  refine va_gets hx hb (hT.2.2.2.2.1.1) hS hown (htg _ k1305) (fun _ h9 => h9) dJx4a65c_grow_92f84_14 ?_
  refine lv_acmp_eq (rx := some (g.2.2 1)) (ry := some (g.2.2 1)) (tgt := 45) hx hb dJx4a65c_grow_92f84_17 (by decide) (fun _ => ?_) (fun c9 => absurd rfl c9)
  refine lv_aload_n hx hb dJx4a65c_grow_92f84_45 rfl (lv_at hl 1 rfl) ?_
  refine lv_bipush (v := 10) hx hb dJx4a65c_grow_92f84_46 (by decide) ?_
  refine lv_iload_n hx hb dJx4a65c_grow_92f84_48 rfl (lv_at hl 2 rfl) ?_
  refine va_mmax hx hb (by rw [hl.1]; exact hml) (own := "java/util/ArrayList") (index := 79) hown (htg _ k1566) (htg _ k454) (htg _ k72) (htg _ k455) (Nat.le_of_ble_eq_true rfl) (Nat.le_of_ble_eq_true rfl) (Nat.le_of_ble_eq_true rfl) (Nat.le_of_ble_eq_true rfl) dJx4a65c_grow_92f84_49 ?_
  refine lv_topi (fun x_2 ex_2 => ?_)
  obtain rfl : x_2 = 10 := ex_2.trans (by decide)
  refine va_newq (own := "java/util/ArrayList") (C := "java/lang/Object") (index := 7) (N' := 10) hx hb hown (htg _ k1567) (hT.1.2.2.2.1.2.2) hK hP hD hS hA (by decide) (by decide) (by decide) (Nat.le_of_ble_eq_true rfl) (Nat.le_of_ble_eq_true rfl) dJx4a65c_grow_92f84_52 (fun q_3 cA H hK9 hP hD hS => ?_)
  obtain rfl := q_arr hK9 (t0 := 5) rfl (by decide)
  clear hK9
  have hP : va_P g.1 CLS [(z0, .inr (1, [.int 1, .ref (g.2.2 1), .int 0])), (q_3, .inl (g.2.1 5, 10, .inr (.inr (.inr (.inr (fun _ => none))))))] H := hP
  have hD : va_D A [(z0, .inr (1, [.int 1, .ref (g.2.2 1), .int 0])), (q_3, .inl (g.2.1 5, 10, .inr (.inr (.inr (.inr (fun _ => none))))))] := hD
  refine W.widen (k := 1) (n := 10) (Nat.le_of_ble_eq_true rfl) (Nat.le_of_ble_eq_true rfl) ?_
  refine lv_dup_x1 hx hb dJx4a65c_grow_92f84_55 rfl rfl ?_
  refine va_put (D := g.1) (ci := 1) (v := .ref q_3) (ty := (.array (.object "java/lang/Object"))) (C := RJx4a65c) (T := TJx4a65c) (N := 3) hx hb htg inG_Jx4a65c tyJx4a65c tyJx4a65c_ok nmJx4a65c hown hK hP hD hS 0 rfl rfl 1 (by decide) (htg _ k1307) (fun _ h9 => h9) rfl (by decide +kernel) rfl rfl (Nat.le_of_ble_eq_true rfl) dJx4a65c_grow_92f84_56 (fun H locs hP hD hS => ?_)
  have hP : va_P g.1 CLS [(z0, .inr (1, [.int 1, .ref q_3, .int 0])), (q_3, .inl (g.2.1 5, 10, .inr (.inr (.inr (.inr (fun _ => none))))))] H := hP
  have hD : va_D A [(z0, .inr (1, [.int 1, .ref q_3, .int 0])), (q_3, .inl (g.2.1 5, 10, .inr (.inr (.inr (.inr (fun _ => none))))))] := hD
  have hP9 := hP.sub (ws' := [(z0, .inr (1, [.int 1, .ref q_3, .int 0])), (q_3, .inl (g.2.1 5, 10, .inr (.inr (.inr (.inr (fun _ => none))))))]) [0, 1] rfl
  have hD9 := hD.sub (ws' := [(z0, .inr (1, [.int 1, .ref q_3, .int 0])), (q_3, .inl (g.2.1 5, 10, .inr (.inr (.inr (.inr (fun _ => none))))))]) [0, 1] (by decide) rfl
  refine W.widen (k := 1) (n := 10) (Nat.le_of_ble_eq_true rfl) (Nat.le_of_ble_eq_true rfl) ?_
  exact W.aret (v := .ref q_3) hx hb hr (Or.inr ⟨_, rfl⟩) (Or.inr ⟨_, rfl⟩) (fun t ht hW => ⟨⟨some q_3, [(z0, .inr (1, [.int 1, .ref q_3, .int 0])), (q_3, .inl (g.2.1 5, 10, .inr (.inr (.inr (.inr (fun _ => none))))))], rfl, ⟨q_3, rfl, rfl⟩, by rw [ht]; exact hP9, va_K.moved hW.alike hK, hD9⟩, hS.F ht⟩) hS.2.2 dJx4a65c_grow_92f84_59

set_option maxHeartbeats 4000000 in
set_option maxRecDepth 100000 in
theorem c_L_grow (l : Launch) (hfl : l.stackTraces = false) (g : GP) (z0 : Nat)  : CQ l yJx4a65c_grow_d5877 (wG yJx4a65c_grow_d5877 cJx4a65c_grow_d5877 1 (Option.some (Jvm.ClassFile.FieldType.array (Jvm.ClassFile.FieldType.object "java/lang/Object")))) (LV 3 1 10) g [.ref z0] ([(z0, .inr (1, [.int 1, .ref (g.2.2 1), .int 0]))]) (fun (r : Option Nat) (u : va_W) => ∃ (q1 : Nat), r = some q1 ∧ u = [(z0, .inr (1, [.int 1, .ref q1, .int 0])), (q1, .inl (g.2.1 5, 10, .inr (.inr (.inr (.inr (fun _ => none))))))]) := by
  intro sz
  refine Met.ofW (cc := cJx4a65c_grow_d5877) (maxL := 1) (ret := (Option.some (Jvm.ClassFile.FieldType.array (Jvm.ClassFile.FieldType.object "java/lang/Object")))) (by decide) rfl ?_
  intro p e s m args below meth c s₁ B hml hv
  obtain ⟨rfl, hsz, hP, hK, hD0, hT0⟩ := hv
  have hx := B.exec
  have hb := B.bytes
  have hr := B.returns
  have hts := atoms_spec (ws := (wG yJx4a65c_grow_d5877 cJx4a65c_grow_d5877 1 (Option.some (Jvm.ClassFile.FieldType.array (Jvm.ClassFile.FieldType.object "java/lang/Object"))))) B.pre
  have htg : ∀ w ∈ G9, w.before _ s = true := fun w h => hts w (List.mem_cons_of_mem _ h)
  have hown : s.vm.findClass "java/util/ArrayList" = some m.cls := findClass_of_methodNamed B.named
  have hlocks := B.notSynchronized
  subst hsz
  have hD := hD0.self (sz := s.heap.size)
  have hT := hT0
  clear hT0
  generalize hAe : va_A [(z0, .inr (1, [.int 1, .ref (g.2.2 1), .int 0]))] s.heap.size = A at hD hT ⊢
  have hA : ∀ q : Nat, s.heap.size ≤ q → A q := fun q h => by rw [← hAe]; exact Or.inr h
  obtain ⟨H, hH0⟩ : ∃ H, H = s.heap := ⟨_, rfl⟩
  have hS : va_S A s.heap H [] := by rw [hH0]; exact va_S.rf
  have hP : va_P g.1 CLS [(z0, .inr (1, [.int 1, .ref (g.2.2 1), .int 0]))] H := by rw [hH0]; exact hP
  rw [← hH0]
  have hl := lv_entry ([.ref z0]) (n := 1) (Nat.le_of_ble_eq_true rfl)
  rw [lg_entry_eq]
  generalize (lg_sl ([.ref z0]) ++ List.replicate (1 - (lg_sl ([.ref z0])).length) Slot.unset).toArray = ls at hl ⊢
  have hl : lv_has ls 1 [(0, .ref z0)] := hl
  refine lv_aload_n hx hb dJx4a65c_grow_d5877_0 rfl (lv_at hl 0 rfl) ?_
  refine lv_aload_n hx hb dJx4a65c_grow_d5877_1 rfl (lv_at hl 0 rfl) ?_
  refine va_get (D := g.1) (ci := 1) (v := .int 0) (C := RJx4a65c) (T := TJx4a65c) (N := 3) hx hb htg inG_Jx4a65c hown hK hP 0 rfl rfl 2 (by decide) (htg _ k1310) (fun _ h9 => h9) rfl dJx4a65c_grow_d5877_2 ?_
  refine lv_iconst (v := 1) hx hb dJx4a65c_grow_d5877_5 (by decide) ?_
  refine lv_iadd hx hb dJx4a65c_grow_d5877_6 ?_
  refine lv_topi (fun x_1 ex_1 => ?_)
  obtain rfl : x_1 = 1 := ex_1.trans (by decide)
  have hPc := hP.sub (ws' := [(z0, .inr (1, [.int 1, .ref (g.2.2 1), .int 0]))]) [0] rfl
  have hDc := hD.sub (ws' := [(z0, .inr (1, [.int 1, .ref (g.2.2 1), .int 0]))]) [0] (by decide) rfl
  have hFc := va_free (wc := [(z0, .inr (1, [.int 1, .ref (g.2.2 1), .int 0]))]) hD hS hA [0] rfl
  refine q_cq (wr := []) (va_runV (As := [.int 1]) (rest := []) ⟨hx, hb, hml, hown, htg⟩ (c_L_growI l hfl g z0  H.size) ⟨(qB htg k1520 k60 k1517 ok_Jx4a65c_grow_92f84 rfl rfl ⟨Nat.le_of_ble_eq_true rfl, Nat.le_of_ble_eq_true rfl⟩), htg _ k1519, htg _ k22⟩ ⟨(q_pre [.ref z0, .int 1] hPc hDc hK hS hT hFc).1, va_recv hK hP (ci := 1) (q0 := 0) rfl rfl, (q_pre [.ref z0, .int 1] hPc hDc hK hS hT hFc).2⟩ rfl rfl hl.1 rfl (lv_room (Nat.le_of_ble_eq_true rfl)) dJx4a65c_grow_d5877_7 ⟨Nat.le_of_ble_eq_true rfl, Nat.le_of_ble_eq_true rfl⟩) hP hD hS hFc [0] [] rfl rfl (by decide) (by decide) (fun r9 u9 H locs hw hP hD hS => ?_)
  try dsimp only at hw
  rcases hw with ⟨q_2, rfl, rfl⟩
  have hP : va_P g.1 CLS [(z0, .inr (1, [.int 1, .ref q_2, .int 0])), (q_2, .inl (g.2.1 5, 10, .inr (.inr (.inr (.inr (fun _ => none))))))] H := hP
  have hD : va_D A [(z0, .inr (1, [.int 1, .ref q_2, .int 0])), (q_2, .inl (g.2.1 5, 10, .inr (.inr (.inr (.inr (fun _ => none))))))] := hD
  refine W.widen (k := 1) (n := 10) (Nat.le_of_ble_eq_true rfl) (Nat.le_of_ble_eq_true rfl) ?_
  have hP9 := hP.sub (ws' := [(z0, .inr (1, [.int 1, .ref q_2, .int 0])), (q_2, .inl (g.2.1 5, 10, .inr (.inr (.inr (.inr (fun _ => none))))))]) [0, 1] rfl
  have hD9 := hD.sub (ws' := [(z0, .inr (1, [.int 1, .ref q_2, .int 0])), (q_2, .inl (g.2.1 5, 10, .inr (.inr (.inr (.inr (fun _ => none))))))]) [0, 1] (by decide) rfl
  refine W.widen (k := 1) (n := 10) (Nat.le_of_ble_eq_true rfl) (Nat.le_of_ble_eq_true rfl) ?_
  exact W.aret (v := .ref q_2) hx hb hr (Or.inr ⟨_, rfl⟩) (Or.inr ⟨_, rfl⟩) (fun t ht hW => ⟨⟨some q_2, [(z0, .inr (1, [.int 1, .ref q_2, .int 0])), (q_2, .inl (g.2.1 5, 10, .inr (.inr (.inr (.inr (fun _ => none))))))], rfl, ⟨q_2, rfl, rfl⟩, by rw [ht]; exact hP9, va_K.moved hW.alike hK, hD9⟩, hS.F ht⟩) hS.2.2 dJx4a65c_grow_d5877_10

set_option maxHeartbeats 4000000 in
set_option maxRecDepth 100000 in
theorem c_L_add3C (l : Launch) (hfl : l.stackTraces = false) (g : GP) (z0 : Nat) (z2 : Nat) (n1 : Int32) (z3 : Nat)  : CV l yJx4a65c_add_72be8 (wG yJx4a65c_add_72be8 cJx4a65c_add_72be8 4 (Option.none : Option Jvm.ClassFile.FieldType)) (LV 4 1 10) g [.ref z0, .ref z2, .ref (g.2.2 1), .int 0] ([(z0, .inr (1, [.int 1, .ref (g.2.2 1), .int 0])), (z2, .inr (9, [.int n1, .ref z3]))]) (fun (u : va_W) => ∃ (q1 : Nat), u = [(z0, .inr (1, [.int 1, .ref q1, .int 1]))]) := by
  intro sz
  refine Met.ofW (cc := cJx4a65c_add_72be8) (maxL := 4) (ret := (Option.none : Option Jvm.ClassFile.FieldType)) (by decide) rfl ?_
  intro p e s m args below meth c s₁ B hml hv
  obtain ⟨rfl, hsz, hP, hK, hD0, hT0⟩ := hv
  have hx := B.exec
  have hb := B.bytes
  have hr := B.returns
  have hts := atoms_spec (ws := (wG yJx4a65c_add_72be8 cJx4a65c_add_72be8 4 (Option.none : Option Jvm.ClassFile.FieldType))) B.pre
  have htg : ∀ w ∈ G9, w.before _ s = true := fun w h => hts w (List.mem_cons_of_mem _ h)
  have hown : s.vm.findClass "java/util/ArrayList" = some m.cls := findClass_of_methodNamed B.named
  have hlocks := B.notSynchronized
  subst hsz
  have hD := hD0.self (sz := s.heap.size)
  have hT := hT0
  clear hT0
  generalize hAe : va_A [(z0, .inr (1, [.int 1, .ref (g.2.2 1), .int 0])), (z2, .inr (9, [.int n1, .ref z3]))] s.heap.size = A at hD hT ⊢
  have hA : ∀ q : Nat, s.heap.size ≤ q → A q := fun q h => by rw [← hAe]; exact Or.inr h
  obtain ⟨H, hH0⟩ : ∃ H, H = s.heap := ⟨_, rfl⟩
  have hS : va_S A s.heap H [] := by rw [hH0]; exact va_S.rf
  have hP : va_P g.1 CLS [(z0, .inr (1, [.int 1, .ref (g.2.2 1), .int 0])), (z2, .inr (9, [.int n1, .ref z3]))] H := by rw [hH0]; exact hP
  rw [← hH0]
  have hl := lv_entry ([.ref z0, .ref z2, .ref (g.2.2 1), .int 0]) (n := 4) (Nat.le_of_ble_eq_true rfl)
  rw [lg_entry_eq]
  generalize (lg_sl ([.ref z0, .ref z2, .ref (g.2.2 1), .int 0]) ++ List.replicate (4 - (lg_sl ([.ref z0, .ref z2, .ref (g.2.2 1), .int 0])).length) Slot.unset).toArray = ls at hl ⊢
  have hl : lv_has ls 4 [(0, .ref z0), (1, .ref z2), (2, .ref (g.2.2 1)), (3, .int 0)] := hl
  refine lv_iload_n hx hb dJx4a65c_add_72be8_0 rfl (lv_at hl 3 rfl) ?_
  refine lv_aload_n hx hb dJx4a65c_add_72be8_1 rfl (lv_at hl 2 rfl) ?_
  refine va_tlen (v := 0) hx hb (hT.2.2.2.2.1.2) hS rfl dJx4a65c_add_72be8_2 ?_
  refine lv_icmp_ne (tgt := 11) hx hb dJx4a65c_add_72be8_3 (by decide) (fun c_1 => absurd (by decide) c_1) (fun c_1 => ?_)
  refine lv_aload_n hx hb dJx4a65c_add_72be8_6 rfl (lv_at hl 0 rfl) ?_
  have hPc := hP.sub (ws' := [(z0, .inr (1, [.int 1, .ref (g.2.2 1), .int 0]))]) [0] rfl
  have hDc := hD.sub (ws' := [(z0, .inr (1, [.int 1, .ref (g.2.2 1), .int 0]))]) [0] (by decide) rfl
  have hFc := va_free (wc := [(z0, .inr (1, [.int 1, .ref (g.2.2 1), .int 0]))]) hD hS hA [0] rfl
  refine q_cq (wr := [(z2, .inr (9, [.int n1, .ref z3]))]) (va_runV (As := []) (rest := []) ⟨hx, hb, hml, hown, htg⟩ (c_L_grow l hfl g z0  H.size) ⟨(qB htg k1516 k60 k1513 ok_Jx4a65c_grow_d5877 rfl rfl ⟨Nat.le_of_ble_eq_true rfl, Nat.le_of_ble_eq_true rfl⟩), htg _ k1515, htg _ k21⟩ ⟨(q_pre [.ref z0] hPc hDc hK hS hT hFc).1, va_recv hK hP (ci := 1) (q0 := 0) rfl rfl, (q_pre [.ref z0] hPc hDc hK hS hT hFc).2⟩ rfl rfl hl.1 rfl (lv_room (Nat.le_of_ble_eq_true rfl)) dJx4a65c_add_72be8_7 ⟨Nat.le_of_ble_eq_true rfl, Nat.le_of_ble_eq_true rfl⟩) hP hD hS hFc [0] [1] rfl rfl (by decide) (by decide) (fun r9 u9 H locs hw hP hD hS => ?_)
  try dsimp only at hw
  rcases hw with ⟨q_2, rfl, rfl⟩
  have hP : va_P g.1 CLS [(z2, .inr (9, [.int n1, .ref z3])), (z0, .inr (1, [.int 1, .ref q_2, .int 0])), (q_2, .inl (g.2.1 5, 10, .inr (.inr (.inr (.inr (fun _ => none))))))] H := hP
  have hD : va_D A [(z2, .inr (9, [.int n1, .ref z3])), (z0, .inr (1, [.int 1, .ref q_2, .int 0])), (q_2, .inl (g.2.1 5, 10, .inr (.inr (.inr (.inr (fun _ => none))))))] := hD
  refine W.widen (k := 1) (n := 10) (Nat.le_of_ble_eq_true rfl) (Nat.le_of_ble_eq_true rfl) ?_
  refine lv_astore_n (lv' := [(2, .ref q_2), (0, .ref z0), (1, .ref z2), (3, .int 0)]) hx hb dJx4a65c_add_72be8_10 rfl hl (by decide) rfl (fun ls hl => ?_)
  refine lv_aload_n hx hb dJx4a65c_add_72be8_11 rfl (lv_at hl 0 rfl) ?_
  refine lv_iload_n hx hb dJx4a65c_add_72be8_12 rfl (lv_at hl 3 rfl) ?_
  refine lv_aload_n hx hb dJx4a65c_add_72be8_13 rfl (lv_at hl 2 rfl) ?_
  refine va_astqO hx hb hK hP hD hS 2 5 0 9 rfl rfl hT.1.2.2.2.2.2.2.1 rfl rfl (i := 0) (vp_in_iff.mpr (by decide)) dJx4a65c_add_72be8_14 (fun H locs hP hD hS => ?_)
  have hP : va_P g.1 CLS [(z2, .inr (9, [.int n1, .ref z3])), (z0, .inr (1, [.int 1, .ref q_2, .int 0])), (q_2, .inl (g.2.1 5, 10, .inr (.inr (.inr (.inr (va_up (fun _ => none) 0 (some z2)))))))] H := hP
  have hD : va_D A [(z2, .inr (9, [.int n1, .ref z3])), (z0, .inr (1, [.int 1, .ref q_2, .int 0])), (q_2, .inl (g.2.1 5, 10, .inr (.inr (.inr (.inr (va_up (fun _ => none) 0 (some z2)))))))] := hD
  refine lv_aload_n hx hb dJx4a65c_add_72be8_15 rfl (lv_at hl 1 rfl) ?_
  refine lv_iload_n hx hb dJx4a65c_add_72be8_16 rfl (lv_at hl 3 rfl) ?_
  refine lv_iconst (v := 1) hx hb dJx4a65c_add_72be8_17 (by decide) ?_
  refine lv_iadd hx hb dJx4a65c_add_72be8_18 ?_
  refine lv_topi (fun x_3 ex_3 => ?_)
  obtain rfl : x_3 = 1 := ex_3.trans (by decide)
  refine va_put (D := g.1) (ci := 1) (v := .int 1) (ty := .int) (C := RJx4a65c) (T := TJx4a65c) (N := 3) hx hb htg inG_Jx4a65c tyJx4a65c tyJx4a65c_ok nmJx4a65c hown hK hP hD hS 1 rfl rfl 2 (by decide) (htg _ k1310) (fun _ h9 => h9) rfl (by decide +kernel) rfl rfl (Nat.le_of_ble_eq_true rfl) dJx4a65c_add_72be8_19 (fun H locs hP hD hS => ?_)
  have hP : va_P g.1 CLS [(z2, .inr (9, [.int n1, .ref z3])), (z0, .inr (1, [.int 1, .ref q_2, .int 1])), (q_2, .inl (g.2.1 5, 10, .inr (.inr (.inr (.inr (va_up (fun _ => none) 0 (some z2)))))))] H := hP
  have hD : va_D A [(z2, .inr (9, [.int n1, .ref z3])), (z0, .inr (1, [.int 1, .ref q_2, .int 1])), (q_2, .inl (g.2.1 5, 10, .inr (.inr (.inr (.inr (va_up (fun _ => none) 0 (some z2)))))))] := hD
  have hP9 := hP.sub (ws' := [(z0, .inr (1, [.int 1, .ref q_2, .int 1]))]) [1] rfl
  have hD9 := hD.sub (ws' := [(z0, .inr (1, [.int 1, .ref q_2, .int 1]))]) [1] (by decide) rfl
  refine W.widen (k := 1) (n := 10) (Nat.le_of_ble_eq_true rfl) (Nat.le_of_ble_eq_true rfl) ?_
  exact W.vret hx hb hr (fun t ht hW => ⟨⟨[(z0, .inr (1, [.int 1, .ref q_2, .int 1]))], rfl, ⟨q_2, rfl⟩, by rw [ht]; exact hP9, va_K.moved hW.alike hK, hD9⟩, hS.F ht⟩) hS.2.2 dJx4a65c_add_72be8_22

set_option maxHeartbeats 4000000 in
set_option maxRecDepth 100000 in
theorem c_L_addC (l : Launch) (hfl : l.stackTraces = false) (g : GP) (z0 : Nat) (z2 : Nat) (n1 : Int32) (z3 : Nat)  : CI l yJx4a65c_add_9ea2d (wG yJx4a65c_add_9ea2d cJx4a65c_add_9ea2d 2 (Option.some Jvm.ClassFile.FieldType.boolean)) (LV 5 1 10) g [.ref z0, .ref z2] ([(z0, .inr (1, [.int 0, .ref (g.2.2 1), .int 0])), (z2, .inr (9, [.int n1, .ref z3]))]) (fun (r : Int32) (u : va_W) => ∃ (q1 : Nat), r = 1 ∧ u = [(z0, .inr (1, [.int 1, .ref q1, .int 1]))]) := by
  intro sz
  refine Met.ofW (cc := cJx4a65c_add_9ea2d) (maxL := 2) (ret := (Option.some Jvm.ClassFile.FieldType.boolean)) (by decide) rfl ?_
  intro p e s m args below meth c s₁ B hml hv
  obtain ⟨rfl, hsz, hP, hK, hD0, hT0⟩ := hv
  have hx := B.exec
  have hb := B.bytes
  have hr := B.returns
  have hts := atoms_spec (ws := (wG yJx4a65c_add_9ea2d cJx4a65c_add_9ea2d 2 (Option.some Jvm.ClassFile.FieldType.boolean))) B.pre
  have htg : ∀ w ∈ G9, w.before _ s = true := fun w h => hts w (List.mem_cons_of_mem _ h)
  have hown : s.vm.findClass "java/util/ArrayList" = some m.cls := findClass_of_methodNamed B.named
  have hlocks := B.notSynchronized
  subst hsz
  have hD := hD0.self (sz := s.heap.size)
  have hT := hT0
  clear hT0
  generalize hAe : va_A [(z0, .inr (1, [.int 0, .ref (g.2.2 1), .int 0])), (z2, .inr (9, [.int n1, .ref z3]))] s.heap.size = A at hD hT ⊢
  have hA : ∀ q : Nat, s.heap.size ≤ q → A q := fun q h => by rw [← hAe]; exact Or.inr h
  obtain ⟨H, hH0⟩ : ∃ H, H = s.heap := ⟨_, rfl⟩
  have hS : va_S A s.heap H [] := by rw [hH0]; exact va_S.rf
  have hP : va_P g.1 CLS [(z0, .inr (1, [.int 0, .ref (g.2.2 1), .int 0])), (z2, .inr (9, [.int n1, .ref z3]))] H := by rw [hH0]; exact hP
  rw [← hH0]
  have hl := lv_entry ([.ref z0, .ref z2]) (n := 2) (Nat.le_of_ble_eq_true rfl)
  rw [lg_entry_eq]
  generalize (lg_sl ([.ref z0, .ref z2]) ++ List.replicate (2 - (lg_sl ([.ref z0, .ref z2])).length) Slot.unset).toArray = ls at hl ⊢
  have hl : lv_has ls 2 [(0, .ref z0), (1, .ref z2)] := hl
  refine lv_aload_n hx hb dJx4a65c_add_9ea2d_0 rfl (lv_at hl 0 rfl) ?_
  refine lv_dup hx hb dJx4a65c_add_9ea2d_1 rfl ?_
  refine va_get (D := g.1) (ci := 1) (v := .int 0) (C := RJx4a65c) (T := TJx4a65c) (N := 3) hx hb htg inG_Jx4a65c hown hK hP 0 rfl rfl 0 (by decide) (htg _ k1314) (fun x9 h9 => u_same (htg _ k1313) x9 h9) rfl dJx4a65c_add_9ea2d_2 ?_
  refine lv_iconst (v := 1) hx hb dJx4a65c_add_9ea2d_5 (by decide) ?_
  refine lv_iadd hx hb dJx4a65c_add_9ea2d_6 ?_
  refine lv_topi (fun x_1 ex_1 => ?_)
  obtain rfl : x_1 = 1 := ex_1.trans (by decide)
  refine va_put (D := g.1) (ci := 1) (v := .int 1) (ty := .int) (C := RJx4a65c) (T := TJx4a65c) (N := 3) hx hb htg inG_Jx4a65c tyJx4a65c tyJx4a65c_ok nmJx4a65c hown hK hP hD hS 0 rfl rfl 0 (by decide) (htg _ k1314) (fun x9 h9 => u_same (htg _ k1313) x9 h9) rfl (by decide +kernel) rfl rfl (Nat.le_of_ble_eq_true rfl) dJx4a65c_add_9ea2d_7 (fun H locs hP hD hS => ?_)
  have hP : va_P g.1 CLS [(z0, .inr (1, [.int 1, .ref (g.2.2 1), .int 0])), (z2, .inr (9, [.int n1, .ref z3]))] H := hP
  have hD : va_D A [(z0, .inr (1, [.int 1, .ref (g.2.2 1), .int 0])), (z2, .inr (9, [.int n1, .ref z3]))] := hD
  refine lv_aload_n hx hb dJx4a65c_add_9ea2d_10 rfl (lv_at hl 0 rfl) ?_
  refine lv_aload_n hx hb dJx4a65c_add_9ea2d_11 rfl (lv_at hl 1 rfl) ?_
  refine lv_aload_n hx hb dJx4a65c_add_9ea2d_12 rfl (lv_at hl 0 rfl) ?_
  refine va_get (D := g.1) (ci := 1) (v := .ref (g.2.2 1)) (C := RJx4a65c) (T := TJx4a65c) (N := 3) hx hb htg inG_Jx4a65c hown hK hP 0 rfl rfl 1 (by decide) (htg _ k1307) (fun _ h9 => h9) rfl dJx4a65c_add_9ea2d_13 ?_
  refine lv_aload_n hx hb dJx4a65c_add_9ea2d_16 rfl (lv_at hl 0 rfl) ?_
  refine va_get (D := g.1) (ci := 1) (v := .int 0) (C := RJx4a65c) (T := TJx4a65c) (N := 3) hx hb htg inG_Jx4a65c hown hK hP 0 rfl rfl 2 (by decide) (htg _ k1310) (fun _ h9 => h9) rfl dJx4a65c_add_9ea2d_17 ?_
  have hPc := hP.sub (ws' := [(z0, .inr (1, [.int 1, .ref (g.2.2 1), .int 0])), (z2, .inr (9, [.int n1, .ref z3]))]) [0, 1] rfl
  have hDc := hD.sub (ws' := [(z0, .inr (1, [.int 1, .ref (g.2.2 1), .int 0])), (z2, .inr (9, [.int n1, .ref z3]))]) [0, 1] (by decide) rfl
  have hFc := va_free (wc := [(z0, .inr (1, [.int 1, .ref (g.2.2 1), .int 0])), (z2, .inr (9, [.int n1, .ref z3]))]) hD hS hA [0, 1] rfl
  refine q_cv (wr := []) (va_runV (As := [.ref z2, .ref (g.2.2 1), .int 0]) (rest := []) ⟨hx, hb, hml, hown, htg⟩ (c_L_add3C l hfl g z0 z2 n1 z3  H.size) ⟨(qB htg k1512 k60 k1509 ok_Jx4a65c_add_72be8 rfl rfl ⟨Nat.le_of_ble_eq_true rfl, Nat.le_of_ble_eq_true rfl⟩), htg _ k1511, htg _ k20⟩ ⟨(q_pre [.ref z0, .ref z2, .ref (g.2.2 1), .int 0] hPc hDc hK hS hT hFc).1, va_recv hK hP (ci := 1) (q0 := 0) rfl rfl, (q_pre [.ref z0, .ref z2, .ref (g.2.2 1), .int 0] hPc hDc hK hS hT hFc).2⟩ rfl rfl hl.1 rfl (lv_room (Nat.le_of_ble_eq_true rfl)) dJx4a65c_add_9ea2d_20 ⟨Nat.le_of_ble_eq_true rfl, Nat.le_of_ble_eq_true rfl⟩) hP hD hS hFc [0, 1] [] rfl rfl (by decide) (by decide) (fun u9 H locs hw hP hD hS => ?_)
  try dsimp only at hw
  rcases hw with ⟨q_2, rfl⟩
  have hP : va_P g.1 CLS [(z0, .inr (1, [.int 1, .ref q_2, .int 1]))] H := hP
  have hD : va_D A [(z0, .inr (1, [.int 1, .ref q_2, .int 1]))] := hD
  refine W.widen (k := 1) (n := 10) (Nat.le_of_ble_eq_true rfl) (Nat.le_of_ble_eq_true rfl) ?_
  refine lv_iconst (v := 1) hx hb dJx4a65c_add_9ea2d_23 (by decide) ?_
  have hP9 := hP.sub (ws' := [(z0, .inr (1, [.int 1, .ref q_2, .int 1]))]) [0] rfl
  have hD9 := hD.sub (ws' := [(z0, .inr (1, [.int 1, .ref q_2, .int 1]))]) [0] (by decide) rfl
  refine W.widen (k := 1) (n := 10) (Nat.le_of_ble_eq_true rfl) (Nat.le_of_ble_eq_true rfl) ?_
  exact W.zret (v := 1) hx hb hr rfl (fun t ht hW => ⟨⟨1, [(z0, .inr (1, [.int 1, .ref q_2, .int 1]))], rfl, ⟨q_2, rfl, rfl⟩, by rw [ht]; exact hP9, va_K.moved hW.alike hK, hD9⟩, hS.F ht⟩) hS.2.2 dJx4a65c_add_9ea2d_24

set_option maxHeartbeats 4000000 in
set_option maxRecDepth 100000 in
theorem c_L_add3H (l : Launch) (hfl : l.stackTraces = false) (g : GP) (z0 : Nat) (z2 : Nat) (h0 : Int32) (h1 : Int32) (h2 : Int32) (h3 : Int32) (h5 : Int32) (h6 : Int32) (h7 : Int32) (h8 : Int32) (h9 : Int32) (h10 : Int32) (h11 : Int32) (h12 : Int32) (h13 : Int32) (zb : Nat)  : CV l yJx4a65c_add_72be8 (wG yJx4a65c_add_72be8 cJx4a65c_add_72be8 4 (Option.none : Option Jvm.ClassFile.FieldType)) (LV 4 1 10) g [.ref z0, .ref z2, .ref (g.2.2 1), .int 0] ([(z0, .inr (1, [.int 1, .ref (g.2.2 1), .int 0])), (z2, .inr (10, [.int h0, .int h1, .int h2, .int h3, .ref zb, .int h5, .int h6, .int h7, .int h8, .int h9, .int h10, .int h11, .int h12, .int h13]))]) (fun (u : va_W) => ∃ (q1 : Nat), u = [(z0, .inr (1, [.int 1, .ref q1, .int 1]))]) := by
  intro sz
  refine Met.ofW (cc := cJx4a65c_add_72be8) (maxL := 4) (ret := (Option.none : Option Jvm.ClassFile.FieldType)) (by decide) rfl ?_
  intro p e s m args below meth c s₁ B hml hv
  obtain ⟨rfl, hsz, hP, hK, hD0, hT0⟩ := hv
  have hx := B.exec
  have hb := B.bytes
  have hr := B.returns
  have hts := atoms_spec (ws := (wG yJx4a65c_add_72be8 cJx4a65c_add_72be8 4 (Option.none : Option Jvm.ClassFile.FieldType))) B.pre
  have htg : ∀ w ∈ G9, w.before _ s = true := fun w h => hts w (List.mem_cons_of_mem _ h)
  have hown : s.vm.findClass "java/util/ArrayList" = some m.cls := findClass_of_methodNamed B.named
  have hlocks := B.notSynchronized
  subst hsz
  have hD := hD0.self (sz := s.heap.size)
  have hT := hT0
  clear hT0
  generalize hAe : va_A [(z0, .inr (1, [.int 1, .ref (g.2.2 1), .int 0])), (z2, .inr (10, [.int h0, .int h1, .int h2, .int h3, .ref zb, .int h5, .int h6, .int h7, .int h8, .int h9, .int h10, .int h11, .int h12, .int h13]))] s.heap.size = A at hD hT ⊢
  have hA : ∀ q : Nat, s.heap.size ≤ q → A q := fun q h => by rw [← hAe]; exact Or.inr h
  obtain ⟨H, hH0⟩ : ∃ H, H = s.heap := ⟨_, rfl⟩
  have hS : va_S A s.heap H [] := by rw [hH0]; exact va_S.rf
  have hP : va_P g.1 CLS [(z0, .inr (1, [.int 1, .ref (g.2.2 1), .int 0])), (z2, .inr (10, [.int h0, .int h1, .int h2, .int h3, .ref zb, .int h5, .int h6, .int h7, .int h8, .int h9, .int h10, .int h11, .int h12, .int h13]))] H := by rw [hH0]; exact hP
  rw [← hH0]
  have hl := lv_entry ([.ref z0, .ref z2, .ref (g.2.2 1), .int 0]) (n := 4) (Nat.le_of_ble_eq_true rfl)
  rw [lg_entry_eq]
  generalize (lg_sl ([.ref z0, .ref z2, .ref (g.2.2 1), .int 0]) ++ List.replicate (4 - (lg_sl ([.ref z0, .ref z2, .ref (g.2.2 1), .int 0])).length) Slot.unset).toArray = ls at hl ⊢
  have hl : lv_has ls 4 [(0, .ref z0), (1, .ref z2), (2, .ref (g.2.2 1)), (3, .int 0)] := hl
  refine lv_iload_n hx hb dJx4a65c_add_72be8_0 rfl (lv_at hl 3 rfl) ?_
  refine lv_aload_n hx hb dJx4a65c_add_72be8_1 rfl (lv_at hl 2 rfl) ?_
  refine va_tlen (v := 0) hx hb (hT.2.2.2.2.1.2) hS rfl dJx4a65c_add_72be8_2 ?_
  refine lv_icmp_ne (tgt := 11) hx hb dJx4a65c_add_72be8_3 (by decide) (fun c_1 => absurd (by decide) c_1) (fun c_1 => ?_)
  refine lv_aload_n hx hb dJx4a65c_add_72be8_6 rfl (lv_at hl 0 rfl) ?_
  have hPc := hP.sub (ws' := [(z0, .inr (1, [.int 1, .ref (g.2.2 1), .int 0]))]) [0] rfl
  have hDc := hD.sub (ws' := [(z0, .inr (1, [.int 1, .ref (g.2.2 1), .int 0]))]) [0] (by decide) rfl
  have hFc := va_free (wc := [(z0, .inr (1, [.int 1, .ref (g.2.2 1), .int 0]))]) hD hS hA [0] rfl
  refine q_cq (wr := [(z2, .inr (10, [.int h0, .int h1, .int h2, .int h3, .ref zb, .int h5, .int h6, .int h7, .int h8, .int h9, .int h10, .int h11, .int h12, .int h13]))]) (va_runV (As := []) (rest := []) ⟨hx, hb, hml, hown, htg⟩ (c_L_grow l hfl g z0  H.size) ⟨(qB htg k1516 k60 k1513 ok_Jx4a65c_grow_d5877 rfl rfl ⟨Nat.le_of_ble_eq_true rfl, Nat.le_of_ble_eq_true rfl⟩), htg _ k1515, htg _ k21⟩ ⟨(q_pre [.ref z0] hPc hDc hK hS hT hFc).1, va_recv hK hP (ci := 1) (q0 := 0) rfl rfl, (q_pre [.ref z0] hPc hDc hK hS hT hFc).2⟩ rfl rfl hl.1 rfl (lv_room (Nat.le_of_ble_eq_true rfl)) dJx4a65c_add_72be8_7 ⟨Nat.le_of_ble_eq_true rfl, Nat.le_of_ble_eq_true rfl⟩) hP hD hS hFc [0] [1] rfl rfl (by decide) (by decide) (fun r9 u9 H locs hw hP hD hS => ?_)
  try dsimp only at hw
  rcases hw with ⟨q_2, rfl, rfl⟩
  have hP : va_P g.1 CLS [(z2, .inr (10, [.int h0, .int h1, .int h2, .int h3, .ref zb, .int h5, .int h6, .int h7, .int h8, .int h9, .int h10, .int h11, .int h12, .int h13])), (z0, .inr (1, [.int 1, .ref q_2, .int 0])), (q_2, .inl (g.2.1 5, 10, .inr (.inr (.inr (.inr (fun _ => none))))))] H := hP
  have hD : va_D A [(z2, .inr (10, [.int h0, .int h1, .int h2, .int h3, .ref zb, .int h5, .int h6, .int h7, .int h8, .int h9, .int h10, .int h11, .int h12, .int h13])), (z0, .inr (1, [.int 1, .ref q_2, .int 0])), (q_2, .inl (g.2.1 5, 10, .inr (.inr (.inr (.inr (fun _ => none))))))] := hD
  refine W.widen (k := 1) (n := 10) (Nat.le_of_ble_eq_true rfl) (Nat.le_of_ble_eq_true rfl) ?_
  refine lv_astore_n (lv' := [(2, .ref q_2), (0, .ref z0), (1, .ref z2), (3, .int 0)]) hx hb dJx4a65c_add_72be8_10 rfl hl (by decide) rfl (fun ls hl => ?_)
  refine lv_aload_n hx hb dJx4a65c_add_72be8_11 rfl (lv_at hl 0 rfl) ?_
  refine lv_iload_n hx hb dJx4a65c_add_72be8_12 rfl (lv_at hl 3 rfl) ?_
  refine lv_aload_n hx hb dJx4a65c_add_72be8_13 rfl (lv_at hl 2 rfl) ?_
  refine va_astqO hx hb hK hP hD hS 2 5 0 10 rfl rfl hT.1.2.2.2.2.2.2.2.1 rfl rfl (i := 0) (vp_in_iff.mpr (by decide)) dJx4a65c_add_72be8_14 (fun H locs hP hD hS => ?_)
  have hP : va_P g.1 CLS [(z2, .inr (10, [.int h0, .int h1, .int h2, .int h3, .ref zb, .int h5, .int h6, .int h7, .int h8, .int h9, .int h10, .int h11, .int h12, .int h13])), (z0, .inr (1, [.int 1, .ref q_2, .int 0])), (q_2, .inl (g.2.1 5, 10, .inr (.inr (.inr (.inr (va_up (fun _ => none) 0 (some z2)))))))] H := hP
  have hD : va_D A [(z2, .inr (10, [.int h0, .int h1, .int h2, .int h3, .ref zb, .int h5, .int h6, .int h7, .int h8, .int h9, .int h10, .int h11, .int h12, .int h13])), (z0, .inr (1, [.int 1, .ref q_2, .int 0])), (q_2, .inl (g.2.1 5, 10, .inr (.inr (.inr (.inr (va_up (fun _ => none) 0 (some z2)))))))] := hD
  refine lv_aload_n hx hb dJx4a65c_add_72be8_15 rfl (lv_at hl 1 rfl) ?_
  refine lv_iload_n hx hb dJx4a65c_add_72be8_16 rfl (lv_at hl 3 rfl) ?_
  refine lv_iconst (v := 1) hx hb dJx4a65c_add_72be8_17 (by decide) ?_
  refine lv_iadd hx hb dJx4a65c_add_72be8_18 ?_
  refine lv_topi (fun x_3 ex_3 => ?_)
  obtain rfl : x_3 = 1 := ex_3.trans (by decide)
  refine va_put (D := g.1) (ci := 1) (v := .int 1) (ty := .int) (C := RJx4a65c) (T := TJx4a65c) (N := 3) hx hb htg inG_Jx4a65c tyJx4a65c tyJx4a65c_ok nmJx4a65c hown hK hP hD hS 1 rfl rfl 2 (by decide) (htg _ k1310) (fun _ h9 => h9) rfl (by decide +kernel) rfl rfl (Nat.le_of_ble_eq_true rfl) dJx4a65c_add_72be8_19 (fun H locs hP hD hS => ?_)
  have hP : va_P g.1 CLS [(z2, .inr (10, [.int h0, .int h1, .int h2, .int h3, .ref zb, .int h5, .int h6, .int h7, .int h8, .int h9, .int h10, .int h11, .int h12, .int h13])), (z0, .inr (1, [.int 1, .ref q_2, .int 1])), (q_2, .inl (g.2.1 5, 10, .inr (.inr (.inr (.inr (va_up (fun _ => none) 0 (some z2)))))))] H := hP
  have hD : va_D A [(z2, .inr (10, [.int h0, .int h1, .int h2, .int h3, .ref zb, .int h5, .int h6, .int h7, .int h8, .int h9, .int h10, .int h11, .int h12, .int h13])), (z0, .inr (1, [.int 1, .ref q_2, .int 1])), (q_2, .inl (g.2.1 5, 10, .inr (.inr (.inr (.inr (va_up (fun _ => none) 0 (some z2)))))))] := hD
  have hP9 := hP.sub (ws' := [(z0, .inr (1, [.int 1, .ref q_2, .int 1]))]) [1] rfl
  have hD9 := hD.sub (ws' := [(z0, .inr (1, [.int 1, .ref q_2, .int 1]))]) [1] (by decide) rfl
  refine W.widen (k := 1) (n := 10) (Nat.le_of_ble_eq_true rfl) (Nat.le_of_ble_eq_true rfl) ?_
  exact W.vret hx hb hr (fun t ht hW => ⟨⟨[(z0, .inr (1, [.int 1, .ref q_2, .int 1]))], rfl, ⟨q_2, rfl⟩, by rw [ht]; exact hP9, va_K.moved hW.alike hK, hD9⟩, hS.F ht⟩) hS.2.2 dJx4a65c_add_72be8_22

set_option maxHeartbeats 4000000 in
set_option maxRecDepth 100000 in
theorem c_L_addH (l : Launch) (hfl : l.stackTraces = false) (g : GP) (z0 : Nat) (z2 : Nat) (h0 : Int32) (h1 : Int32) (h2 : Int32) (h3 : Int32) (h5 : Int32) (h6 : Int32) (h7 : Int32) (h8 : Int32) (h9 : Int32) (h10 : Int32) (h11 : Int32) (h12 : Int32) (h13 : Int32) (zb : Nat)  : CI l yJx4a65c_add_9ea2d (wG yJx4a65c_add_9ea2d cJx4a65c_add_9ea2d 2 (Option.some Jvm.ClassFile.FieldType.boolean)) (LV 5 1 10) g [.ref z0, .ref z2] ([(z0, .inr (1, [.int 0, .ref (g.2.2 1), .int 0])), (z2, .inr (10, [.int h0, .int h1, .int h2, .int h3, .ref zb, .int h5, .int h6, .int h7, .int h8, .int h9, .int h10, .int h11, .int h12, .int h13]))]) (fun (r : Int32) (u : va_W) => ∃ (q1 : Nat), r = 1 ∧ u = [(z0, .inr (1, [.int 1, .ref q1, .int 1]))]) := by
  intro sz
  refine Met.ofW (cc := cJx4a65c_add_9ea2d) (maxL := 2) (ret := (Option.some Jvm.ClassFile.FieldType.boolean)) (by decide) rfl ?_
  intro p e s m args below meth c s₁ B hml hv
  obtain ⟨rfl, hsz, hP, hK, hD0, hT0⟩ := hv
  have hx := B.exec
  have hb := B.bytes
  have hr := B.returns
  have hts := atoms_spec (ws := (wG yJx4a65c_add_9ea2d cJx4a65c_add_9ea2d 2 (Option.some Jvm.ClassFile.FieldType.boolean))) B.pre
  have htg : ∀ w ∈ G9, w.before _ s = true := fun w h => hts w (List.mem_cons_of_mem _ h)
  have hown : s.vm.findClass "java/util/ArrayList" = some m.cls := findClass_of_methodNamed B.named
  have hlocks := B.notSynchronized
  subst hsz
  have hD := hD0.self (sz := s.heap.size)
  have hT := hT0
  clear hT0
  generalize hAe : va_A [(z0, .inr (1, [.int 0, .ref (g.2.2 1), .int 0])), (z2, .inr (10, [.int h0, .int h1, .int h2, .int h3, .ref zb, .int h5, .int h6, .int h7, .int h8, .int h9, .int h10, .int h11, .int h12, .int h13]))] s.heap.size = A at hD hT ⊢
  have hA : ∀ q : Nat, s.heap.size ≤ q → A q := fun q h => by rw [← hAe]; exact Or.inr h
  obtain ⟨H, hH0⟩ : ∃ H, H = s.heap := ⟨_, rfl⟩
  have hS : va_S A s.heap H [] := by rw [hH0]; exact va_S.rf
  have hP : va_P g.1 CLS [(z0, .inr (1, [.int 0, .ref (g.2.2 1), .int 0])), (z2, .inr (10, [.int h0, .int h1, .int h2, .int h3, .ref zb, .int h5, .int h6, .int h7, .int h8, .int h9, .int h10, .int h11, .int h12, .int h13]))] H := by rw [hH0]; exact hP
  rw [← hH0]
  have hl := lv_entry ([.ref z0, .ref z2]) (n := 2) (Nat.le_of_ble_eq_true rfl)
  rw [lg_entry_eq]
  generalize (lg_sl ([.ref z0, .ref z2]) ++ List.replicate (2 - (lg_sl ([.ref z0, .ref z2])).length) Slot.unset).toArray = ls at hl ⊢
  have hl : lv_has ls 2 [(0, .ref z0), (1, .ref z2)] := hl
  refine lv_aload_n hx hb dJx4a65c_add_9ea2d_0 rfl (lv_at hl 0 rfl) ?_
  refine lv_dup hx hb dJx4a65c_add_9ea2d_1 rfl ?_
  refine va_get (D := g.1) (ci := 1) (v := .int 0) (C := RJx4a65c) (T := TJx4a65c) (N := 3) hx hb htg inG_Jx4a65c hown hK hP 0 rfl rfl 0 (by decide) (htg _ k1314) (fun x9 h9 => u_same (htg _ k1313) x9 h9) rfl dJx4a65c_add_9ea2d_2 ?_
  refine lv_iconst (v := 1) hx hb dJx4a65c_add_9ea2d_5 (by decide) ?_
  refine lv_iadd hx hb dJx4a65c_add_9ea2d_6 ?_
  refine lv_topi (fun x_1 ex_1 => ?_)
  obtain rfl : x_1 = 1 := ex_1.trans (by decide)
  refine va_put (D := g.1) (ci := 1) (v := .int 1) (ty := .int) (C := RJx4a65c) (T := TJx4a65c) (N := 3) hx hb htg inG_Jx4a65c tyJx4a65c tyJx4a65c_ok nmJx4a65c hown hK hP hD hS 0 rfl rfl 0 (by decide) (htg _ k1314) (fun x9 h9 => u_same (htg _ k1313) x9 h9) rfl (by decide +kernel) rfl rfl (Nat.le_of_ble_eq_true rfl) dJx4a65c_add_9ea2d_7 (fun H locs hP hD hS => ?_)
  have hP : va_P g.1 CLS [(z0, .inr (1, [.int 1, .ref (g.2.2 1), .int 0])), (z2, .inr (10, [.int h0, .int h1, .int h2, .int h3, .ref zb, .int h5, .int h6, .int h7, .int h8, .int h9, .int h10, .int h11, .int h12, .int h13]))] H := hP
  have hD : va_D A [(z0, .inr (1, [.int 1, .ref (g.2.2 1), .int 0])), (z2, .inr (10, [.int h0, .int h1, .int h2, .int h3, .ref zb, .int h5, .int h6, .int h7, .int h8, .int h9, .int h10, .int h11, .int h12, .int h13]))] := hD
  refine lv_aload_n hx hb dJx4a65c_add_9ea2d_10 rfl (lv_at hl 0 rfl) ?_
  refine lv_aload_n hx hb dJx4a65c_add_9ea2d_11 rfl (lv_at hl 1 rfl) ?_
  refine lv_aload_n hx hb dJx4a65c_add_9ea2d_12 rfl (lv_at hl 0 rfl) ?_
  refine va_get (D := g.1) (ci := 1) (v := .ref (g.2.2 1)) (C := RJx4a65c) (T := TJx4a65c) (N := 3) hx hb htg inG_Jx4a65c hown hK hP 0 rfl rfl 1 (by decide) (htg _ k1307) (fun _ h9 => h9) rfl dJx4a65c_add_9ea2d_13 ?_
  refine lv_aload_n hx hb dJx4a65c_add_9ea2d_16 rfl (lv_at hl 0 rfl) ?_
  refine va_get (D := g.1) (ci := 1) (v := .int 0) (C := RJx4a65c) (T := TJx4a65c) (N := 3) hx hb htg inG_Jx4a65c hown hK hP 0 rfl rfl 2 (by decide) (htg _ k1310) (fun _ h9 => h9) rfl dJx4a65c_add_9ea2d_17 ?_
  have hPc := hP.sub (ws' := [(z0, .inr (1, [.int 1, .ref (g.2.2 1), .int 0])), (z2, .inr (10, [.int h0, .int h1, .int h2, .int h3, .ref zb, .int h5, .int h6, .int h7, .int h8, .int h9, .int h10, .int h11, .int h12, .int h13]))]) [0, 1] rfl
  have hDc := hD.sub (ws' := [(z0, .inr (1, [.int 1, .ref (g.2.2 1), .int 0])), (z2, .inr (10, [.int h0, .int h1, .int h2, .int h3, .ref zb, .int h5, .int h6, .int h7, .int h8, .int h9, .int h10, .int h11, .int h12, .int h13]))]) [0, 1] (by decide) rfl
  have hFc := va_free (wc := [(z0, .inr (1, [.int 1, .ref (g.2.2 1), .int 0])), (z2, .inr (10, [.int h0, .int h1, .int h2, .int h3, .ref zb, .int h5, .int h6, .int h7, .int h8, .int h9, .int h10, .int h11, .int h12, .int h13]))]) hD hS hA [0, 1] rfl
  refine q_cv (wr := []) (va_runV (As := [.ref z2, .ref (g.2.2 1), .int 0]) (rest := []) ⟨hx, hb, hml, hown, htg⟩ (c_L_add3H l hfl g z0 z2 h0 h1 h2 h3 h5 h6 h7 h8 h9 h10 h11 h12 h13 zb  H.size) ⟨(qB htg k1512 k60 k1509 ok_Jx4a65c_add_72be8 rfl rfl ⟨Nat.le_of_ble_eq_true rfl, Nat.le_of_ble_eq_true rfl⟩), htg _ k1511, htg _ k20⟩ ⟨(q_pre [.ref z0, .ref z2, .ref (g.2.2 1), .int 0] hPc hDc hK hS hT hFc).1, va_recv hK hP (ci := 1) (q0 := 0) rfl rfl, (q_pre [.ref z0, .ref z2, .ref (g.2.2 1), .int 0] hPc hDc hK hS hT hFc).2⟩ rfl rfl hl.1 rfl (lv_room (Nat.le_of_ble_eq_true rfl)) dJx4a65c_add_9ea2d_20 ⟨Nat.le_of_ble_eq_true rfl, Nat.le_of_ble_eq_true rfl⟩) hP hD hS hFc [0, 1] [] rfl rfl (by decide) (by decide) (fun u9 H locs hw hP hD hS => ?_)
  try dsimp only at hw
  rcases hw with ⟨q_2, rfl⟩
  have hP : va_P g.1 CLS [(z0, .inr (1, [.int 1, .ref q_2, .int 1]))] H := hP
  have hD : va_D A [(z0, .inr (1, [.int 1, .ref q_2, .int 1]))] := hD
  refine W.widen (k := 1) (n := 10) (Nat.le_of_ble_eq_true rfl) (Nat.le_of_ble_eq_true rfl) ?_
  refine lv_iconst (v := 1) hx hb dJx4a65c_add_9ea2d_23 (by decide) ?_
  have hP9 := hP.sub (ws' := [(z0, .inr (1, [.int 1, .ref q_2, .int 1]))]) [0] rfl
  have hD9 := hD.sub (ws' := [(z0, .inr (1, [.int 1, .ref q_2, .int 1]))]) [0] (by decide) rfl
  refine W.widen (k := 1) (n := 10) (Nat.le_of_ble_eq_true rfl) (Nat.le_of_ble_eq_true rfl) ?_
  exact W.zret (v := 1) hx hb hr rfl (fun t ht hW => ⟨⟨1, [(z0, .inr (1, [.int 1, .ref q_2, .int 1]))], rfl, ⟨q_2, rfl, rfl⟩, by rw [ht]; exact hP9, va_K.moved hW.alike hK, hD9⟩, hS.F ht⟩) hS.2.2 dJx4a65c_add_9ea2d_24

set_option maxHeartbeats 4000000 in
set_option maxRecDepth 100000 in
theorem c_X12_init (l : Launch) (hfl : l.stackTraces = false) (g : GP) (z0 : Nat)  : CV l yX12_init (wG yX12_init cX12_init 1 (Option.none : Option Jvm.ClassFile.FieldType)) (LV 3 1 17) g [.ref z0] ([(z0, .inr (12, [.null, .int 0, .int 0]))]) (fun (u : va_W) => ∃ (q1 : Nat), u = [(z0, .inr (12, [.ref q1, .int 0, .int 0])), (q1, .inl (g.2.1 5, 17, .inr (.inr (.inr (.inr (fun _ => none))))))]) := by
  intro sz
  refine Met.ofW (cc := cX12_init) (maxL := 1) (ret := (Option.none : Option Jvm.ClassFile.FieldType)) (by decide) rfl ?_
  intro p e s m args below meth c s₁ B hml hv
  obtain ⟨rfl, hsz, hP, hK, hD0, hT0⟩ := hv
  have hx := B.exec
  have hb := B.bytes
  have hr := B.returns
  have hts := atoms_spec (ws := (wG yX12_init cX12_init 1 (Option.none : Option Jvm.ClassFile.FieldType))) B.pre
  have htg : ∀ w ∈ G9, w.before _ s = true := fun w h => hts w (List.mem_cons_of_mem _ h)
  have hown : s.vm.findClass "java/util/ArrayDeque" = some m.cls := findClass_of_methodNamed B.named
  have hlocks := B.notSynchronized
  have hin : meth.name = "<init>" := (name_of_methodNamed B.named B.method).1
  subst hsz
  have hD := hD0.self (sz := s.heap.size)
  have hT := hT0
  clear hT0
  generalize hAe : va_A [(z0, .inr (12, [.null, .int 0, .int 0]))] s.heap.size = A at hD hT ⊢
  have hA : ∀ q : Nat, s.heap.size ≤ q → A q := fun q h => by rw [← hAe]; exact Or.inr h
  obtain ⟨H, hH0⟩ : ∃ H, H = s.heap := ⟨_, rfl⟩
  have hS : va_S A s.heap H [] := by rw [hH0]; exact va_S.rf
  have hP : va_P g.1 CLS [(z0, .inr (12, [.null, .int 0, .int 0]))] H := by rw [hH0]; exact hP
  rw [← hH0]
  have hl := lv_entry ([.ref z0]) (n := 1) (Nat.le_of_ble_eq_true rfl)
  rw [lg_entry_eq]
  generalize (lg_sl ([.ref z0]) ++ List.replicate (1 - (lg_sl ([.ref z0])).length) Slot.unset).toArray = ls at hl ⊢
  have hl : lv_has ls 1 [(0, .ref z0)] := hl
  refine lv_aload_n hx hb dX12_init_0 rfl (lv_at hl 0 rfl) ?_
  have hPc := hP.sub (ws' := [(z0, .inr (12, [.null, .int 0, .int 0]))]) [0] rfl
  have hDc := hD.sub (ws' := [(z0, .inr (12, [.null, .int 0, .int 0]))]) [0] (by decide) rfl
  have hFc := va_free (wc := [(z0, .inr (12, [.null, .int 0, .int 0]))]) hD hS hA [0] rfl
  refine q_cv (wr := []) (va_runI (As := []) (rest := []) ⟨hx, hb, hml, hown, htg⟩ (c_Jxa1e45_init_D l hfl g z0  H.size) ⟨(qB htg k1303 k58 k1327 ok_Jxa1e45_init_da8c8 rfl rfl ⟨Nat.le_of_ble_eq_true rfl, Nat.le_of_ble_eq_true rfl⟩), rfl, htg _ k1302⟩ (q_pre [.ref z0] hPc hDc hK hS hT hFc) rfl rfl hl.1 rfl (lv_room (Nat.le_of_ble_eq_true rfl)) dX12_init_1 ⟨Nat.le_of_ble_eq_true rfl, Nat.le_of_ble_eq_true rfl⟩) hP hD hS hFc [0] [] rfl rfl (by decide) (by decide) (fun u9 H locs hw hP hD hS => ?_)
  try dsimp only at hw
  rcases hw with rfl
  have hP : va_P g.1 CLS [(z0, .inr (12, [.null, .int 0, .int 0]))] H := hP
  have hD : va_D A [(z0, .inr (12, [.null, .int 0, .int 0]))] := hD
  refine W.widen (k := 0) (n := 0) (Nat.le_of_ble_eq_true rfl) (Nat.le_of_ble_eq_true rfl) ?_
  refine lv_aload_n hx hb dX12_init_4 rfl (lv_at hl 0 rfl) ?_
  refine lv_bipush (v := 17) hx hb dX12_init_5 (by decide) ?_
  refine va_newq (own := "java/util/ArrayDeque") (C := "java/lang/Object") (index := 47) (N' := 17) hx hb hown (htg _ k1328) (hT.1.2.2.2.1.2.2) hK hP hD hS hA (by decide) (by decide) (by decide) (Nat.le_of_ble_eq_true rfl) (Nat.le_of_ble_eq_true rfl) dX12_init_7 (fun q_1 cA H hK9 hP hD hS => ?_)
  obtain rfl := q_arr hK9 (t0 := 5) rfl (by decide)
  clear hK9
  have hP : va_P g.1 CLS [(z0, .inr (12, [.null, .int 0, .int 0])), (q_1, .inl (g.2.1 5, 17, .inr (.inr (.inr (.inr (fun _ => none))))))] H := hP
  have hD : va_D A [(z0, .inr (12, [.null, .int 0, .int 0])), (q_1, .inl (g.2.1 5, 17, .inr (.inr (.inr (.inr (fun _ => none))))))] := hD
  refine W.widen (k := 1) (n := 17) (Nat.le_of_ble_eq_true rfl) (Nat.le_of_ble_eq_true rfl) ?_
  refine va_put (D := g.1) (ci := 12) (v := .ref q_1) (ty := (.array (.object "java/lang/Object"))) (C := RX12) (T := TX12) (N := 3) hx hb htg inG_X12 tyX12 tyX12_ok nmX12 hown hK hP hD hS 0 rfl rfl 0 (by decide) (htg _ k1330) (fun _ h9 => h9) rfl (by decide +kernel) rfl rfl (Nat.le_of_ble_eq_true rfl) dX12_init_10 (fun H locs hP hD hS => ?_)
  have hP : va_P g.1 CLS [(z0, .inr (12, [.ref q_1, .int 0, .int 0])), (q_1, .inl (g.2.1 5, 17, .inr (.inr (.inr (.inr (fun _ => none))))))] H := hP
  have hD : va_D A [(z0, .inr (12, [.ref q_1, .int 0, .int 0])), (q_1, .inl (g.2.1 5, 17, .inr (.inr (.inr (.inr (fun _ => none))))))] := hD
  have hP9 := hP.sub (ws' := [(z0, .inr (12, [.ref q_1, .int 0, .int 0])), (q_1, .inl (g.2.1 5, 17, .inr (.inr (.inr (.inr (fun _ => none))))))]) [0, 1] rfl
  have hD9 := hD.sub (ws' := [(z0, .inr (12, [.ref q_1, .int 0, .int 0])), (q_1, .inl (g.2.1 5, 17, .inr (.inr (.inr (.inr (fun _ => none))))))]) [0, 1] (by decide) rfl
  refine W.widen (k := 1) (n := 17) (Nat.le_of_ble_eq_true rfl) (Nat.le_of_ble_eq_true rfl) ?_
  exact W.vret hx hb hr (fun t ht hW => ⟨⟨[(z0, .inr (12, [.ref q_1, .int 0, .int 0])), (q_1, .inl (g.2.1 5, 17, .inr (.inr (.inr (.inr (fun _ => none))))))], rfl, ⟨q_1, rfl⟩, by rw [ht]; exact hP9, va_K.moved hW.alike hK, hD9⟩, hS.F ht⟩) hS.2.2 dX12_init_13

set_option maxHeartbeats 4000000 in
set_option maxRecDepth 100000 in
theorem c_X12_sub1 (l : Launch) (hfl : l.stackTraces = false) (g : GP)   : CI l yX12_sub (wG yX12_sub cX12_sub 3 (Option.some Jvm.ClassFile.FieldType.int)) (LV 1 0 0) g [.int 1, .int 0, .int 17] ([]) (fun (r : Int32) (u : va_W) => r = 1 ∧ u = []) := by
  intro sz
  refine Met.ofW (cc := cX12_sub) (maxL := 3) (ret := (Option.some Jvm.ClassFile.FieldType.int)) (by decide) rfl ?_
  intro p e s m args below meth c s₁ B hml hv
  obtain ⟨rfl, hsz, hP, hK, hD0, hT0⟩ := hv
  have hx := B.exec
  have hb := B.bytes
  have hr := B.returns
  have hts := atoms_spec (ws := (wG yX12_sub cX12_sub 3 (Option.some Jvm.ClassFile.FieldType.int))) B.pre
  have htg : ∀ w ∈ G9, w.before _ s = true := fun w h => hts w (List.mem_cons_of_mem _ h)
  have hown : s.vm.findClass "java/util/ArrayDeque" = some m.cls := findClass_of_methodNamed B.named
  have hlocks := B.notSynchronized
  subst hsz
  have hD := hD0.self (sz := s.heap.size)
  have hT := hT0
  clear hT0
  generalize hAe : va_A [] s.heap.size = A at hD hT ⊢
  have hA : ∀ q : Nat, s.heap.size ≤ q → A q := fun q h => by rw [← hAe]; exact Or.inr h
  obtain ⟨H, hH0⟩ : ∃ H, H = s.heap := ⟨_, rfl⟩
  have hS : va_S A s.heap H [] := by rw [hH0]; exact va_S.rf
  have hP : va_P g.1 CLS [] H := by rw [hH0]; exact hP
  rw [← hH0]
  have hl := lv_entry ([.int 1, .int 0, .int 17]) (n := 3) (Nat.le_of_ble_eq_true rfl)
  rw [lg_entry_eq]
  generalize (lg_sl ([.int 1, .int 0, .int 17]) ++ List.replicate (3 - (lg_sl ([.int 1, .int 0, .int 17])).length) Slot.unset).toArray = ls at hl ⊢
  have hl : lv_has ls 3 [(0, .int 1), (1, .int 0), (2, .int 17)] := hl
  refine lv_iload_n hx hb dX12_sub_0 rfl (lv_at hl 0 rfl) ?_
  refine lv_iload_n hx hb dX12_sub_1 rfl (lv_at hl 1 rfl) ?_
  refine lv_isub hx hb dX12_sub_2 ?_
  refine lv_topi (fun x_1 ex_1 => ?_)
  obtain rfl : x_1 = 1 := ex_1.trans (by decide)
  refine lv_dup hx hb dX12_sub_3 rfl ?_
  refine lv_istore_n (lv' := [(0, .int 1), (1, .int 0), (2, .int 17)]) hx hb dX12_sub_4 rfl hl (by decide) rfl (fun ls hl => ?_)
  refine lv_if_ge (tgt := 12) hx hb dX12_sub_5 (by decide) (fun c_2 => ?_) (fun c_2 => absurd (by decide) c_2)
  refine lv_iload_n hx hb dX12_sub_12 rfl (lv_at hl 0 rfl) ?_
  have hP9 := hP.sub (ws' := []) [] rfl
  have hD9 := hD.sub (ws' := []) [] (by decide) rfl
  refine W.widen (k := 0) (n := 0) (Nat.le_of_ble_eq_true rfl) (Nat.le_of_ble_eq_true rfl) ?_
  exact W.iret (v := 1) hx hb hr (fun t ht hW => ⟨⟨1, [], rfl, ⟨rfl, rfl⟩, by rw [ht]; exact hP9, va_K.moved hW.alike hK, hD9⟩, hS.F ht⟩) hS.2.2 dX12_sub_13

set_option maxHeartbeats 4000000 in
set_option maxRecDepth 100000 in
theorem c_X12_sub0 (l : Launch) (hfl : l.stackTraces = false) (g : GP)   : CI l yX12_sub (wG yX12_sub cX12_sub 3 (Option.some Jvm.ClassFile.FieldType.int)) (LV 1 0 0) g [.int 0, .int 0, .int 17] ([]) (fun (r : Int32) (u : va_W) => r = 0 ∧ u = []) := by
  intro sz
  refine Met.ofW (cc := cX12_sub) (maxL := 3) (ret := (Option.some Jvm.ClassFile.FieldType.int)) (by decide) rfl ?_
  intro p e s m args below meth c s₁ B hml hv
  obtain ⟨rfl, hsz, hP, hK, hD0, hT0⟩ := hv
  have hx := B.exec
  have hb := B.bytes
  have hr := B.returns
  have hts := atoms_spec (ws := (wG yX12_sub cX12_sub 3 (Option.some Jvm.ClassFile.FieldType.int))) B.pre
  have htg : ∀ w ∈ G9, w.before _ s = true := fun w h => hts w (List.mem_cons_of_mem _ h)
  have hown : s.vm.findClass "java/util/ArrayDeque" = some m.cls := findClass_of_methodNamed B.named
  have hlocks := B.notSynchronized
  subst hsz
  have hD := hD0.self (sz := s.heap.size)
  have hT := hT0
  clear hT0
  generalize hAe : va_A [] s.heap.size = A at hD hT ⊢
  have hA : ∀ q : Nat, s.heap.size ≤ q → A q := fun q h => by rw [← hAe]; exact Or.inr h
  obtain ⟨H, hH0⟩ : ∃ H, H = s.heap := ⟨_, rfl⟩
  have hS : va_S A s.heap H [] := by rw [hH0]; exact va_S.rf
  have hP : va_P g.1 CLS [] H := by rw [hH0]; exact hP
  rw [← hH0]
  have hl := lv_entry ([.int 0, .int 0, .int 17]) (n := 3) (Nat.le_of_ble_eq_true rfl)
  rw [lg_entry_eq]
  generalize (lg_sl ([.int 0, .int 0, .int 17]) ++ List.replicate (3 - (lg_sl ([.int 0, .int 0, .int 17])).length) Slot.unset).toArray = ls at hl ⊢
  have hl : lv_has ls 3 [(0, .int 0), (1, .int 0), (2, .int 17)] := hl
  refine lv_iload_n hx hb dX12_sub_0 rfl (lv_at hl 0 rfl) ?_
  refine lv_iload_n hx hb dX12_sub_1 rfl (lv_at hl 1 rfl) ?_
  refine lv_isub hx hb dX12_sub_2 ?_
  refine lv_topi (fun x_1 ex_1 => ?_)
  obtain rfl : x_1 = 0 := ex_1.trans (by decide)
  refine lv_dup hx hb dX12_sub_3 rfl ?_
  refine lv_istore_n (lv' := [(0, .int 0), (1, .int 0), (2, .int 17)]) hx hb dX12_sub_4 rfl hl (by decide) rfl (fun ls hl => ?_)
  refine lv_if_ge (tgt := 12) hx hb dX12_sub_5 (by decide) (fun c_2 => ?_) (fun c_2 => absurd (by decide) c_2)
  refine lv_iload_n hx hb dX12_sub_12 rfl (lv_at hl 0 rfl) ?_
  have hP9 := hP.sub (ws' := []) [] rfl
  have hD9 := hD.sub (ws' := []) [] (by decide) rfl
  refine W.widen (k := 0) (n := 0) (Nat.le_of_ble_eq_true rfl) (Nat.le_of_ble_eq_true rfl) ?_
  exact W.iret (v := 0) hx hb hr (fun t ht hW => ⟨⟨0, [], rfl, ⟨rfl, rfl⟩, by rw [ht]; exact hP9, va_K.moved hW.alike hK, hD9⟩, hS.F ht⟩) hS.2.2 dX12_sub_13

set_option maxHeartbeats 4000000 in
set_option maxRecDepth 100000 in
theorem c_X12_inc (l : Launch) (hfl : l.stackTraces = false) (g : GP)   : CI l yX12_inc (wG yX12_inc cX12_inc 2 (Option.some Jvm.ClassFile.FieldType.int)) (LV 1 0 0) g [.int 0, .int 17] ([]) (fun (r : Int32) (u : va_W) => r = 1 ∧ u = []) := by
  intro sz
  refine Met.ofW (cc := cX12_inc) (maxL := 2) (ret := (Option.some Jvm.ClassFile.FieldType.int)) (by decide) rfl ?_
  intro p e s m args below meth c s₁ B hml hv
  obtain ⟨rfl, hsz, hP, hK, hD0, hT0⟩ := hv
  have hx := B.exec
  have hb := B.bytes
  have hr := B.returns
  have hts := atoms_spec (ws := (wG yX12_inc cX12_inc 2 (Option.some Jvm.ClassFile.FieldType.int))) B.pre
  have htg : ∀ w ∈ G9, w.before _ s = true := fun w h => hts w (List.mem_cons_of_mem _ h)
  have hown : s.vm.findClass "java/util/ArrayDeque" = some m.cls := findClass_of_methodNamed B.named
  have hlocks := B.notSynchronized
  subst hsz
  have hD := hD0.self (sz := s.heap.size)
  have hT := hT0
  clear hT0
  generalize hAe : va_A [] s.heap.size = A at hD hT ⊢
  have hA : ∀ q : Nat, s.heap.size ≤ q → A q := fun q h => by rw [← hAe]; exact Or.inr h
  obtain ⟨H, hH0⟩ : ∃ H, H = s.heap := ⟨_, rfl⟩
  have hS : va_S A s.heap H [] := by rw [hH0]; exact va_S.rf
  have hP : va_P g.1 CLS [] H := by rw [hH0]; exact hP
  rw [← hH0]
  have hl := lv_entry ([.int 0, .int 17]) (n := 2) (Nat.le_of_ble_eq_true rfl)
  rw [lg_entry_eq]
  generalize (lg_sl ([.int 0, .int 17]) ++ List.replicate (2 - (lg_sl ([.int 0, .int 17])).length) Slot.unset).toArray = ls at hl ⊢
  have hl : lv_has ls 2 [(0, .int 0), (1, .int 17)] := hl
  refine lv_iinc (v := 1) (lv' := [(0, .int 1), (1, .int 17)]) hx hb dX12_inc_0 hl (k := 0) rfl (by decide) (by decide) rfl (fun ls hl => ?_)
  refine lv_iload_n hx hb dX12_inc_3 rfl (lv_at hl 0 rfl) ?_
  refine lv_iload_n hx hb dX12_inc_4 rfl (lv_at hl 1 rfl) ?_
  refine lv_icmp_lt (tgt := 10) hx hb dX12_inc_5 (by decide) (fun c_1 => ?_) (fun c_1 => absurd (by decide) c_1)
  refine lv_iload_n hx hb dX12_inc_10 rfl (lv_at hl 0 rfl) ?_
  have hP9 := hP.sub (ws' := []) [] rfl
  have hD9 := hD.sub (ws' := []) [] (by decide) rfl
  refine W.widen (k := 0) (n := 0) (Nat.le_of_ble_eq_true rfl) (Nat.le_of_ble_eq_true rfl) ?_
  exact W.iret (v := 1) hx hb hr (fun t ht hW => ⟨⟨1, [], rfl, ⟨rfl, rfl⟩, by rw [ht]; exact hP9, va_K.moved hW.alike hK, hD9⟩, hS.F ht⟩) hS.2.2 dX12_inc_11

set_option maxHeartbeats 4000000 in
set_option maxRecDepth 100000 in
theorem c_X12_size0 (l : Launch) (hfl : l.stackTraces = false) (g : GP) (z0 : Nat) (z1 : Nat) (f1 : Nat → Option Nat)  : CI l yX12_size (wG yX12_size cX12_size 1 (Option.some Jvm.ClassFile.FieldType.int)) (LV 2 0 0) g [.ref z0] ([(z0, .inr (12, [.ref z1, .int 0, .int 0])), (z1, .inl (g.2.1 5, 17, .inr (.inr (.inr (.inr f1)))))]) (fun (r : Int32) (u : va_W) => r = 0 ∧ u = [(z0, .inr (12, [.ref z1, .int 0, .int 0]))]) := by
  intro sz
  refine Met.ofW (cc := cX12_size) (maxL := 1) (ret := (Option.some Jvm.ClassFile.FieldType.int)) (by decide) rfl ?_
  intro p e s m args below meth c s₁ B hml hv
  obtain ⟨rfl, hsz, hP, hK, hD0, hT0⟩ := hv
  have hx := B.exec
  have hb := B.bytes
  have hr := B.returns
  have hts := atoms_spec (ws := (wG yX12_size cX12_size 1 (Option.some Jvm.ClassFile.FieldType.int))) B.pre
  have htg : ∀ w ∈ G9, w.before _ s = true := fun w h => hts w (List.mem_cons_of_mem _ h)
  have hown : s.vm.findClass "java/util/ArrayDeque" = some m.cls := findClass_of_methodNamed B.named
  have hlocks := B.notSynchronized
  subst hsz
  have hD := hD0.self (sz := s.heap.size)
  have hT := hT0
  clear hT0
  generalize hAe : va_A [(z0, .inr (12, [.ref z1, .int 0, .int 0])), (z1, .inl (g.2.1 5, 17, .inr (.inr (.inr (.inr f1)))))] s.heap.size = A at hD hT ⊢
  have hA : ∀ q : Nat, s.heap.size ≤ q → A q := fun q h => by rw [← hAe]; exact Or.inr h
  obtain ⟨H, hH0⟩ : ∃ H, H = s.heap := ⟨_, rfl⟩
  have hS : va_S A s.heap H [] := by rw [hH0]; exact va_S.rf
  have hP : va_P g.1 CLS [(z0, .inr (12, [.ref z1, .int 0, .int 0])), (z1, .inl (g.2.1 5, 17, .inr (.inr (.inr (.inr f1)))))] H := by rw [hH0]; exact hP
  rw [← hH0]
  have hl := lv_entry ([.ref z0]) (n := 1) (Nat.le_of_ble_eq_true rfl)
  rw [lg_entry_eq]
  generalize (lg_sl ([.ref z0]) ++ List.replicate (1 - (lg_sl ([.ref z0])).length) Slot.unset).toArray = ls at hl ⊢
  have hl : lv_has ls 1 [(0, .ref z0)] := hl
  refine lv_aload_n hx hb dX12_size_0 rfl (lv_at hl 0 rfl) ?_
  refine va_get (D := g.1) (ci := 12) (v := .int 0) (C := RX12) (T := TX12) (N := 3) hx hb htg inG_X12 hown hK hP 0 rfl rfl 2 (by decide) (htg _ k1332) (fun _ h9 => h9) rfl dX12_size_1 ?_
  refine lv_aload_n hx hb dX12_size_4 rfl (lv_at hl 0 rfl) ?_
  refine va_get (D := g.1) (ci := 12) (v := .int 0) (C := RX12) (T := TX12) (N := 3) hx hb htg inG_X12 hown hK hP 0 rfl rfl 1 (by decide) (htg _ k1331) (fun _ h9 => h9) rfl dX12_size_5 ?_
  refine lv_aload_n hx hb dX12_size_8 rfl (lv_at hl 0 rfl) ?_
  refine va_get (D := g.1) (ci := 12) (v := .ref z1) (C := RX12) (T := TX12) (N := 3) hx hb htg inG_X12 hown hK hP 0 rfl rfl 0 (by decide) (htg _ k1330) (fun _ h9 => h9) rfl dX12_size_9 ?_
  refine va_alen (v := 17) hx hb hK hP 1 5 rfl rfl rfl dX12_size_12 ?_
  have hPc := hP.sub (ws' := []) [] rfl
  have hDc := hD.sub (ws' := []) [] (by decide) rfl
  have hFc := va_free (wc := []) hD hS hA [] rfl
  refine q_ci (wr := [(z0, .inr (12, [.ref z1, .int 0, .int 0])), (z1, .inl (g.2.1 5, 17, .inr (.inr (.inr (.inr f1)))))]) (va_runS (As := [.int 0, .int 0, .int 17]) (rest := []) ⟨hx, hb, hml, hown, htg⟩ (c_X12_sub0 l hfl g   H.size) ⟨(qB htg k1859 k61 k1857 ok_X12_sub rfl rfl ⟨Nat.le_of_ble_eq_true rfl, Nat.le_of_ble_eq_true rfl⟩), htg _ k1858⟩ (q_pre [.int 0, .int 0, .int 17] hPc hDc hK hS hT hFc) rfl rfl hl.1 rfl (lv_room (Nat.le_of_ble_eq_true rfl)) dX12_size_13 ⟨Nat.le_of_ble_eq_true rfl, Nat.le_of_ble_eq_true rfl⟩) hP hD hS hFc [] [0, 1] rfl rfl (by decide) (by decide) (fun r9 u9 H locs hw hP hD hS => ?_)
  try dsimp only at hw
  rcases hw with ⟨rfl, rfl⟩
  have hP : va_P g.1 CLS [(z0, .inr (12, [.ref z1, .int 0, .int 0])), (z1, .inl (g.2.1 5, 17, .inr (.inr (.inr (.inr f1)))))] H := hP
  have hD : va_D A [(z0, .inr (12, [.ref z1, .int 0, .int 0])), (z1, .inl (g.2.1 5, 17, .inr (.inr (.inr (.inr f1)))))] := hD
  refine W.widen (k := 0) (n := 0) (Nat.le_of_ble_eq_true rfl) (Nat.le_of_ble_eq_true rfl) ?_
  have hP9 := hP.sub (ws' := [(z0, .inr (12, [.ref z1, .int 0, .int 0]))]) [0] rfl
  have hD9 := hD.sub (ws' := [(z0, .inr (12, [.ref z1, .int 0, .int 0]))]) [0] (by decide) rfl
  refine W.widen (k := 0) (n := 0) (Nat.le_of_ble_eq_true rfl) (Nat.le_of_ble_eq_true rfl) ?_
  exact W.iret (v := 0) hx hb hr (fun t ht hW => ⟨⟨0, [(z0, .inr (12, [.ref z1, .int 0, .int 0]))], rfl, ⟨rfl, rfl⟩, by rw [ht]; exact hP9, va_K.moved hW.alike hK, hD9⟩, hS.F ht⟩) hS.2.2 dX12_size_16

set_option maxHeartbeats 4000000 in
set_option maxRecDepth 100000 in
theorem c_X12_size1 (l : Launch) (hfl : l.stackTraces = false) (g : GP) (z0 : Nat) (z1 : Nat) (f1 : Nat → Option Nat)  : CI l yX12_size (wG yX12_size cX12_size 1 (Option.some Jvm.ClassFile.FieldType.int)) (LV 2 0 0) g [.ref z0] ([(z0, .inr (12, [.ref z1, .int 0, .int 1])), (z1, .inl (g.2.1 5, 17, .inr (.inr (.inr (.inr f1)))))]) (fun (r : Int32) (u : va_W) => r = 1 ∧ u = [(z0, .inr (12, [.ref z1, .int 0, .int 1]))]) := by
  intro sz
  refine Met.ofW (cc := cX12_size) (maxL := 1) (ret := (Option.some Jvm.ClassFile.FieldType.int)) (by decide) rfl ?_
  intro p e s m args below meth c s₁ B hml hv
  obtain ⟨rfl, hsz, hP, hK, hD0, hT0⟩ := hv
  have hx := B.exec
  have hb := B.bytes
  have hr := B.returns
  have hts := atoms_spec (ws := (wG yX12_size cX12_size 1 (Option.some Jvm.ClassFile.FieldType.int))) B.pre
  have htg : ∀ w ∈ G9, w.before _ s = true := fun w h => hts w (List.mem_cons_of_mem _ h)
  have hown : s.vm.findClass "java/util/ArrayDeque" = some m.cls := findClass_of_methodNamed B.named
  have hlocks := B.notSynchronized
  subst hsz
  have hD := hD0.self (sz := s.heap.size)
  have hT := hT0
  clear hT0
  generalize hAe : va_A [(z0, .inr (12, [.ref z1, .int 0, .int 1])), (z1, .inl (g.2.1 5, 17, .inr (.inr (.inr (.inr f1)))))] s.heap.size = A at hD hT ⊢
  have hA : ∀ q : Nat, s.heap.size ≤ q → A q := fun q h => by rw [← hAe]; exact Or.inr h
  obtain ⟨H, hH0⟩ : ∃ H, H = s.heap := ⟨_, rfl⟩
  have hS : va_S A s.heap H [] := by rw [hH0]; exact va_S.rf
  have hP : va_P g.1 CLS [(z0, .inr (12, [.ref z1, .int 0, .int 1])), (z1, .inl (g.2.1 5, 17, .inr (.inr (.inr (.inr f1)))))] H := by rw [hH0]; exact hP
  rw [← hH0]
  have hl := lv_entry ([.ref z0]) (n := 1) (Nat.le_of_ble_eq_true rfl)
  rw [lg_entry_eq]
  generalize (lg_sl ([.ref z0]) ++ List.replicate (1 - (lg_sl ([.ref z0])).length) Slot.unset).toArray = ls at hl ⊢
  have hl : lv_has ls 1 [(0, .ref z0)] := hl
  refine lv_aload_n hx hb dX12_size_0 rfl (lv_at hl 0 rfl) ?_
  refine va_get (D := g.1) (ci := 12) (v := .int 1) (C := RX12) (T := TX12) (N := 3) hx hb htg inG_X12 hown hK hP 0 rfl rfl 2 (by decide) (htg _ k1332) (fun _ h9 => h9) rfl dX12_size_1 ?_
  refine lv_aload_n hx hb dX12_size_4 rfl (lv_at hl 0 rfl) ?_
  refine va_get (D := g.1) (ci := 12) (v := .int 0) (C := RX12) (T := TX12) (N := 3) hx hb htg inG_X12 hown hK hP 0 rfl rfl 1 (by decide) (htg _ k1331) (fun _ h9 => h9) rfl dX12_size_5 ?_
  refine lv_aload_n hx hb dX12_size_8 rfl (lv_at hl 0 rfl) ?_
  refine va_get (D := g.1) (ci := 12) (v := .ref z1) (C := RX12) (T := TX12) (N := 3) hx hb htg inG_X12 hown hK hP 0 rfl rfl 0 (by decide) (htg _ k1330) (fun _ h9 => h9) rfl dX12_size_9 ?_
  refine va_alen (v := 17) hx hb hK hP 1 5 rfl rfl rfl dX12_size_12 ?_
  have hPc := hP.sub (ws' := []) [] rfl
  have hDc := hD.sub (ws' := []) [] (by decide) rfl
  have hFc := va_free (wc := []) hD hS hA [] rfl
  refine q_ci (wr := [(z0, .inr (12, [.ref z1, .int 0, .int 1])), (z1, .inl (g.2.1 5, 17, .inr (.inr (.inr (.inr f1)))))]) (va_runS (As := [.int 1, .int 0, .int 17]) (rest := []) ⟨hx, hb, hml, hown, htg⟩ (c_X12_sub1 l hfl g   H.size) ⟨(qB htg k1859 k61 k1857 ok_X12_sub rfl rfl ⟨Nat.le_of_ble_eq_true rfl, Nat.le_of_ble_eq_true rfl⟩), htg _ k1858⟩ (q_pre [.int 1, .int 0, .int 17] hPc hDc hK hS hT hFc) rfl rfl hl.1 rfl (lv_room (Nat.le_of_ble_eq_true rfl)) dX12_size_13 ⟨Nat.le_of_ble_eq_true rfl, Nat.le_of_ble_eq_true rfl⟩) hP hD hS hFc [] [0, 1] rfl rfl (by decide) (by decide) (fun r9 u9 H locs hw hP hD hS => ?_)
  try dsimp only at hw
  rcases hw with ⟨rfl, rfl⟩
  have hP : va_P g.1 CLS [(z0, .inr (12, [.ref z1, .int 0, .int 1])), (z1, .inl (g.2.1 5, 17, .inr (.inr (.inr (.inr f1)))))] H := hP
  have hD : va_D A [(z0, .inr (12, [.ref z1, .int 0, .int 1])), (z1, .inl (g.2.1 5, 17, .inr (.inr (.inr (.inr f1)))))] := hD
  refine W.widen (k := 0) (n := 0) (Nat.le_of_ble_eq_true rfl) (Nat.le_of_ble_eq_true rfl) ?_
  have hP9 := hP.sub (ws' := [(z0, .inr (12, [.ref z1, .int 0, .int 1]))]) [0] rfl
  have hD9 := hD.sub (ws' := [(z0, .inr (12, [.ref z1, .int 0, .int 1]))]) [0] (by decide) rfl
  refine W.widen (k := 0) (n := 0) (Nat.le_of_ble_eq_true rfl) (Nat.le_of_ble_eq_true rfl) ?_
  exact W.iret (v := 1) hx hb hr (fun t ht hW => ⟨⟨1, [(z0, .inr (12, [.ref z1, .int 0, .int 1]))], rfl, ⟨rfl, rfl⟩, by rw [ht]; exact hP9, va_K.moved hW.alike hK, hD9⟩, hS.F ht⟩) hS.2.2 dX12_size_16

set_option maxHeartbeats 4000000 in
set_option maxRecDepth 100000 in
theorem c_X12_addLast (l : Launch) (hfl : l.stackTraces = false) (g : GP) (z0 : Nat) (z1 : Nat) (f1 : Nat → Option Nat) (k9 : Nat) (hki : k9 < 256) : CV l yX12_addLast (wG yX12_addLast cX12_addLast 3 (Option.none : Option Jvm.ClassFile.FieldType)) (LV 2 0 0) g [.ref z0, .ref (g.2.2 (1000 + k9))] ([(z0, .inr (12, [.ref z1, .int 0, .int 0])), (z1, .inl (g.2.1 5, 17, .inr (.inr (.inr (.inr f1)))))]) (fun (u : va_W) => ∃ (f2 : Nat → Option Nat), u = [(z0, .inr (12, [.ref z1, .int 0, .int 1])), (z1, .inl (g.2.1 5, 17, .inr (.inr (.inr (.inr f2)))))]) := by
  intro sz
  refine Met.ofW (cc := cX12_addLast) (maxL := 3) (ret := (Option.none : Option Jvm.ClassFile.FieldType)) (by decide) rfl ?_
  intro p e s m args below meth c s₁ B hml hv
  obtain ⟨rfl, hsz, hP, hK, hD0, hT0⟩ := hv
  have hx := B.exec
  have hb := B.bytes
  have hr := B.returns
  have hts := atoms_spec (ws := (wG yX12_addLast cX12_addLast 3 (Option.none : Option Jvm.ClassFile.FieldType))) B.pre
  have htg : ∀ w ∈ G9, w.before _ s = true := fun w h => hts w (List.mem_cons_of_mem _ h)
  have hown : s.vm.findClass "java/util/ArrayDeque" = some m.cls := findClass_of_methodNamed B.named
  have hlocks := B.notSynchronized
  subst hsz
  have hD := hD0.self (sz := s.heap.size)
  have hT := hT0
  clear hT0
  generalize hAe : va_A [(z0, .inr (12, [.ref z1, .int 0, .int 0])), (z1, .inl (g.2.1 5, 17, .inr (.inr (.inr (.inr f1)))))] s.heap.size = A at hD hT ⊢
  have hA : ∀ q : Nat, s.heap.size ≤ q → A q := fun q h => by rw [← hAe]; exact Or.inr h
  obtain ⟨H, hH0⟩ : ∃ H, H = s.heap := ⟨_, rfl⟩
  have hS : va_S A s.heap H [] := by rw [hH0]; exact va_S.rf
  have hP : va_P g.1 CLS [(z0, .inr (12, [.ref z1, .int 0, .int 0])), (z1, .inl (g.2.1 5, 17, .inr (.inr (.inr (.inr f1)))))] H := by rw [hH0]; exact hP
  rw [← hH0]
  have hl := lv_entry ([.ref z0, .ref (g.2.2 (1000 + k9))]) (n := 3) (Nat.le_of_ble_eq_true rfl)
  rw [lg_entry_eq]
  generalize (lg_sl ([.ref z0, .ref (g.2.2 (1000 + k9))]) ++ List.replicate (3 - (lg_sl ([.ref z0, .ref (g.2.2 (1000 + k9))])).length) Slot.unset).toArray = ls at hl ⊢
  have hl : lv_has ls 3 [(0, .ref z0), (1, .ref (g.2.2 (1000 + k9)))] := hl
  refine lv_aload_n hx hb dX12_addLast_0 rfl (lv_at hl 1 rfl) ?_
  refine lv_ifnonnull (tgt := 12) hx hb dX12_addLast_1 (by decide) ?_
  refine lv_aload_n hx hb dX12_addLast_12 rfl (lv_at hl 0 rfl) ?_
  refine va_get (D := g.1) (ci := 12) (v := .ref z1) (C := RX12) (T := TX12) (N := 3) hx hb htg inG_X12 hown hK hP 0 rfl rfl 0 (by decide) (htg _ k1330) (fun _ h9 => h9) rfl dX12_addLast_13 ?_
  refine lv_astore_n (lv' := [(2, .ref z1), (0, .ref z0), (1, .ref (g.2.2 (1000 + k9)))]) hx hb dX12_addLast_16 rfl hl (by decide) rfl (fun ls hl => ?_)
  refine lv_aload_n hx hb dX12_addLast_17 rfl (lv_at hl 0 rfl) ?_
  refine lv_aload_n hx hb dX12_addLast_18 rfl (lv_at hl 1 rfl) ?_
  refine va_get (D := g.1) (ci := 12) (v := .int 0) (C := RX12) (T := TX12) (N := 3) hx hb htg inG_X12 hown hK hP 0 rfl rfl 2 (by decide) (htg _ k1332) (fun _ h9 => h9) rfl dX12_addLast_19 ?_
  refine lv_aload_n hx hb dX12_addLast_22 rfl (lv_at hl 2 rfl) ?_
  refine vb_astq hx hb hK hP hD hS 1 5 rfl rfl (C := "java/lang/Integer") (q_recvI hT hS hki) (vb_asgC hT.1.2.2.2.2.2.2.2.2.2.2.2) (i := 0) (vp_in_iff.mpr (by decide)) dX12_addLast_23 (fun H locs hP hD hS => ?_)
  have hP : va_P g.1 CLS [(z0, .inr (12, [.ref z1, .int 0, .int 0])), (z1, .inl (g.2.1 5, 17, .inr (.inr (.inr (.inr (va_up f1 0 (some (g.2.2 (1000 + k9)))))))))] H := hP
  have hD : va_D A [(z0, .inr (12, [.ref z1, .int 0, .int 0])), (z1, .inl (g.2.1 5, 17, .inr (.inr (.inr (.inr (va_up f1 0 (some (g.2.2 (1000 + k9)))))))))] := hD
  refine lv_aload_n hx hb dX12_addLast_24 rfl (lv_at hl 1 rfl) ?_
  refine va_get (D := g.1) (ci := 12) (v := .int 0) (C := RX12) (T := TX12) (N := 3) hx hb htg inG_X12 hown hK hP 0 rfl rfl 1 (by decide) (htg _ k1331) (fun _ h9 => h9) rfl dX12_addLast_25 ?_
  refine lv_aload_n hx hb dX12_addLast_28 rfl (lv_at hl 1 rfl) ?_
  refine lv_aload_n hx hb dX12_addLast_29 rfl (lv_at hl 1 rfl) ?_
  refine va_get (D := g.1) (ci := 12) (v := .int 0) (C := RX12) (T := TX12) (N := 3) hx hb htg inG_X12 hown hK hP 0 rfl rfl 2 (by decide) (htg _ k1332) (fun _ h9 => h9) rfl dX12_addLast_30 ?_
  refine lv_aload_n hx hb dX12_addLast_33 rfl (lv_at hl 0 rfl) ?_
  refine va_alen (v := 17) hx hb hK hP 1 5 rfl rfl rfl dX12_addLast_34 ?_
  have hPc := hP.sub (ws' := []) [] rfl
  have hDc := hD.sub (ws' := []) [] (by decide) rfl
  have hFc := va_free (wc := []) hD hS hA [] rfl
  refine q_ci (wr := [(z0, .inr (12, [.ref z1, .int 0, .int 0])), (z1, .inl (g.2.1 5, 17, .inr (.inr (.inr (.inr (va_up f1 0 (some (g.2.2 (1000 + k9)))))))))]) (va_runS (As := [.int 0, .int 17]) (rest := [.ref z0, .int 0]) ⟨hx, hb, hml, hown, htg⟩ (c_X12_inc l hfl g   H.size) ⟨(qB htg k1837 k61 k1835 ok_X12_inc rfl rfl ⟨Nat.le_of_ble_eq_true rfl, Nat.le_of_ble_eq_true rfl⟩), htg _ k1836⟩ (q_pre [.int 0, .int 17] hPc hDc hK hS hT hFc) rfl rfl hl.1 rfl (lv_room (Nat.le_of_ble_eq_true rfl)) dX12_addLast_35 ⟨Nat.le_of_ble_eq_true rfl, Nat.le_of_ble_eq_true rfl⟩) hP hD hS hFc [] [0, 1] rfl rfl (by decide) (by decide) (fun r9 u9 H locs hw hP hD hS => ?_)
  try dsimp only at hw
  rcases hw with ⟨rfl, rfl⟩
  have hP : va_P g.1 CLS [(z0, .inr (12, [.ref z1, .int 0, .int 0])), (z1, .inl (g.2.1 5, 17, .inr (.inr (.inr (.inr (va_up f1 0 (some (g.2.2 (1000 + k9)))))))))] H := hP
  have hD : va_D A [(z0, .inr (12, [.ref z1, .int 0, .int 0])), (z1, .inl (g.2.1 5, 17, .inr (.inr (.inr (.inr (va_up f1 0 (some (g.2.2 (1000 + k9)))))))))] := hD
  refine W.widen (k := 0) (n := 0) (Nat.le_of_ble_eq_true rfl) (Nat.le_of_ble_eq_true rfl) ?_
  refine lv_dup_x1 hx hb dX12_addLast_38 rfl rfl ?_
  refine va_put (D := g.1) (ci := 12) (v := .int 1) (ty := .int) (C := RX12) (T := TX12) (N := 3) hx hb htg inG_X12 tyX12 tyX12_ok nmX12 hown hK hP hD hS 0 rfl rfl 2 (by decide) (htg _ k1332) (fun _ h9 => h9) rfl (by decide +kernel) rfl rfl (Nat.le_of_ble_eq_true rfl) dX12_addLast_39 (fun H locs hP hD hS => ?_)
  have hP : va_P g.1 CLS [(z0, .inr (12, [.ref z1, .int 0, .int 1])), (z1, .inl (g.2.1 5, 17, .inr (.inr (.inr (.inr (va_up f1 0 (some (g.2.2 (1000 + k9)))))))))] H := hP
  have hD : va_D A [(z0, .inr (12, [.ref z1, .int 0, .int 1])), (z1, .inl (g.2.1 5, 17, .inr (.inr (.inr (.inr (va_up f1 0 (some (g.2.2 (1000 + k9)))))))))] := hD
  refine lv_icmp_ne (tgt := 50) hx hb dX12_addLast_42 (by decide) (fun c_1 => ?_) (fun c_1 => absurd c_1 (by decide))
  have hP9 := hP.sub (ws' := [(z0, .inr (12, [.ref z1, .int 0, .int 1])), (z1, .inl (g.2.1 5, 17, .inr (.inr (.inr (.inr (va_up f1 0 (some (g.2.2 (1000 + k9)))))))))]) [0, 1] rfl
  have hD9 := hD.sub (ws' := [(z0, .inr (12, [.ref z1, .int 0, .int 1])), (z1, .inl (g.2.1 5, 17, .inr (.inr (.inr (.inr (va_up f1 0 (some (g.2.2 (1000 + k9)))))))))]) [0, 1] (by decide) rfl
  refine W.widen (k := 0) (n := 0) (Nat.le_of_ble_eq_true rfl) (Nat.le_of_ble_eq_true rfl) ?_
  exact W.vret hx hb hr (fun t ht hW => ⟨⟨[(z0, .inr (12, [.ref z1, .int 0, .int 1])), (z1, .inl (g.2.1 5, 17, .inr (.inr (.inr (.inr (va_up f1 0 (some (g.2.2 (1000 + k9)))))))))], rfl, ⟨(va_up f1 0 (some (g.2.2 (1000 + k9)))), rfl⟩, by rw [ht]; exact hP9, va_K.moved hW.alike hK, hD9⟩, hS.F ht⟩) hS.2.2 dX12_addLast_50

set_option maxHeartbeats 4000000 in
set_option maxRecDepth 100000 in
theorem c_J6_valueOf (l : Launch) (hfl : l.stackTraces = false) (g : GP) (n1 : Int32) (hdie : okDie n1) : CQ l yJ6_valueOf_2dffe (wG yJ6_valueOf_2dffe cJ6_valueOf_2dffe 1 (Option.some (Jvm.ClassFile.FieldType.object "java/lang/Integer"))) (LV 1 0 0) g [.int n1] ([]) (fun (r : Option Nat) (u : va_W) => ∃ (k9 : Nat), (k9 < 256) ∧ r = some (g.2.2 (1000 + k9)) ∧ u = []) := by
  intro sz
  refine Met.ofW (cc := cJ6_valueOf_2dffe) (maxL := 1) (ret := (Option.some (Jvm.ClassFile.FieldType.object "java/lang/Integer"))) (by decide) rfl ?_
  intro p e s m args below meth c s₁ B hml hv
  obtain ⟨rfl, hsz, hP, hK, hD0, hT0⟩ := hv
  have hx := B.exec
  have hb := B.bytes
  have hr := B.returns
  have hts := atoms_spec (ws := (wG yJ6_valueOf_2dffe cJ6_valueOf_2dffe 1 (Option.some (Jvm.ClassFile.FieldType.object "java/lang/Integer")))) B.pre
  have htg : ∀ w ∈ G9, w.before _ s = true := fun w h => hts w (List.mem_cons_of_mem _ h)
  have hown : s.vm.findClass "java/lang/Integer" = some m.cls := findClass_of_methodNamed B.named
  have hlocks := B.notSynchronized
  subst hsz
  have hD := hD0.self (sz := s.heap.size)
  have hT := hT0
  clear hT0
  generalize hAe : va_A [] s.heap.size = A at hD hT ⊢
  have hA : ∀ q : Nat, s.heap.size ≤ q → A q := fun q h => by rw [← hAe]; exact Or.inr h
  obtain ⟨H, hH0⟩ : ∃ H, H = s.heap := ⟨_, rfl⟩
  have hS : va_S A s.heap H [] := by rw [hH0]; exact va_S.rf
  have hP : va_P g.1 CLS [] H := by rw [hH0]; exact hP
  rw [← hH0]
  have hl := lv_entry ([.int n1]) (n := 1) (Nat.le_of_ble_eq_true rfl)
  rw [lg_entry_eq]
  generalize (lg_sl ([.int n1]) ++ List.replicate (1 - (lg_sl ([.int n1])).length) Slot.unset).toArray = ls at hl ⊢
  have hl : lv_has ls 1 [(0, .int n1)] := hl
  refine lv_iload_n hx hb dJ6_valueOf_2dffe_0 rfl (lv_at hl 0 rfl) ?_
  refine lv_bipush (v := (-128)) hx hb dJ6_valueOf_2dffe_1 (by decide) ?_
  refine lv_icmp_lt (tgt := 23) hx hb dJ6_valueOf_2dffe_3 (by decide) (fun c_1 => absurd c_1 (by simp only [okDie] at hdie; intro h; simp only [fa_lt] at h; have : (-128 : Int32).toInt = -128 := rfl; omega)) (fun c_1 => ?_)
  refine lv_iload_n hx hb dJ6_valueOf_2dffe_6 rfl (lv_at hl 0 rfl) ?_
  refine va_gets hx hb (hT.2.2.2.2.2.2.1.1) hS hown (htg _ k1814) (fun _ h9 => h9) dJ6_valueOf_2dffe_7 ?_
  refine lv_icmp_gt (tgt := 23) hx hb dJ6_valueOf_2dffe_10 (by decide) (fun c_2 => absurd c_2 (by simp only [okDie] at hdie; intro h; simp only [fa_lt] at h; have : (127 : Int32).toInt = 127 := rfl; omega)) (fun c_2 => ?_)
  refine va_gets hx hb (hT.2.2.2.2.2.2.1.2.1) hS hown (htg _ k1816) (fun _ h9 => h9) dJ6_valueOf_2dffe_13 ?_
  refine lv_iload_n hx hb dJ6_valueOf_2dffe_16 rfl (lv_at hl 0 rfl) ?_
  refine lv_sipush (v := 128) hx hb dJ6_valueOf_2dffe_17 (by decide) ?_
  refine lv_iadd hx hb dJ6_valueOf_2dffe_20 ?_
  refine lv_topi (fun x_3 ex_3 => ?_)
  refine vb_tq hx hb (hT.2.2.2.2.2.2.1.2.2.1) hS (i := x_3) (cacheIn hdie ex_3) (v := .ref (g.2.2 (1000 + (x_3.toNatClampNeg)))) rfl dJ6_valueOf_2dffe_21 ?_
  have hP9 := hP.sub (ws' := []) [] rfl
  have hD9 := hD.sub (ws' := []) [] (by decide) rfl
  refine W.widen (k := 0) (n := 0) (Nat.le_of_ble_eq_true rfl) (Nat.le_of_ble_eq_true rfl) ?_
  exact W.aret (v := .ref (g.2.2 (1000 + (x_3.toNatClampNeg)))) hx hb hr (Or.inl ⟨_, rfl⟩) (Or.inr ⟨_, rfl⟩) (fun t ht hW => ⟨⟨some (g.2.2 (1000 + (x_3.toNatClampNeg))), [], rfl, ⟨(x_3.toNatClampNeg), cacheLt hdie ex_3, rfl, rfl⟩, by rw [ht]; exact hP9, va_K.moved hW.alike hK, hD9⟩, hS.F ht⟩) hS.2.2 dJ6_valueOf_2dffe_22
