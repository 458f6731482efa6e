def okAdd (a b c x y : Int32) : Prop := (0 ≤ a.toInt ∧ a.toInt ≤ 1) ∧ (1 ≤ b.toInt ∧ b.toInt ≤ 99) ∧ (0 ≤ c.toInt ∧ c.toInt ≤ 30) ∧ okCell x y
def okGr (x y c : Int32) : Prop := okCell x y ∧ okEnc c ∧ ¬ ixf c.toInt8.toInt32 [46, 35, 126] 0 < 0
def okDie (a : Int32) : Prop := 1 ≤ a.toInt ∧ a.toInt ≤ 20
def okStep (a b : Int32) : Prop := (-1 ≤ a.toInt ∧ a.toInt ≤ 1) ∧ (-1 ≤ b.toInt ∧ b.toInt ≤ 1) ∧ ¬ (a.toInt = 0 ∧ b.toInt = 0)
def okRdy (a b : Int32) : Prop := (a.toInt = 97 ∧ (b.toInt = 103 ∨ b.toInt = 115)) ∨ (a.toInt = 109 ∧ b.toInt = 115) ∨ (a.toInt = 99 ∧ (b.toInt = 120 ∨ b.toInt = 115))
def okCast (a x y : Int32) : Prop := (okEnc a ∧ ¬ ixf a.toInt8.toInt32 [98, 102, 104, 115] 0 < 0) ∧ (a = 115 ∨ okCell x y)
theorem k105 : (Jvm.Cond.methodLink "HeroTable$Table" (3 : Nat) ({ cls := "java/lang/Object", name := "<init>", desc := "()V" } : Jvm.MethodName)) ∈ G9 := g9 105 (by decide +kernel) rfl
theorem k106 : (Jvm.Cond.classLink "HeroTable$Table" (9 : Nat) "HeroTable$Hero") ∈ G9 := g9 106 (by decide +kernel) rfl
theorem k269 : (Jvm.Cond.laysFinal "HeroTable$Table" "HeroTable$Table" "heroes" "[LHeroTable$Hero;") ∈ G9 := g9 269 (by decide +kernel) rfl
theorem k271 : (Jvm.Cond.laysFinal "HeroTable$Table" "HeroTable$Table" "sources" "LHeroTable$Sources;") ∈ G9 := g9 271 (by decide +kernel) rfl
theorem k273 : (Jvm.Cond.laysFinal "HeroTable$Table" "HeroTable$Table" "ground" "LHeroTable$Ground;") ∈ G9 := g9 273 (by decide +kernel) rfl
theorem k275 : (Jvm.Cond.laysFinal "HeroTable$Table" "HeroTable$Table" "dice" "LHeroTable$Dice;") ∈ G9 := g9 275 (by decide +kernel) rfl
theorem k277 : (Jvm.Cond.lays "HeroTable$Table" "HeroTable$Table" "heroCount" "I") ∈ G9 := g9 277 (by decide +kernel) rfl
theorem k279 : (Jvm.Cond.laysFinal "HeroTable$Table" "HeroTable$Table" "order" "[I") ∈ G9 := g9 279 (by decide +kernel) rfl
theorem k281 : (Jvm.Cond.lays "HeroTable$Table" "HeroTable$Table" "turnAt" "I") ∈ G9 := g9 281 (by decide +kernel) rfl
theorem k283 : (Jvm.Cond.lays "HeroTable$Table" "HeroTable$Table" "roundNow" "I") ∈ G9 := g9 283 (by decide +kernel) rfl
theorem k285 : (Jvm.Cond.lays "HeroTable$Table" "HeroTable$Table" "stepsLeft" "I") ∈ G9 := g9 285 (by decide +kernel) rfl
theorem k287 : (Jvm.Cond.lays "HeroTable$Table" "HeroTable$Table" "hasAction" "Z") ∈ G9 := g9 287 (by decide +kernel) rfl
theorem k289 : (Jvm.Cond.lays "HeroTable$Table" "HeroTable$Table" "harmTaken" "J") ∈ G9 := g9 289 (by decide +kernel) rfl
theorem k291 : (Jvm.Cond.lays "HeroTable$Table" "HeroTable$Table" "rolledAttacks" "I") ∈ G9 := g9 291 (by decide +kernel) rfl
theorem k293 : (Jvm.Cond.lays "HeroTable$Table" "HeroTable$Table" "hits" "I") ∈ G9 := g9 293 (by decide +kernel) rfl
theorem inG_X5 : ∀ w ∈ u_ws RX5 TX5 13, w ∈ G9 := by
  intro w h
  have h : w ∈ [u_lay RX5 TX5 0, u_lay RX5 TX5 1, u_lay RX5 TX5 2, u_lay RX5 TX5 3, u_lay RX5 TX5 4, u_lay RX5 TX5 5, u_lay RX5 TX5 6, u_lay RX5 TX5 7, u_lay RX5 TX5 8, u_lay RX5 TX5 9, u_lay RX5 TX5 10, u_lay RX5 TX5 11, u_lay RX5 TX5 12] := h
  simp only [List.mem_cons, List.not_mem_nil, or_false] at h
  rcases h with rfl | rfl | rfl | rfl | rfl | rfl | rfl | rfl | rfl | rfl | rfl | rfl | rfl
  · exact k269
  · exact k271
  · exact k273
  · exact k275
  · exact k277
  · exact k279
  · exact k281
  · exact k283
  · exact k285
  · exact k287
  · exact k289
  · exact k291
  · exact k293
theorem k247 : (Jvm.Cond.fieldLink "HeroTable$Table" (11 : Nat) "HeroTable$Table" "heroes" "[LHeroTable$Hero;") ∈ G9 := g9 247 (by decide +kernel) rfl
theorem k108 : (Jvm.Cond.classLink "HeroTable$Table" (17 : Nat) "HeroTable$Sources") ∈ G9 := g9 108 (by decide +kernel) rfl
theorem k109 : (Jvm.Cond.instantiable "HeroTable$Sources" (3 : Nat)) ∈ G9 := g9 109 (by decide +kernel) rfl
theorem k52 : (Jvm.Cond.initialized "HeroTable$Sources") ∈ G9 := g9 52 (by decide +kernel) rfl
theorem k112 : (Jvm.Cond.code ({ cls := "HeroTable$Sources", name := "<init>", desc := "([LHeroTable$Hero;)V" } : Jvm.MethodName) prog_6_method_1_code (2 : Nat) (Option.none : Option Jvm.ClassFile.FieldType)) ∈ G9 := g9 112 (by decide +kernel) rfl
theorem k110 : (Jvm.Cond.methodLink "HeroTable$Table" (19 : Nat) ({ cls := "HeroTable$Sources", name := "<init>", desc := "([LHeroTable$Hero;)V" } : Jvm.MethodName)) ∈ G9 := g9 110 (by decide +kernel) rfl
theorem ok_X4_init : okN yX4_init 1 := by decide +kernel
theorem k111 : (Jvm.Cond.instanceMethod ({ cls := "HeroTable$Sources", name := "<init>", desc := "([LHeroTable$Hero;)V" } : Jvm.MethodName)) ∈ G9 := g9 111 (by decide +kernel) rfl
theorem k249 : (Jvm.Cond.fieldLink "HeroTable$Table" (22 : Nat) "HeroTable$Table" "sources" "LHeroTable$Sources;") ∈ G9 := g9 249 (by decide +kernel) rfl
theorem k128 : (Jvm.Cond.classLink "HeroTable$Table" (26 : Nat) "HeroTable$Ground") ∈ G9 := g9 128 (by decide +kernel) rfl
theorem k129 : (Jvm.Cond.instantiable "HeroTable$Ground" (1 : Nat)) ∈ G9 := g9 129 (by decide +kernel) rfl
theorem k132 : (Jvm.Cond.code ({ cls := "HeroTable$Ground", name := "<init>", desc := "()V" } : Jvm.MethodName) prog_3_method_1_code (1 : Nat) (Option.none : Option Jvm.ClassFile.FieldType)) ∈ G9 := g9 132 (by decide +kernel) rfl
theorem ok_X1_init : okN yX1_init 0 := by decide +kernel
theorem k131 : (Jvm.Cond.instanceMethod ({ cls := "HeroTable$Ground", name := "<init>", desc := "()V" } : Jvm.MethodName)) ∈ G9 := g9 131 (by decide +kernel) rfl
theorem k251 : (Jvm.Cond.fieldLink "HeroTable$Table" (29 : Nat) "HeroTable$Table" "ground" "LHeroTable$Ground;") ∈ G9 := g9 251 (by decide +kernel) rfl
theorem k139 : (Jvm.Cond.classLink "HeroTable$Table" (33 : Nat) "HeroTable$Dice") ∈ G9 := g9 139 (by decide +kernel) rfl
theorem k140 : (Jvm.Cond.instantiable "HeroTable$Dice" (3 : Nat)) ∈ G9 := g9 140 (by decide +kernel) rfl
theorem k54 : (Jvm.Cond.initialized "HeroTable$Dice") ∈ G9 := g9 54 (by decide +kernel) rfl
theorem k143 : (Jvm.Cond.code ({ cls := "HeroTable$Dice", name := "<init>", desc := "()V" } : Jvm.MethodName) prog_2_method_1_code (1 : Nat) (Option.none : Option Jvm.ClassFile.FieldType)) ∈ G9 := g9 143 (by decide +kernel) rfl
theorem ok_X0_init : okN yX0_init 0 := by decide +kernel
theorem k142 : (Jvm.Cond.instanceMethod ({ cls := "HeroTable$Dice", name := "<init>", desc := "()V" } : Jvm.MethodName)) ∈ G9 := g9 142 (by decide +kernel) rfl
theorem k252 : (Jvm.Cond.fieldLink "HeroTable$Table" (36 : Nat) "HeroTable$Table" "dice" "LHeroTable$Dice;") ∈ G9 := g9 252 (by decide +kernel) rfl
theorem k256 : (Jvm.Cond.fieldLink "HeroTable$Table" (40 : Nat) "HeroTable$Table" "order" "[I") ∈ G9 := g9 256 (by decide +kernel) rfl
theorem k157 : (Jvm.Cond.instantiable "HeroTable$Hero" (17 : Nat)) ∈ G9 := g9 157 (by decide +kernel) rfl
theorem k55 : (Jvm.Cond.initialized "HeroTable$Hero") ∈ G9 := g9 55 (by decide +kernel) rfl
theorem k160 : (Jvm.Cond.code ({ cls := "HeroTable$Hero", name := "<init>", desc := "()V" } : Jvm.MethodName) prog_4_method_1_code (1 : Nat) (Option.none : Option Jvm.ClassFile.FieldType)) ∈ G9 := g9 160 (by decide +kernel) rfl
theorem ok_X2_init : okN yX2_init 0 := by decide +kernel
theorem k159 : (Jvm.Cond.instanceMethod ({ cls := "HeroTable$Hero", name := "<init>", desc := "()V" } : Jvm.MethodName)) ∈ G9 := g9 159 (by decide +kernel) rfl
theorem k246 : (Jvm.Cond.code ({ cls := "HeroTable$Ground", name := "level", desc := "()V" } : Jvm.MethodName) prog_3_method_4_code (2 : Nat) (Option.none : Option Jvm.ClassFile.FieldType)) ∈ G9 := g9 246 (by decide +kernel) rfl
theorem k243 : (Jvm.Cond.methodLink "HeroTable$Table" (45 : Nat) ({ cls := "HeroTable$Ground", name := "level", desc := "()V" } : Jvm.MethodName)) ∈ G9 := g9 243 (by decide +kernel) rfl
theorem ok_X1_level : okN yX1_level 0 := by decide +kernel
theorem k244 : (Jvm.Cond.instanceMethod ({ cls := "HeroTable$Ground", name := "level", desc := "()V" } : Jvm.MethodName)) ∈ G9 := g9 244 (by decide +kernel) rfl
theorem k245 : (Jvm.Cond.selects "HeroTable$Ground" ({ cls := "HeroTable$Ground", name := "level", desc := "()V" } : Jvm.MethodName) ({ cls := "HeroTable$Ground", name := "level", desc := "()V" } : Jvm.MethodName)) ∈ G9 := g9 245 (by decide +kernel) rfl
theorem k257 : (Jvm.Cond.fieldLink "HeroTable$Table" (48 : Nat) "HeroTable$Table" "turnAt" "I") ∈ G9 := g9 257 (by decide +kernel) rfl
theorem k254 : (Jvm.Cond.fieldLink "HeroTable$Table" (52 : Nat) "HeroTable$Table" "heroCount" "I") ∈ G9 := g9 254 (by decide +kernel) rfl
theorem k384 : (Jvm.Cond.code ({ cls := "HeroTable$Sources", name := "clear", desc := "()V" } : Jvm.MethodName) prog_6_method_2_code (1 : Nat) (Option.none : Option Jvm.ClassFile.FieldType)) ∈ G9 := g9 384 (by decide +kernel) rfl
theorem k381 : (Jvm.Cond.methodLink "HeroTable$Table" (55 : Nat) ({ cls := "HeroTable$Sources", name := "clear", desc := "()V" } : Jvm.MethodName)) ∈ G9 := g9 381 (by decide +kernel) rfl
theorem ok_X4_clear : okN yX4_clear 0 := by decide +kernel
theorem k382 : (Jvm.Cond.instanceMethod ({ cls := "HeroTable$Sources", name := "clear", desc := "()V" } : Jvm.MethodName)) ∈ G9 := g9 382 (by decide +kernel) rfl
theorem k383 : (Jvm.Cond.selects "HeroTable$Sources" ({ cls := "HeroTable$Sources", name := "clear", desc := "()V" } : Jvm.MethodName) ({ cls := "HeroTable$Sources", name := "clear", desc := "()V" } : Jvm.MethodName)) ∈ G9 := g9 383 (by decide +kernel) rfl
theorem k388 : (Jvm.Cond.code ({ cls := "HeroTable$Dice", name := "clear", desc := "()V" } : Jvm.MethodName) prog_2_method_2_code (1 : Nat) (Option.none : Option Jvm.ClassFile.FieldType)) ∈ G9 := g9 388 (by decide +kernel) rfl
theorem k385 : (Jvm.Cond.methodLink "HeroTable$Table" (58 : Nat) ({ cls := "HeroTable$Dice", name := "clear", desc := "()V" } : Jvm.MethodName)) ∈ G9 := g9 385 (by decide +kernel) rfl
theorem ok_X0_clear : okN yX0_clear 0 := by decide +kernel
theorem k386 : (Jvm.Cond.instanceMethod ({ cls := "HeroTable$Dice", name := "clear", desc := "()V" } : Jvm.MethodName)) ∈ G9 := g9 386 (by decide +kernel) rfl
theorem k387 : (Jvm.Cond.selects "HeroTable$Dice" ({ cls := "HeroTable$Dice", name := "clear", desc := "()V" } : Jvm.MethodName) ({ cls := "HeroTable$Dice", name := "clear", desc := "()V" } : Jvm.MethodName)) ∈ G9 := g9 387 (by decide +kernel) rfl
theorem k258 : (Jvm.Cond.fieldLink "HeroTable$Table" (59 : Nat) "HeroTable$Table" "roundNow" "I") ∈ G9 := g9 258 (by decide +kernel) rfl
theorem k260 : (Jvm.Cond.fieldLink "HeroTable$Table" (62 : Nat) "HeroTable$Table" "stepsLeft" "I") ∈ G9 := g9 260 (by decide +kernel) rfl
theorem k262 : (Jvm.Cond.fieldLink "HeroTable$Table" (65 : Nat) "HeroTable$Table" "hasAction" "Z") ∈ G9 := g9 262 (by decide +kernel) rfl
theorem k263 : (Jvm.Cond.fieldLink "HeroTable$Table" (69 : Nat) "HeroTable$Table" "harmTaken" "J") ∈ G9 := g9 263 (by decide +kernel) rfl
theorem k265 : (Jvm.Cond.fieldLink "HeroTable$Table" (73 : Nat) "HeroTable$Table" "rolledAttacks" "I") ∈ G9 := g9 265 (by decide +kernel) rfl
theorem k267 : (Jvm.Cond.fieldLink "HeroTable$Table" (76 : Nat) "HeroTable$Table" "hits" "I") ∈ G9 := g9 267 (by decide +kernel) rfl
theorem k396 : (Jvm.Cond.constant "HeroTable$Table" (83 : Nat) (-1000002 : Int32)) ∈ G9 := g9 396 (by decide +kernel) rfl
theorem k393 : (Jvm.Cond.methodLink "HeroTable$Table" (79 : Nat) ({ cls := "HeroTable$Ground", name := "isCell", desc := "(II)Z" } : Jvm.MethodName)) ∈ G9 := g9 393 (by decide +kernel) rfl
theorem k400 : (Jvm.Cond.code ({ cls := "HeroTable$Table", name := "isTurnOn", desc := "()Z" } : Jvm.MethodName) prog_7_method_19_code (1 : Nat) (Option.some Jvm.ClassFile.FieldType.boolean)) ∈ G9 := g9 400 (by decide +kernel) rfl
theorem k51 : (Jvm.Cond.initialized "HeroTable$Table") ∈ G9 := g9 51 (by decide +kernel) rfl
theorem k397 : (Jvm.Cond.methodLink "HeroTable$Table" (84 : Nat) ({ cls := "HeroTable$Table", name := "isTurnOn", desc := "()Z" } : Jvm.MethodName)) ∈ G9 := g9 397 (by decide +kernel) rfl
theorem ok_X5_isTurnOn : okN yX5_isTurnOn 0 := by decide +kernel
theorem k398 : (Jvm.Cond.instanceMethod ({ cls := "HeroTable$Table", name := "isTurnOn", desc := "()Z" } : Jvm.MethodName)) ∈ G9 := g9 398 (by decide +kernel) rfl
theorem k399 : (Jvm.Cond.selects "HeroTable$Table" ({ cls := "HeroTable$Table", name := "isTurnOn", desc := "()Z" } : Jvm.MethodName) ({ cls := "HeroTable$Table", name := "isTurnOn", desc := "()Z" } : Jvm.MethodName)) ∈ G9 := g9 399 (by decide +kernel) rfl
theorem k405 : (Jvm.Cond.code ({ cls := "HeroTable$Ground", name := "at", desc := "(II)C" } : Jvm.MethodName) prog_3_method_5_code (3 : Nat) (Option.some Jvm.ClassFile.FieldType.char)) ∈ G9 := g9 405 (by decide +kernel) rfl
theorem k402 : (Jvm.Cond.methodLink "HeroTable$Table" (89 : Nat) ({ cls := "HeroTable$Ground", name := "at", desc := "(II)C" } : Jvm.MethodName)) ∈ G9 := g9 402 (by decide +kernel) rfl
theorem ok_X1_at : okN yX1_at 2 := by decide +kernel
theorem k403 : (Jvm.Cond.instanceMethod ({ cls := "HeroTable$Ground", name := "at", desc := "(II)C" } : Jvm.MethodName)) ∈ G9 := g9 403 (by decide +kernel) rfl
theorem k404 : (Jvm.Cond.selects "HeroTable$Ground" ({ cls := "HeroTable$Ground", name := "at", desc := "(II)C" } : Jvm.MethodName) ({ cls := "HeroTable$Ground", name := "at", desc := "(II)C" } : Jvm.MethodName)) ∈ G9 := g9 404 (by decide +kernel) rfl
theorem k372 : (Jvm.Cond.code ({ cls := "HeroTable$Table", name := "heroAt", desc := "(II)I" } : Jvm.MethodName) prog_7_method_5_code (4 : Nat) (Option.some Jvm.ClassFile.FieldType.int)) ∈ G9 := g9 372 (by decide +kernel) rfl
theorem k369 : (Jvm.Cond.methodLink "HeroTable$Table" (93 : Nat) ({ cls := "HeroTable$Table", name := "heroAt", desc := "(II)I" } : Jvm.MethodName)) ∈ G9 := g9 369 (by decide +kernel) rfl
theorem ok_X5_heroAt : okN yX5_heroAt 2 := by decide +kernel
theorem k371 : (Jvm.Cond.instanceMethod ({ cls := "HeroTable$Table", name := "heroAt", desc := "(II)I" } : Jvm.MethodName)) ∈ G9 := g9 371 (by decide +kernel) rfl
theorem k0 : (Jvm.Cond.selects "HeroTable$Table" ({ cls := "HeroTable$Table", name := "heroAt", desc := "(II)I" } : Jvm.MethodName) ({ cls := "HeroTable$Table", name := "heroAt", desc := "(II)I" } : Jvm.MethodName)) ∈ G9 := g9 0 (by decide +kernel) rfl
theorem k411 : (Jvm.Cond.code ({ cls := "HeroTable$Hero", name := "start", desc := "(IIIII)V" } : Jvm.MethodName) prog_4_method_2_code (7 : Nat) (Option.none : Option Jvm.ClassFile.FieldType)) ∈ G9 := g9 411 (by decide +kernel) rfl
theorem k408 : (Jvm.Cond.methodLink "HeroTable$Table" (98 : Nat) ({ cls := "HeroTable$Hero", name := "start", desc := "(IIIII)V" } : Jvm.MethodName)) ∈ G9 := g9 408 (by decide +kernel) rfl
theorem ok_X2_start : okN yX2_start 5 := by decide +kernel
theorem k409 : (Jvm.Cond.instanceMethod ({ cls := "HeroTable$Hero", name := "start", desc := "(IIIII)V" } : Jvm.MethodName)) ∈ G9 := g9 409 (by decide +kernel) rfl
theorem k410 : (Jvm.Cond.selects "HeroTable$Hero" ({ cls := "HeroTable$Hero", name := "start", desc := "(IIIII)V" } : Jvm.MethodName) ({ cls := "HeroTable$Hero", name := "start", desc := "(IIIII)V" } : Jvm.MethodName)) ∈ G9 := g9 410 (by decide +kernel) rfl
theorem k428 : (Jvm.Cond.code ({ cls := "java/lang/String", name := "indexOf", desc := "(I)I" } : Jvm.MethodName) prog_33_method_79_code (2 : Nat) (Option.some Jvm.ClassFile.FieldType.int)) ∈ G9 := g9 428 (by decide +kernel) rfl
theorem k425 : (Jvm.Cond.methodLink "HeroTable$Table" (110 : Nat) ({ cls := "java/lang/String", name := "indexOf", desc := "(I)I" } : Jvm.MethodName)) ∈ G9 := g9 425 (by decide +kernel) rfl
theorem ok_J0_indexOf_0f7a4 : okN yJ0_indexOf_0f7a4 1 := by decide +kernel
theorem k426 : (Jvm.Cond.instanceMethod ({ cls := "java/lang/String", name := "indexOf", desc := "(I)I" } : Jvm.MethodName)) ∈ G9 := g9 426 (by decide +kernel) rfl
theorem k427 : (Jvm.Cond.selects "java/lang/String" ({ cls := "java/lang/String", name := "indexOf", desc := "(I)I" } : Jvm.MethodName) ({ cls := "java/lang/String", name := "indexOf", desc := "(I)I" } : Jvm.MethodName)) ∈ G9 := g9 427 (by decide +kernel) rfl
theorem k514 : (Jvm.Cond.code ({ cls := "HeroTable$Ground", name := "lay", desc := "(IIC)V" } : Jvm.MethodName) prog_3_method_6_code (4 : Nat) (Option.none : Option Jvm.ClassFile.FieldType)) ∈ G9 := g9 514 (by decide +kernel) rfl
theorem k511 : (Jvm.Cond.methodLink "HeroTable$Table" (116 : Nat) ({ cls := "HeroTable$Ground", name := "lay", desc := "(IIC)V" } : Jvm.MethodName)) ∈ G9 := g9 511 (by decide +kernel) rfl
theorem ok_X1_lay : okN yX1_lay 3 := by decide +kernel
theorem k512 : (Jvm.Cond.instanceMethod ({ cls := "HeroTable$Ground", name := "lay", desc := "(IIC)V" } : Jvm.MethodName)) ∈ G9 := g9 512 (by decide +kernel) rfl
theorem k513 : (Jvm.Cond.selects "HeroTable$Ground" ({ cls := "HeroTable$Ground", name := "lay", desc := "(IIC)V" } : Jvm.MethodName) ({ cls := "HeroTable$Ground", name := "lay", desc := "(IIC)V" } : Jvm.MethodName)) ∈ G9 := g9 513 (by decide +kernel) rfl
theorem k522 : (Jvm.Cond.code ({ cls := "HeroTable$Table", name := "isHero", desc := "(I)Z" } : Jvm.MethodName) prog_7_method_3_code (2 : Nat) (Option.some Jvm.ClassFile.FieldType.boolean)) ∈ G9 := g9 522 (by decide +kernel) rfl
theorem k519 : (Jvm.Cond.methodLink "HeroTable$Table" (120 : Nat) ({ cls := "HeroTable$Table", name := "isHero", desc := "(I)Z" } : Jvm.MethodName)) ∈ G9 := g9 519 (by decide +kernel) rfl
theorem ok_X5_isHero : okN yX5_isHero 1 := by decide +kernel
theorem k520 : (Jvm.Cond.instanceMethod ({ cls := "HeroTable$Table", name := "isHero", desc := "(I)Z" } : Jvm.MethodName)) ∈ G9 := g9 520 (by decide +kernel) rfl
theorem k521 : (Jvm.Cond.selects "HeroTable$Table" ({ cls := "HeroTable$Table", name := "isHero", desc := "(I)Z" } : Jvm.MethodName) ({ cls := "HeroTable$Table", name := "isHero", desc := "(I)Z" } : Jvm.MethodName)) ∈ G9 := g9 521 (by decide +kernel) rfl
theorem k523 : (Jvm.Cond.constant "HeroTable$Table" (124 : Nat) (-1000001 : Int32)) ∈ G9 := g9 523 (by decide +kernel) rfl
theorem k609 : (Jvm.Cond.code ({ cls := "HeroTable$Sources", name := "isSource", desc := "(I)Z" } : Jvm.MethodName) prog_6_method_3_code (2 : Nat) (Option.some Jvm.ClassFile.FieldType.boolean)) ∈ G9 := g9 609 (by decide +kernel) rfl
theorem k606 : (Jvm.Cond.methodLink "HeroTable$Table" (181 : Nat) ({ cls := "HeroTable$Sources", name := "isSource", desc := "(I)Z" } : Jvm.MethodName)) ∈ G9 := g9 606 (by decide +kernel) rfl
theorem ok_X4_isSource : okN yX4_isSource 1 := by decide +kernel
theorem k607 : (Jvm.Cond.instanceMethod ({ cls := "HeroTable$Sources", name := "isSource", desc := "(I)Z" } : Jvm.MethodName)) ∈ G9 := g9 607 (by decide +kernel) rfl
theorem k608 : (Jvm.Cond.selects "HeroTable$Sources" ({ cls := "HeroTable$Sources", name := "isSource", desc := "(I)Z" } : Jvm.MethodName) ({ cls := "HeroTable$Sources", name := "isSource", desc := "(I)Z" } : Jvm.MethodName)) ∈ G9 := g9 608 (by decide +kernel) rfl
theorem k622 : (Jvm.Cond.code ({ cls := "HeroTable$Dice", name := "hear", desc := "(I)V" } : Jvm.MethodName) prog_2_method_3_code (2 : Nat) (Option.none : Option Jvm.ClassFile.FieldType)) ∈ G9 := g9 622 (by decide +kernel) rfl
theorem k619 : (Jvm.Cond.methodLink "HeroTable$Table" (190 : Nat) ({ cls := "HeroTable$Dice", name := "hear", desc := "(I)V" } : Jvm.MethodName)) ∈ G9 := g9 619 (by decide +kernel) rfl
theorem ok_X0_hear : okN yX0_hear 1 := by decide +kernel
theorem k620 : (Jvm.Cond.instanceMethod ({ cls := "HeroTable$Dice", name := "hear", desc := "(I)V" } : Jvm.MethodName)) ∈ G9 := g9 620 (by decide +kernel) rfl
theorem k621 : (Jvm.Cond.selects "HeroTable$Dice" ({ cls := "HeroTable$Dice", name := "hear", desc := "(I)V" } : Jvm.MethodName) ({ cls := "HeroTable$Dice", name := "hear", desc := "(I)V" } : Jvm.MethodName)) ∈ G9 := g9 621 (by decide +kernel) rfl
theorem k331 : (Jvm.Cond.code ({ cls := "HeroTable$Dice", name := "left", desc := "()I" } : Jvm.MethodName) prog_2_method_4_code (1 : Nat) (Option.some Jvm.ClassFile.FieldType.int)) ∈ G9 := g9 331 (by decide +kernel) rfl
theorem k635 : (Jvm.Cond.methodLink "HeroTable$Table" (193 : Nat) ({ cls := "HeroTable$Dice", name := "left", desc := "()I" } : Jvm.MethodName)) ∈ G9 := g9 635 (by decide +kernel) rfl
theorem ok_X0_left : okN yX0_left 0 := by decide +kernel
theorem k329 : (Jvm.Cond.instanceMethod ({ cls := "HeroTable$Dice", name := "left", desc := "()I" } : Jvm.MethodName)) ∈ G9 := g9 329 (by decide +kernel) rfl
theorem k330 : (Jvm.Cond.selects "HeroTable$Dice" ({ cls := "HeroTable$Dice", name := "left", desc := "()I" } : Jvm.MethodName) ({ cls := "HeroTable$Dice", name := "left", desc := "()I" } : Jvm.MethodName)) ∈ G9 := g9 330 (by decide +kernel) rfl
theorem k640 : (Jvm.Cond.constant "HeroTable$Table" (203 : Nat) (-1000005 : Int32)) ∈ G9 := g9 640 (by decide +kernel) rfl
theorem k401 : (Jvm.Cond.constant "HeroTable$Table" (88 : Nat) (-1000003 : Int32)) ∈ G9 := g9 401 (by decide +kernel) rfl
theorem dX5_init_0 : decode cX5_init 0 = .ok (.aload_n 0, 1) := by decide +kernel
theorem dX5_init_1 : decode cX5_init 1 = .ok (.invokespecial 3, 3) := by decide +kernel
theorem dX5_init_4 : decode cX5_init 4 = .ok (.aload_n 0, 1) := by decide +kernel
theorem dX5_init_5 : decode cX5_init 5 = .ok (.bipush 6, 2) := by decide +kernel
theorem dX5_init_7 : decode cX5_init 7 = .ok (.anewarray 9, 3) := by decide +kernel
theorem dX5_init_10 : decode cX5_init 10 = .ok (.putfield 11, 3) := by decide +kernel
theorem dX5_init_13 : decode cX5_init 13 = .ok (.aload_n 0, 1) := by decide +kernel
theorem dX5_init_14 : decode cX5_init 14 = .ok (.new 17, 3) := by decide +kernel
theorem dX5_init_17 : decode cX5_init 17 = .ok (.dup, 1) := by decide +kernel
theorem dX5_init_18 : decode cX5_init 18 = .ok (.aload_n 0, 1) := by decide +kernel
theorem dX5_init_19 : decode cX5_init 19 = .ok (.getfield 11, 3) := by decide +kernel
theorem dX5_init_22 : decode cX5_init 22 = .ok (.invokespecial 19, 3) := by decide +kernel
theorem dX5_init_25 : decode cX5_init 25 = .ok (.putfield 22, 3) := by decide +kernel
theorem dX5_init_28 : decode cX5_init 28 = .ok (.aload_n 0, 1) := by decide +kernel
theorem dX5_init_29 : decode cX5_init 29 = .ok (.new 26, 3) := by decide +kernel
theorem dX5_init_32 : decode cX5_init 32 = .ok (.dup, 1) := by decide +kernel
theorem dX5_init_33 : decode cX5_init 33 = .ok (.invokespecial 28, 3) := by decide +kernel
theorem dX5_init_36 : decode cX5_init 36 = .ok (.putfield 29, 3) := by decide +kernel
theorem dX5_init_39 : decode cX5_init 39 = .ok (.aload_n 0, 1) := by decide +kernel
theorem dX5_init_40 : decode cX5_init 40 = .ok (.new 33, 3) := by decide +kernel
theorem dX5_init_43 : decode cX5_init 43 = .ok (.dup, 1) := by decide +kernel
theorem dX5_init_44 : decode cX5_init 44 = .ok (.invokespecial 35, 3) := by decide +kernel
theorem dX5_init_47 : decode cX5_init 47 = .ok (.putfield 36, 3) := by decide +kernel
theorem dX5_init_50 : decode cX5_init 50 = .ok (.aload_n 0, 1) := by decide +kernel
theorem dX5_init_51 : decode cX5_init 51 = .ok (.bipush 6, 2) := by decide +kernel
theorem dX5_init_53 : decode cX5_init 53 = .ok (.newarray .int, 2) := by decide +kernel
theorem dX5_init_55 : decode cX5_init 55 = .ok (.putfield 40, 3) := by decide +kernel
theorem dX5_init_58 : decode cX5_init 58 = .ok (.iconst 0, 1) := by decide +kernel
theorem dX5_init_59 : decode cX5_init 59 = .ok (.istore_n 1, 1) := by decide +kernel
theorem dX5_init_60 : decode cX5_init 60 = .ok (.iload_n 1, 1) := by decide +kernel
theorem dX5_init_61 : decode cX5_init 61 = .ok (.bipush 6, 2) := by decide +kernel
theorem dX5_init_63 : decode cX5_init 63 = .ok (.if_icmp .ge 22, 3) := by decide +kernel
theorem dX5_init_66 : decode cX5_init 66 = .ok (.aload_n 0, 1) := by decide +kernel
theorem dX5_init_67 : decode cX5_init 67 = .ok (.getfield 11, 3) := by decide +kernel
theorem dX5_init_70 : decode cX5_init 70 = .ok (.iload_n 1, 1) := by decide +kernel
theorem dX5_init_71 : decode cX5_init 71 = .ok (.new 9, 3) := by decide +kernel
theorem dX5_init_74 : decode cX5_init 74 = .ok (.dup, 1) := by decide +kernel
theorem dX5_init_75 : decode cX5_init 75 = .ok (.invokespecial 44, 3) := by decide +kernel
theorem dX5_init_78 : decode cX5_init 78 = .ok (.aastore, 1) := by decide +kernel
theorem dX5_init_79 : decode cX5_init 79 = .ok (.iinc 1 1, 3) := by decide +kernel
theorem dX5_init_82 : decode cX5_init 82 = .ok (.goto (-22), 3) := by decide +kernel
theorem dX5_init_85 : decode cX5_init 85 = .ok (.aload_n 0, 1) := by decide +kernel
theorem dX5_init_86 : decode cX5_init 86 = .ok (.getfield 29, 3) := by decide +kernel
theorem dX5_init_89 : decode cX5_init 89 = .ok (.invokevirtual 45, 3) := by decide +kernel
theorem dX5_init_92 : decode cX5_init 92 = .ok (.aload_n 0, 1) := by decide +kernel
theorem dX5_init_93 : decode cX5_init 93 = .ok (.iconst (-1), 1) := by decide +kernel
theorem dX5_init_94 : decode cX5_init 94 = .ok (.putfield 48, 3) := by decide +kernel
theorem dX5_init_97 : decode cX5_init 97 = .ok (.return_, 1) := by decide +kernel
theorem dX5_clear_0 : decode cX5_clear 0 = .ok (.aload_n 0, 1) := by decide +kernel
theorem dX5_clear_1 : decode cX5_clear 1 = .ok (.iconst 0, 1) := by decide +kernel
theorem dX5_clear_2 : decode cX5_clear 2 = .ok (.putfield 52, 3) := by decide +kernel
theorem dX5_clear_5 : decode cX5_clear 5 = .ok (.aload_n 0, 1) := by decide +kernel
theorem dX5_clear_6 : decode cX5_clear 6 = .ok (.getfield 22, 3) := by decide +kernel
theorem dX5_clear_9 : decode cX5_clear 9 = .ok (.invokevirtual 55, 3) := by decide +kernel
theorem dX5_clear_12 : decode cX5_clear 12 = .ok (.aload_n 0, 1) := by decide +kernel
theorem dX5_clear_13 : decode cX5_clear 13 = .ok (.getfield 29, 3) := by decide +kernel
theorem dX5_clear_16 : decode cX5_clear 16 = .ok (.invokevirtual 45, 3) := by decide +kernel
theorem dX5_clear_19 : decode cX5_clear 19 = .ok (.aload_n 0, 1) := by decide +kernel
theorem dX5_clear_20 : decode cX5_clear 20 = .ok (.getfield 36, 3) := by decide +kernel
theorem dX5_clear_23 : decode cX5_clear 23 = .ok (.invokevirtual 58, 3) := by decide +kernel
theorem dX5_clear_26 : decode cX5_clear 26 = .ok (.aload_n 0, 1) := by decide +kernel
theorem dX5_clear_27 : decode cX5_clear 27 = .ok (.iconst (-1), 1) := by decide +kernel
theorem dX5_clear_28 : decode cX5_clear 28 = .ok (.putfield 48, 3) := by decide +kernel
theorem dX5_clear_31 : decode cX5_clear 31 = .ok (.aload_n 0, 1) := by decide +kernel
theorem dX5_clear_32 : decode cX5_clear 32 = .ok (.iconst 0, 1) := by decide +kernel
theorem dX5_clear_33 : decode cX5_clear 33 = .ok (.putfield 59, 3) := by decide +kernel
theorem dX5_clear_36 : decode cX5_clear 36 = .ok (.aload_n 0, 1) := by decide +kernel
theorem dX5_clear_37 : decode cX5_clear 37 = .ok (.iconst 0, 1) := by decide +kernel
theorem dX5_clear_38 : decode cX5_clear 38 = .ok (.putfield 62, 3) := by decide +kernel
theorem dX5_clear_41 : decode cX5_clear 41 = .ok (.aload_n 0, 1) := by decide +kernel
theorem dX5_clear_42 : decode cX5_clear 42 = .ok (.iconst 0, 1) := by decide +kernel
theorem dX5_clear_43 : decode cX5_clear 43 = .ok (.putfield 65, 3) := by decide +kernel
theorem dX5_clear_46 : decode cX5_clear 46 = .ok (.aload_n 0, 1) := by decide +kernel
theorem dX5_clear_47 : decode cX5_clear 47 = .ok (.lconst 0, 1) := by decide +kernel
theorem dX5_clear_48 : decode cX5_clear 48 = .ok (.putfield 69, 3) := by decide +kernel
theorem dX5_clear_51 : decode cX5_clear 51 = .ok (.aload_n 0, 1) := by decide +kernel
theorem dX5_clear_52 : decode cX5_clear 52 = .ok (.iconst 0, 1) := by decide +kernel
theorem dX5_clear_53 : decode cX5_clear 53 = .ok (.putfield 73, 3) := by decide +kernel
theorem dX5_clear_56 : decode cX5_clear 56 = .ok (.aload_n 0, 1) := by decide +kernel
theorem dX5_clear_57 : decode cX5_clear 57 = .ok (.iconst 0, 1) := by decide +kernel
theorem dX5_clear_58 : decode cX5_clear 58 = .ok (.putfield 76, 3) := by decide +kernel
theorem dX5_clear_61 : decode cX5_clear 61 = .ok (.return_, 1) := by decide +kernel
theorem dX5_isHero_0 : decode cX5_isHero 0 = .ok (.iload_n 1, 1) := by decide +kernel
theorem dX5_isHero_1 : decode cX5_isHero 1 = .ok (.ifCond .lt 15, 3) := by decide +kernel
theorem dX5_isHero_4 : decode cX5_isHero 4 = .ok (.iload_n 1, 1) := by decide +kernel
theorem dX5_isHero_5 : decode cX5_isHero 5 = .ok (.aload_n 0, 1) := by decide +kernel
theorem dX5_isHero_6 : decode cX5_isHero 6 = .ok (.getfield 52, 3) := by decide +kernel
theorem dX5_isHero_9 : decode cX5_isHero 9 = .ok (.if_icmp .ge 7, 3) := by decide +kernel
theorem dX5_isHero_16 : decode cX5_isHero 16 = .ok (.iconst 0, 1) := by decide +kernel
theorem dX5_isHero_17 : decode cX5_isHero 17 = .ok (.ireturn, 1) := by decide +kernel
theorem dX5_isTurnOn_0 : decode cX5_isTurnOn 0 = .ok (.aload_n 0, 1) := by decide +kernel
theorem dX5_isTurnOn_1 : decode cX5_isTurnOn 1 = .ok (.getfield 48, 3) := by decide +kernel
theorem dX5_isTurnOn_4 : decode cX5_isTurnOn 4 = .ok (.iconst (-1), 1) := by decide +kernel
theorem dX5_isTurnOn_5 : decode cX5_isTurnOn 5 = .ok (.if_icmp .eq 7, 3) := by decide +kernel
theorem dX5_isTurnOn_12 : decode cX5_isTurnOn 12 = .ok (.iconst 0, 1) := by decide +kernel
theorem dX5_isTurnOn_13 : decode cX5_isTurnOn 13 = .ok (.ireturn, 1) := by decide +kernel
theorem dX5_heroAt_0 : decode cX5_heroAt 0 = .ok (.iconst 0, 1) := by decide +kernel
theorem dX5_heroAt_1 : decode cX5_heroAt 1 = .ok (.istore_n 3, 1) := by decide +kernel
theorem dX5_heroAt_2 : decode cX5_heroAt 2 = .ok (.iload_n 3, 1) := by decide +kernel
theorem dX5_heroAt_3 : decode cX5_heroAt 3 = .ok (.aload_n 0, 1) := by decide +kernel
theorem dX5_heroAt_4 : decode cX5_heroAt 4 = .ok (.getfield 52, 3) := by decide +kernel
theorem dX5_heroAt_7 : decode cX5_heroAt 7 = .ok (.if_icmp .ge 37, 3) := by decide +kernel
theorem dX5_heroAt_44 : decode cX5_heroAt 44 = .ok (.iconst (-1), 1) := by decide +kernel
theorem dX5_heroAt_45 : decode cX5_heroAt 45 = .ok (.ireturn, 1) := by decide +kernel
theorem dX5_enrol_0 : decode cX5_enrol 0 = .ok (.iload_n 1, 1) := by decide +kernel
theorem dX5_enrol_1 : decode cX5_enrol 1 = .ok (.ifCond .lt 39, 3) := by decide +kernel
theorem dX5_enrol_4 : decode cX5_enrol 4 = .ok (.iload_n 1, 1) := by decide +kernel
theorem dX5_enrol_5 : decode cX5_enrol 5 = .ok (.iconst 1, 1) := by decide +kernel
theorem dX5_enrol_6 : decode cX5_enrol 6 = .ok (.if_icmp .gt 34, 3) := by decide +kernel
theorem dX5_enrol_9 : decode cX5_enrol 9 = .ok (.iload_n 2, 1) := by decide +kernel
theorem dX5_enrol_10 : decode cX5_enrol 10 = .ok (.iconst 1, 1) := by decide +kernel
theorem dX5_enrol_11 : decode cX5_enrol 11 = .ok (.if_icmp .lt 29, 3) := by decide +kernel
theorem dX5_enrol_14 : decode cX5_enrol 14 = .ok (.iload_n 2, 1) := by decide +kernel
theorem dX5_enrol_15 : decode cX5_enrol 15 = .ok (.bipush 99, 2) := by decide +kernel
theorem dX5_enrol_17 : decode cX5_enrol 17 = .ok (.if_icmp .gt 23, 3) := by decide +kernel
theorem dX5_enrol_20 : decode cX5_enrol 20 = .ok (.iload_n 3, 1) := by decide +kernel
theorem dX5_enrol_21 : decode cX5_enrol 21 = .ok (.ifCond .lt 19, 3) := by decide +kernel
theorem dX5_enrol_24 : decode cX5_enrol 24 = .ok (.iload_n 3, 1) := by decide +kernel
theorem dX5_enrol_25 : decode cX5_enrol 25 = .ok (.bipush 30, 2) := by decide +kernel
theorem dX5_enrol_27 : decode cX5_enrol 27 = .ok (.if_icmp .gt 13, 3) := by decide +kernel
theorem dX5_enrol_30 : decode cX5_enrol 30 = .ok (.iload 4, 2) := by decide +kernel
theorem dX5_enrol_32 : decode cX5_enrol 32 = .ok (.iload 5, 2) := by decide +kernel
theorem dX5_enrol_34 : decode cX5_enrol 34 = .ok (.invokestatic 79, 3) := by decide +kernel
theorem dX5_enrol_37 : decode cX5_enrol 37 = .ok (.ifCond .ne 6, 3) := by decide +kernel
theorem dX5_enrol_40 : decode cX5_enrol 40 = .ok (.ldc 83, 2) := by decide +kernel
theorem dX5_enrol_42 : decode cX5_enrol 42 = .ok (.ireturn, 1) := by decide +kernel
theorem dX5_enrol_43 : decode cX5_enrol 43 = .ok (.aload_n 0, 1) := by decide +kernel
theorem dX5_enrol_44 : decode cX5_enrol 44 = .ok (.getfield 52, 3) := by decide +kernel
theorem dX5_enrol_47 : decode cX5_enrol 47 = .ok (.bipush 6, 2) := by decide +kernel
theorem dX5_enrol_49 : decode cX5_enrol 49 = .ok (.if_icmp .ge 10, 3) := by decide +kernel
theorem dX5_enrol_52 : decode cX5_enrol 52 = .ok (.aload_n 0, 1) := by decide +kernel
theorem dX5_enrol_53 : decode cX5_enrol 53 = .ok (.invokevirtual 84, 3) := by decide +kernel
theorem dX5_enrol_56 : decode cX5_enrol 56 = .ok (.ifCond .eq 6, 3) := by decide +kernel
theorem dX5_enrol_62 : decode cX5_enrol 62 = .ok (.aload_n 0, 1) := by decide +kernel
theorem dX5_enrol_63 : decode cX5_enrol 63 = .ok (.getfield 29, 3) := by decide +kernel
theorem dX5_enrol_66 : decode cX5_enrol 66 = .ok (.iload 4, 2) := by decide +kernel
theorem dX5_enrol_68 : decode cX5_enrol 68 = .ok (.iload 5, 2) := by decide +kernel
theorem dX5_enrol_70 : decode cX5_enrol 70 = .ok (.invokevirtual 89, 3) := by decide +kernel
theorem dX5_enrol_73 : decode cX5_enrol 73 = .ok (.bipush 35, 2) := by decide +kernel
theorem dX5_enrol_75 : decode cX5_enrol 75 = .ok (.if_icmp .eq 15, 3) := by decide +kernel
theorem dX5_enrol_78 : decode cX5_enrol 78 = .ok (.aload_n 0, 1) := by decide +kernel
theorem dX5_enrol_79 : decode cX5_enrol 79 = .ok (.iload 4, 2) := by decide +kernel
theorem dX5_enrol_81 : decode cX5_enrol 81 = .ok (.iload 5, 2) := by decide +kernel
theorem dX5_enrol_83 : decode cX5_enrol 83 = .ok (.invokevirtual 93, 3) := by decide +kernel
theorem dX5_enrol_86 : decode cX5_enrol 86 = .ok (.iconst (-1), 1) := by decide +kernel
theorem dX5_enrol_87 : decode cX5_enrol 87 = .ok (.if_icmp .eq 6, 3) := by decide +kernel
theorem dX5_enrol_93 : decode cX5_enrol 93 = .ok (.aload_n 0, 1) := by decide +kernel
theorem dX5_enrol_94 : decode cX5_enrol 94 = .ok (.getfield 11, 3) := by decide +kernel
theorem dX5_enrol_97 : decode cX5_enrol 97 = .ok (.aload_n 0, 1) := by decide +kernel
theorem dX5_enrol_98 : decode cX5_enrol 98 = .ok (.getfield 52, 3) := by decide +kernel
theorem dX5_enrol_101 : decode cX5_enrol 101 = .ok (.aaload, 1) := by decide +kernel
theorem dX5_enrol_102 : decode cX5_enrol 102 = .ok (.iload_n 1, 1) := by decide +kernel
theorem dX5_enrol_103 : decode cX5_enrol 103 = .ok (.iload_n 2, 1) := by decide +kernel
theorem dX5_enrol_104 : decode cX5_enrol 104 = .ok (.iload_n 3, 1) := by decide +kernel
theorem dX5_enrol_105 : decode cX5_enrol 105 = .ok (.iload 4, 2) := by decide +kernel
theorem dX5_enrol_107 : decode cX5_enrol 107 = .ok (.iload 5, 2) := by decide +kernel
theorem dX5_enrol_109 : decode cX5_enrol 109 = .ok (.invokevirtual 98, 3) := by decide +kernel
theorem dX5_enrol_112 : decode cX5_enrol 112 = .ok (.aload_n 0, 1) := by decide +kernel
theorem dX5_enrol_113 : decode cX5_enrol 113 = .ok (.dup, 1) := by decide +kernel
theorem dX5_enrol_114 : decode cX5_enrol 114 = .ok (.getfield 52, 3) := by decide +kernel
theorem dX5_enrol_117 : decode cX5_enrol 117 = .ok (.iconst 1, 1) := by decide +kernel
theorem dX5_enrol_118 : decode cX5_enrol 118 = .ok (.iadd, 1) := by decide +kernel
theorem dX5_enrol_119 : decode cX5_enrol 119 = .ok (.putfield 52, 3) := by decide +kernel
theorem dX5_enrol_122 : decode cX5_enrol 122 = .ok (.aload_n 0, 1) := by decide +kernel
theorem dX5_enrol_123 : decode cX5_enrol 123 = .ok (.getfield 52, 3) := by decide +kernel
theorem dX5_enrol_126 : decode cX5_enrol 126 = .ok (.iconst 1, 1) := by decide +kernel
theorem dX5_enrol_127 : decode cX5_enrol 127 = .ok (.isub, 1) := by decide +kernel
theorem dX5_enrol_128 : decode cX5_enrol 128 = .ok (.ireturn, 1) := by decide +kernel
theorem dX5_layGround_0 : decode cX5_layGround 0 = .ok (.iload_n 1, 1) := by decide +kernel
theorem dX5_layGround_1 : decode cX5_layGround 1 = .ok (.iload_n 2, 1) := by decide +kernel
theorem dX5_layGround_2 : decode cX5_layGround 2 = .ok (.invokestatic 79, 3) := by decide +kernel
theorem dX5_layGround_5 : decode cX5_layGround 5 = .ok (.ifCond .eq 12, 3) := by decide +kernel
theorem dX5_layGround_8 : decode cX5_layGround 8 = .ok (.ldc 108, 2) := by decide +kernel
theorem dX5_layGround_10 : decode cX5_layGround 10 = .ok (.iload_n 3, 1) := by decide +kernel
theorem dX5_layGround_11 : decode cX5_layGround 11 = .ok (.invokevirtual 110, 3) := by decide +kernel
theorem dX5_layGround_14 : decode cX5_layGround 14 = .ok (.ifCond .ge 6, 3) := by decide +kernel
theorem dX5_layGround_17 : decode cX5_layGround 17 = .ok (.ldc 83, 2) := by decide +kernel
theorem dX5_layGround_19 : decode cX5_layGround 19 = .ok (.ireturn, 1) := by decide +kernel
theorem dX5_layGround_20 : decode cX5_layGround 20 = .ok (.iload_n 3, 1) := by decide +kernel
theorem dX5_layGround_21 : decode cX5_layGround 21 = .ok (.bipush 35, 2) := by decide +kernel
theorem dX5_layGround_23 : decode cX5_layGround 23 = .ok (.if_icmp .ne 16, 3) := by decide +kernel
theorem dX5_layGround_26 : decode cX5_layGround 26 = .ok (.aload_n 0, 1) := by decide +kernel
theorem dX5_layGround_27 : decode cX5_layGround 27 = .ok (.iload_n 1, 1) := by decide +kernel
theorem dX5_layGround_28 : decode cX5_layGround 28 = .ok (.iload_n 2, 1) := by decide +kernel
theorem dX5_layGround_29 : decode cX5_layGround 29 = .ok (.invokevirtual 93, 3) := by decide +kernel
theorem dX5_layGround_32 : decode cX5_layGround 32 = .ok (.iconst (-1), 1) := by decide +kernel
theorem dX5_layGround_33 : decode cX5_layGround 33 = .ok (.if_icmp .eq 6, 3) := by decide +kernel
theorem dX5_layGround_39 : decode cX5_layGround 39 = .ok (.aload_n 0, 1) := by decide +kernel
theorem dX5_layGround_40 : decode cX5_layGround 40 = .ok (.getfield 29, 3) := by decide +kernel
theorem dX5_layGround_43 : decode cX5_layGround 43 = .ok (.iload_n 1, 1) := by decide +kernel
theorem dX5_layGround_44 : decode cX5_layGround 44 = .ok (.iload_n 2, 1) := by decide +kernel
theorem dX5_layGround_45 : decode cX5_layGround 45 = .ok (.invokevirtual 89, 3) := by decide +kernel
theorem dX5_layGround_48 : decode cX5_layGround 48 = .ok (.istore 4, 2) := by decide +kernel
theorem dX5_layGround_50 : decode cX5_layGround 50 = .ok (.aload_n 0, 1) := by decide +kernel
theorem dX5_layGround_51 : decode cX5_layGround 51 = .ok (.getfield 29, 3) := by decide +kernel
theorem dX5_layGround_54 : decode cX5_layGround 54 = .ok (.iload_n 1, 1) := by decide +kernel
theorem dX5_layGround_55 : decode cX5_layGround 55 = .ok (.iload_n 2, 1) := by decide +kernel
theorem dX5_layGround_56 : decode cX5_layGround 56 = .ok (.iload_n 3, 1) := by decide +kernel
theorem dX5_layGround_57 : decode cX5_layGround 57 = .ok (.invokevirtual 116, 3) := by decide +kernel
theorem dX5_layGround_60 : decode cX5_layGround 60 = .ok (.iload 4, 2) := by decide +kernel
theorem dX5_layGround_62 : decode cX5_layGround 62 = .ok (.ireturn, 1) := by decide +kernel
theorem dX5_changeBase_0 : decode cX5_changeBase 0 = .ok (.aload_n 0, 1) := by decide +kernel
theorem dX5_changeBase_1 : decode cX5_changeBase 1 = .ok (.iload_n 1, 1) := by decide +kernel
theorem dX5_changeBase_2 : decode cX5_changeBase 2 = .ok (.invokevirtual 120, 3) := by decide +kernel
theorem dX5_changeBase_5 : decode cX5_changeBase 5 = .ok (.ifCond .ne 6, 3) := by decide +kernel
theorem dX5_changeBase_8 : decode cX5_changeBase 8 = .ok (.ldc 124, 2) := by decide +kernel
theorem dX5_changeBase_10 : decode cX5_changeBase 10 = .ok (.ireturn, 1) := by decide +kernel
theorem dX5_changeSpare_0 : decode cX5_changeSpare 0 = .ok (.aload_n 0, 1) := by decide +kernel
theorem dX5_changeSpare_1 : decode cX5_changeSpare 1 = .ok (.iload_n 1, 1) := by decide +kernel
theorem dX5_changeSpare_2 : decode cX5_changeSpare 2 = .ok (.invokevirtual 120, 3) := by decide +kernel
theorem dX5_changeSpare_5 : decode cX5_changeSpare 5 = .ok (.ifCond .ne 6, 3) := by decide +kernel
theorem dX5_changeSpare_8 : decode cX5_changeSpare 8 = .ok (.ldc 124, 2) := by decide +kernel
theorem dX5_changeSpare_10 : decode cX5_changeSpare 10 = .ok (.ireturn, 1) := by decide +kernel
theorem dX5_mend_0 : decode cX5_mend 0 = .ok (.aload_n 0, 1) := by decide +kernel
theorem dX5_mend_1 : decode cX5_mend 1 = .ok (.iload_n 1, 1) := by decide +kernel
theorem dX5_mend_2 : decode cX5_mend 2 = .ok (.invokevirtual 120, 3) := by decide +kernel
theorem dX5_mend_5 : decode cX5_mend 5 = .ok (.ifCond .ne 6, 3) := by decide +kernel
theorem dX5_mend_8 : decode cX5_mend 8 = .ok (.ldc 124, 2) := by decide +kernel
theorem dX5_mend_10 : decode cX5_mend 10 = .ok (.ireturn, 1) := by decide +kernel
theorem dX5_tellBonus_0 : decode cX5_tellBonus 0 = .ok (.aload_n 0, 1) := by decide +kernel
theorem dX5_tellBonus_1 : decode cX5_tellBonus 1 = .ok (.iload_n 1, 1) := by decide +kernel
theorem dX5_tellBonus_2 : decode cX5_tellBonus 2 = .ok (.invokevirtual 120, 3) := by decide +kernel
theorem dX5_tellBonus_5 : decode cX5_tellBonus 5 = .ok (.ifCond .eq 12, 3) := by decide +kernel
theorem dX5_tellBonus_17 : decode cX5_tellBonus 17 = .ok (.ldc 124, 2) := by decide +kernel
theorem dX5_tellBonus_19 : decode cX5_tellBonus 19 = .ok (.ireturn, 1) := by decide +kernel
theorem dX5_tellCondition_0 : decode cX5_tellCondition 0 = .ok (.aload_n 0, 1) := by decide +kernel
theorem dX5_tellCondition_1 : decode cX5_tellCondition 1 = .ok (.iload_n 1, 1) := by decide +kernel
theorem dX5_tellCondition_2 : decode cX5_tellCondition 2 = .ok (.invokevirtual 120, 3) := by decide +kernel
theorem dX5_tellCondition_5 : decode cX5_tellCondition 5 = .ok (.ifCond .eq 12, 3) := by decide +kernel
theorem dX5_tellCondition_17 : decode cX5_tellCondition 17 = .ok (.ldc 124, 2) := by decide +kernel
theorem dX5_tellCondition_19 : decode cX5_tellCondition 19 = .ok (.ireturn, 1) := by decide +kernel
theorem dX5_changeImmunity_0 : decode cX5_changeImmunity 0 = .ok (.aload_n 0, 1) := by decide +kernel
theorem dX5_changeImmunity_1 : decode cX5_changeImmunity 1 = .ok (.iload_n 1, 1) := by decide +kernel
theorem dX5_changeImmunity_2 : decode cX5_changeImmunity 2 = .ok (.invokevirtual 120, 3) := by decide +kernel
theorem dX5_changeImmunity_5 : decode cX5_changeImmunity 5 = .ok (.ifCond .ne 6, 3) := by decide +kernel
theorem dX5_changeImmunity_8 : decode cX5_changeImmunity 8 = .ok (.ldc 124, 2) := by decide +kernel
theorem dX5_changeImmunity_10 : decode cX5_changeImmunity 10 = .ok (.ireturn, 1) := by decide +kernel
theorem dX5_quench_0 : decode cX5_quench 0 = .ok (.aload_n 0, 1) := by decide +kernel
theorem dX5_quench_1 : decode cX5_quench 1 = .ok (.getfield 22, 3) := by decide +kernel
theorem dX5_quench_4 : decode cX5_quench 4 = .ok (.iload_n 1, 1) := by decide +kernel
theorem dX5_quench_5 : decode cX5_quench 5 = .ok (.invokevirtual 181, 3) := by decide +kernel
theorem dX5_quench_8 : decode cX5_quench 8 = .ok (.ifCond .ne 6, 3) := by decide +kernel
theorem dX5_quench_11 : decode cX5_quench 11 = .ok (.ldc 124, 2) := by decide +kernel
theorem dX5_quench_13 : decode cX5_quench 13 = .ok (.ireturn, 1) := by decide +kernel
theorem dX5_hearDie_0 : decode cX5_hearDie 0 = .ok (.iload_n 1, 1) := by decide +kernel
theorem dX5_hearDie_1 : decode cX5_hearDie 1 = .ok (.iconst 1, 1) := by decide +kernel
theorem dX5_hearDie_2 : decode cX5_hearDie 2 = .ok (.if_icmp .lt 9, 3) := by decide +kernel
theorem dX5_hearDie_5 : decode cX5_hearDie 5 = .ok (.iload_n 1, 1) := by decide +kernel
theorem dX5_hearDie_6 : decode cX5_hearDie 6 = .ok (.bipush 20, 2) := by decide +kernel
theorem dX5_hearDie_8 : decode cX5_hearDie 8 = .ok (.if_icmp .le 6, 3) := by decide +kernel
theorem dX5_hearDie_11 : decode cX5_hearDie 11 = .ok (.ldc 83, 2) := by decide +kernel
theorem dX5_hearDie_13 : decode cX5_hearDie 13 = .ok (.ireturn, 1) := by decide +kernel
theorem dX5_hearDie_14 : decode cX5_hearDie 14 = .ok (.aload_n 0, 1) := by decide +kernel
theorem dX5_hearDie_15 : decode cX5_hearDie 15 = .ok (.getfield 36, 3) := by decide +kernel
theorem dX5_hearDie_18 : decode cX5_hearDie 18 = .ok (.iload_n 1, 1) := by decide +kernel
theorem dX5_hearDie_19 : decode cX5_hearDie 19 = .ok (.invokevirtual 190, 3) := by decide +kernel
theorem dX5_hearDie_22 : decode cX5_hearDie 22 = .ok (.aload_n 0, 1) := by decide +kernel
theorem dX5_hearDie_23 : decode cX5_hearDie 23 = .ok (.getfield 36, 3) := by decide +kernel
theorem dX5_hearDie_26 : decode cX5_hearDie 26 = .ok (.invokevirtual 193, 3) := by decide +kernel
theorem dX5_hearDie_29 : decode cX5_hearDie 29 = .ok (.ireturn, 1) := by decide +kernel
theorem dX5_startFight_0 : decode cX5_startFight 0 = .ok (.aload_n 0, 1) := by decide +kernel
theorem dX5_startFight_1 : decode cX5_startFight 1 = .ok (.getfield 52, 3) := by decide +kernel
theorem dX5_startFight_4 : decode cX5_startFight 4 = .ok (.ifCond .ne 6, 3) := by decide +kernel
theorem dX5_startFight_7 : decode cX5_startFight 7 = .ok (.ldc 203, 2) := by decide +kernel
theorem dX5_startFight_9 : decode cX5_startFight 9 = .ok (.ireturn, 1) := by decide +kernel
theorem dX5_passTurn_0 : decode cX5_passTurn 0 = .ok (.aload_n 0, 1) := by decide +kernel
theorem dX5_passTurn_1 : decode cX5_passTurn 1 = .ok (.invokevirtual 84, 3) := by decide +kernel
theorem dX5_passTurn_4 : decode cX5_passTurn 4 = .ok (.ifCond .ne 6, 3) := by decide +kernel
theorem dX5_passTurn_7 : decode cX5_passTurn 7 = .ok (.ldc 88, 2) := by decide +kernel
theorem dX5_passTurn_9 : decode cX5_passTurn 9 = .ok (.ireturn, 1) := by decide +kernel
theorem dX5_stopFight_0 : decode cX5_stopFight 0 = .ok (.aload_n 0, 1) := by decide +kernel
theorem dX5_stopFight_1 : decode cX5_stopFight 1 = .ok (.invokevirtual 84, 3) := by decide +kernel
theorem dX5_stopFight_4 : decode cX5_stopFight 4 = .ok (.ifCond .ne 6, 3) := by decide +kernel
theorem dX5_stopFight_7 : decode cX5_stopFight 7 = .ok (.ldc 88, 2) := by decide +kernel
theorem dX5_stopFight_9 : decode cX5_stopFight 9 = .ok (.ireturn, 1) := by decide +kernel
theorem dX5_assail_0 : decode cX5_assail 0 = .ok (.aload_n 0, 1) := by decide +kernel
theorem dX5_assail_1 : decode cX5_assail 1 = .ok (.iload_n 1, 1) := by decide +kernel
theorem dX5_assail_2 : decode cX5_assail 2 = .ok (.invokevirtual 120, 3) := by decide +kernel
theorem dX5_assail_5 : decode cX5_assail 5 = .ok (.ifCond .ne 6, 3) := by decide +kernel
theorem dX5_assail_8 : decode cX5_assail 8 = .ok (.ldc 124, 2) := by decide +kernel
theorem dX5_assail_10 : decode cX5_assail 10 = .ok (.ireturn, 1) := by decide +kernel
theorem dX5_walk_0 : decode cX5_walk 0 = .ok (.iload_n 1, 1) := by decide +kernel
theorem dX5_walk_1 : decode cX5_walk 1 = .ok (.iconst (-1), 1) := by decide +kernel
theorem dX5_walk_2 : decode cX5_walk 2 = .ok (.if_icmp .lt 26, 3) := by decide +kernel
theorem dX5_walk_5 : decode cX5_walk 5 = .ok (.iload_n 1, 1) := by decide +kernel
theorem dX5_walk_6 : decode cX5_walk 6 = .ok (.iconst 1, 1) := by decide +kernel
theorem dX5_walk_7 : decode cX5_walk 7 = .ok (.if_icmp .gt 21, 3) := by decide +kernel
theorem dX5_walk_10 : decode cX5_walk 10 = .ok (.iload_n 2, 1) := by decide +kernel
theorem dX5_walk_11 : decode cX5_walk 11 = .ok (.iconst (-1), 1) := by decide +kernel
theorem dX5_walk_12 : decode cX5_walk 12 = .ok (.if_icmp .lt 16, 3) := by decide +kernel
theorem dX5_walk_15 : decode cX5_walk 15 = .ok (.iload_n 2, 1) := by decide +kernel
theorem dX5_walk_16 : decode cX5_walk 16 = .ok (.iconst 1, 1) := by decide +kernel
theorem dX5_walk_17 : decode cX5_walk 17 = .ok (.if_icmp .gt 11, 3) := by decide +kernel
theorem dX5_walk_20 : decode cX5_walk 20 = .ok (.iload_n 1, 1) := by decide +kernel
theorem dX5_walk_21 : decode cX5_walk 21 = .ok (.ifCond .ne 10, 3) := by decide +kernel
theorem dX5_walk_24 : decode cX5_walk 24 = .ok (.iload_n 2, 1) := by decide +kernel
theorem dX5_walk_25 : decode cX5_walk 25 = .ok (.ifCond .ne 6, 3) := by decide +kernel
theorem dX5_walk_28 : decode cX5_walk 28 = .ok (.ldc 83, 2) := by decide +kernel
theorem dX5_walk_30 : decode cX5_walk 30 = .ok (.ireturn, 1) := by decide +kernel
theorem dX5_walk_31 : decode cX5_walk 31 = .ok (.aload_n 0, 1) := by decide +kernel
theorem dX5_walk_32 : decode cX5_walk 32 = .ok (.invokevirtual 84, 3) := by decide +kernel
theorem dX5_walk_35 : decode cX5_walk 35 = .ok (.ifCond .ne 6, 3) := by decide +kernel
theorem dX5_walk_38 : decode cX5_walk 38 = .ok (.ldc 88, 2) := by decide +kernel
theorem dX5_walk_40 : decode cX5_walk 40 = .ok (.ireturn, 1) := by decide +kernel
theorem dX5_rise_0 : decode cX5_rise 0 = .ok (.aload_n 0, 1) := by decide +kernel
theorem dX5_rise_1 : decode cX5_rise 1 = .ok (.invokevirtual 84, 3) := by decide +kernel
theorem dX5_rise_4 : decode cX5_rise 4 = .ok (.ifCond .ne 6, 3) := by decide +kernel
theorem dX5_rise_7 : decode cX5_rise 7 = .ok (.ldc 88, 2) := by decide +kernel
theorem dX5_rise_9 : decode cX5_rise 9 = .ok (.ireturn, 1) := by decide +kernel
theorem dX5_prepare_0 : decode cX5_prepare 0 = .ok (.iload_n 1, 1) := by decide +kernel
theorem dX5_prepare_1 : decode cX5_prepare 1 = .ok (.bipush 97, 2) := by decide +kernel
theorem dX5_prepare_3 : decode cX5_prepare 3 = .ok (.if_icmp .ne 15, 3) := by decide +kernel
theorem dX5_prepare_6 : decode cX5_prepare 6 = .ok (.iload_n 2, 1) := by decide +kernel
theorem dX5_prepare_7 : decode cX5_prepare 7 = .ok (.bipush 103, 2) := by decide +kernel
theorem dX5_prepare_9 : decode cX5_prepare 9 = .ok (.if_icmp .eq 39, 3) := by decide +kernel
theorem dX5_prepare_12 : decode cX5_prepare 12 = .ok (.iload_n 2, 1) := by decide +kernel
theorem dX5_prepare_13 : decode cX5_prepare 13 = .ok (.bipush 115, 2) := by decide +kernel
theorem dX5_prepare_15 : decode cX5_prepare 15 = .ok (.if_icmp .eq 33, 3) := by decide +kernel
theorem dX5_prepare_18 : decode cX5_prepare 18 = .ok (.iload_n 1, 1) := by decide +kernel
theorem dX5_prepare_19 : decode cX5_prepare 19 = .ok (.bipush 109, 2) := by decide +kernel
theorem dX5_prepare_21 : decode cX5_prepare 21 = .ok (.if_icmp .ne 9, 3) := by decide +kernel
theorem dX5_prepare_24 : decode cX5_prepare 24 = .ok (.iload_n 2, 1) := by decide +kernel
theorem dX5_prepare_25 : decode cX5_prepare 25 = .ok (.bipush 115, 2) := by decide +kernel
theorem dX5_prepare_27 : decode cX5_prepare 27 = .ok (.if_icmp .eq 21, 3) := by decide +kernel
theorem dX5_prepare_30 : decode cX5_prepare 30 = .ok (.iload_n 1, 1) := by decide +kernel
theorem dX5_prepare_31 : decode cX5_prepare 31 = .ok (.bipush 99, 2) := by decide +kernel
theorem dX5_prepare_33 : decode cX5_prepare 33 = .ok (.if_icmp .ne 19, 3) := by decide +kernel
theorem dX5_prepare_36 : decode cX5_prepare 36 = .ok (.iload_n 2, 1) := by decide +kernel
theorem dX5_prepare_37 : decode cX5_prepare 37 = .ok (.bipush 120, 2) := by decide +kernel
theorem dX5_prepare_39 : decode cX5_prepare 39 = .ok (.if_icmp .eq 9, 3) := by decide +kernel
theorem dX5_prepare_42 : decode cX5_prepare 42 = .ok (.iload_n 2, 1) := by decide +kernel
theorem dX5_prepare_43 : decode cX5_prepare 43 = .ok (.bipush 115, 2) := by decide +kernel
theorem dX5_prepare_45 : decode cX5_prepare 45 = .ok (.if_icmp .ne 7, 3) := by decide +kernel
theorem dX5_prepare_48 : decode cX5_prepare 48 = .ok (.iconst 1, 1) := by decide +kernel
theorem dX5_prepare_49 : decode cX5_prepare 49 = .ok (.goto 4, 3) := by decide +kernel
theorem dX5_prepare_52 : decode cX5_prepare 52 = .ok (.iconst 0, 1) := by decide +kernel
theorem dX5_prepare_53 : decode cX5_prepare 53 = .ok (.istore_n 3, 1) := by decide +kernel
theorem dX5_prepare_54 : decode cX5_prepare 54 = .ok (.iload_n 3, 1) := by decide +kernel
theorem dX5_prepare_55 : decode cX5_prepare 55 = .ok (.ifCond .ne 6, 3) := by decide +kernel
theorem dX5_prepare_58 : decode cX5_prepare 58 = .ok (.ldc 83, 2) := by decide +kernel
theorem dX5_prepare_60 : decode cX5_prepare 60 = .ok (.ireturn, 1) := by decide +kernel
theorem dX5_prepare_61 : decode cX5_prepare 61 = .ok (.aload_n 0, 1) := by decide +kernel
theorem dX5_prepare_62 : decode cX5_prepare 62 = .ok (.invokevirtual 84, 3) := by decide +kernel
theorem dX5_prepare_65 : decode cX5_prepare 65 = .ok (.ifCond .ne 6, 3) := by decide +kernel
theorem dX5_prepare_68 : decode cX5_prepare 68 = .ok (.ldc 88, 2) := by decide +kernel
theorem dX5_prepare_70 : decode cX5_prepare 70 = .ok (.ireturn, 1) := by decide +kernel
theorem dX5_castSpell_0 : decode cX5_castSpell 0 = .ok (.iload_n 1, 1) := by decide +kernel
theorem dX5_castSpell_1 : decode cX5_castSpell 1 = .ok (.bipush 115, 2) := by decide +kernel
theorem dX5_castSpell_3 : decode cX5_castSpell 3 = .ok (.if_icmp .eq 7, 3) := by decide +kernel
theorem dX5_castSpell_6 : decode cX5_castSpell 6 = .ok (.iconst 1, 1) := by decide +kernel
theorem dX5_castSpell_7 : decode cX5_castSpell 7 = .ok (.goto 4, 3) := by decide +kernel
theorem dX5_castSpell_10 : decode cX5_castSpell 10 = .ok (.iconst 0, 1) := by decide +kernel
theorem dX5_castSpell_11 : decode cX5_castSpell 11 = .ok (.istore 4, 2) := by decide +kernel
theorem dX5_castSpell_13 : decode cX5_castSpell 13 = .ok (.ldc_w 291, 3) := by decide +kernel
theorem dX5_castSpell_16 : decode cX5_castSpell 16 = .ok (.iload_n 1, 1) := by decide +kernel
theorem dX5_castSpell_17 : decode cX5_castSpell 17 = .ok (.invokevirtual 110, 3) := by decide +kernel
theorem dX5_castSpell_20 : decode cX5_castSpell 20 = .ok (.ifCond .lt 16, 3) := by decide +kernel
theorem dX5_castSpell_23 : decode cX5_castSpell 23 = .ok (.iload 4, 2) := by decide +kernel
theorem dX5_castSpell_25 : decode cX5_castSpell 25 = .ok (.ifCond .eq 14, 3) := by decide +kernel
theorem dX5_castSpell_28 : decode cX5_castSpell 28 = .ok (.iload_n 2, 1) := by decide +kernel
theorem dX5_castSpell_29 : decode cX5_castSpell 29 = .ok (.iload_n 3, 1) := by decide +kernel
theorem dX5_castSpell_30 : decode cX5_castSpell 30 = .ok (.invokestatic 79, 3) := by decide +kernel
theorem dX5_castSpell_33 : decode cX5_castSpell 33 = .ok (.ifCond .ne 6, 3) := by decide +kernel
theorem dX5_castSpell_36 : decode cX5_castSpell 36 = .ok (.ldc 83, 2) := by decide +kernel
theorem dX5_castSpell_38 : decode cX5_castSpell 38 = .ok (.ireturn, 1) := by decide +kernel
theorem dX5_castSpell_39 : decode cX5_castSpell 39 = .ok (.aload_n 0, 1) := by decide +kernel
theorem dX5_castSpell_40 : decode cX5_castSpell 40 = .ok (.invokevirtual 84, 3) := by decide +kernel
theorem dX5_castSpell_43 : decode cX5_castSpell 43 = .ok (.ifCond .ne 6, 3) := by decide +kernel
theorem dX5_castSpell_46 : decode cX5_castSpell 46 = .ok (.ldc 88, 2) := by decide +kernel
theorem dX5_castSpell_48 : decode cX5_castSpell 48 = .ok (.ireturn, 1) := by decide +kernel
theorem dX5_areNumbersSound_0 : decode cX5_areNumbersSound 0 = .ok (.iconst 0, 1) := by decide +kernel
theorem dX5_areNumbersSound_1 : decode cX5_areNumbersSound 1 = .ok (.istore_n 1, 1) := by decide +kernel
theorem dX5_areNumbersSound_2 : decode cX5_areNumbersSound 2 = .ok (.iload_n 1, 1) := by decide +kernel
theorem dX5_areNumbersSound_3 : decode cX5_areNumbersSound 3 = .ok (.aload_n 0, 1) := by decide +kernel
theorem dX5_areNumbersSound_4 : decode cX5_areNumbersSound 4 = .ok (.getfield 52, 3) := by decide +kernel
theorem dX5_areNumbersSound_7 : decode cX5_areNumbersSound 7 = .ok (.if_icmp .ge 45, 3) := by decide +kernel
theorem dX5_areNumbersSound_52 : decode cX5_areNumbersSound 52 = .ok (.iconst 1, 1) := by decide +kernel
theorem dX5_areNumbersSound_53 : decode cX5_areNumbersSound 53 = .ok (.ireturn, 1) := by decide +kernel
theorem dX5_areCellsSingle_0 : decode cX5_areCellsSingle 0 = .ok (.iconst 0, 1) := by decide +kernel
theorem dX5_areCellsSingle_1 : decode cX5_areCellsSingle 1 = .ok (.istore_n 1, 1) := by decide +kernel
theorem dX5_areCellsSingle_2 : decode cX5_areCellsSingle 2 = .ok (.iload_n 1, 1) := by decide +kernel
theorem dX5_areCellsSingle_3 : decode cX5_areCellsSingle 3 = .ok (.aload_n 0, 1) := by decide +kernel
theorem dX5_areCellsSingle_4 : decode cX5_areCellsSingle 4 = .ok (.getfield 52, 3) := by decide +kernel
theorem dX5_areCellsSingle_7 : decode cX5_areCellsSingle 7 = .ok (.if_icmp .ge 37, 3) := by decide +kernel
theorem dX5_areCellsSingle_44 : decode cX5_areCellsSingle 44 = .ok (.iconst 1, 1) := by decide +kernel
theorem dX5_areCellsSingle_45 : decode cX5_areCellsSingle 45 = .ok (.ireturn, 1) := by decide +kernel
theorem dX5_hasLivesOf_0 : decode cX5_hasLivesOf 0 = .ok (.aload_n 0, 1) := by decide +kernel
theorem dX5_hasLivesOf_1 : decode cX5_hasLivesOf 1 = .ok (.getfield 52, 3) := by decide +kernel
theorem dX5_hasLivesOf_4 : decode cX5_hasLivesOf 4 = .ok (.aload_n 1, 1) := by decide +kernel
theorem dX5_hasLivesOf_5 : decode cX5_hasLivesOf 5 = .ok (.getfield 52, 3) := by decide +kernel
theorem dX5_hasLivesOf_8 : decode cX5_hasLivesOf 8 = .ok (.if_icmp .eq 5, 3) := by decide +kernel
theorem dX5_hasLivesOf_13 : decode cX5_hasLivesOf 13 = .ok (.iconst 0, 1) := by decide +kernel
theorem dX5_hasLivesOf_14 : decode cX5_hasLivesOf 14 = .ok (.istore_n 2, 1) := by decide +kernel
theorem dX5_hasLivesOf_15 : decode cX5_hasLivesOf 15 = .ok (.iload_n 2, 1) := by decide +kernel
theorem dX5_hasLivesOf_16 : decode cX5_hasLivesOf 16 = .ok (.aload_n 0, 1) := by decide +kernel
theorem dX5_hasLivesOf_17 : decode cX5_hasLivesOf 17 = .ok (.getfield 52, 3) := by decide +kernel
theorem dX5_hasLivesOf_20 : decode cX5_hasLivesOf 20 = .ok (.if_icmp .ge 32, 3) := by decide +kernel
theorem dX5_hasLivesOf_52 : decode cX5_hasLivesOf 52 = .ok (.iconst 1, 1) := by decide +kernel
theorem dX5_hasLivesOf_53 : decode cX5_hasLivesOf 53 = .ok (.ireturn, 1) := by decide +kernel
set_option maxHeartbeats 4000000 in
set_option maxRecDepth 100000 in
theorem c_X5_init (l : Launch) (hfl : l.stackTraces = false) (g : GP) (t0 : Nat)  : CV l yX5_init (wG yX5_init cX5_init 2 (Option.none : Option Jvm.ClassFile.FieldType)) (LV 5 60 500) g [.ref t0] ([(t0, .inr (6, [.null, .null, .null, .null, .int 0, .null, .int 0, .int 0, .int 0, .int 0, .long 0, .int 0, .int 0]))]) (fun (u : va_W) => ∃ (th : Nat) (ts : Nat) (tg : Nat) (td : Nat) (tr : Nat) (tw : Nat) (tc : Nat) (tv : Nat) (z0 : Nat) (z1 : Nat) (z2 : Nat) (z3 : Nat) (z4 : Nat) (z5 : Nat) (fh : Nat → Option Nat) (fc : Nat → Int32), (fh 0 = some z0) ∧ (∀ j : Nat, j < 64 → fc j = 46) ∧ u = [(t0, .inr (6, [.ref th, .ref ts, .ref tg, .ref td, .int 0, .ref tr, .int (-1), .int 0, .int 0, .int 0, .long 0, .int 0, .int 0])), (th, .inl (g.2.1 3, 6, .inr (.inr (.inr (.inr fh))))), (z0, .inr (4, [.int 0, .int 0, .int 0, .int 0, .int 0, .int 0, .int 0, .int 0, .int 0, .int 0, .int 0, .int 0, .ref z1, .ref z2, .ref z3, .ref z4, .ref z5])), (z1, .inl (g.2.1 1, 5, .inl (fun _ => 0))), (z2, .inl (g.2.1 1, 5, .inl (fun _ => 0))), (z3, .inl (g.2.1 2, 5, .inl (fun _ => 0))), (z4, .inl (g.2.1 1, 6, .inl (fun _ => 0))), (z5, .inl (g.2.1 2, 6, .inl (fun _ => 0))), (ts, .inr (5, [.ref th, .ref tw, .int 0])), (tg, .inr (3, [.ref tc])), (tc, .inl (g.2.1 0, 64, .inl fc)), (td, .inr (2, [.ref tv, .int 0, .int 0])), (tv, .inl (g.2.1 1, 16, .inl (fun _ => 0)))]) := by
  intro sz
  refine Met.ofW (cc := cX5_init) (maxL := 2) (ret := (Option.none : Option Jvm.ClassFile.FieldType)) (by decide) rfl ?_
  intro p e s m args below meth c s₁ B hml hv
  obtain ⟨rfl, hsz, hP, hK, hD0, hT0⟩ := hv
  have hx := B.exec
  have hb := B.bytes
  have hr := B.returns
  have hts := atoms_spec (ws := (wG yX5_init cX5_init 2 (Option.none : Option Jvm.ClassFile.FieldType))) B.pre
  have htg : ∀ w ∈ G9, w.before _ s = true := fun w h => hts w (List.mem_cons_of_mem _ h)
  have hown : s.vm.findClass "HeroTable$Table" = some m.cls := findClass_of_methodNamed B.named
  have hlocks := B.notSynchronized
  have hin : meth.name = "<init>" := (name_of_methodNamed B.named B.method).1
  subst hsz
  have hD := hD0.self (sz := s.heap.size)
  have hT := hT0
  clear hT0
  generalize hAe : va_A [(t0, .inr (6, [.null, .null, .null, .null, .int 0, .null, .int 0, .int 0, .int 0, .int 0, .long 0, .int 0, .int 0]))] s.heap.size = A at hD hT ⊢
  have hA : ∀ q : Nat, s.heap.size ≤ q → A q := fun q h => by rw [← hAe]; exact Or.inr h
  obtain ⟨H, hH0⟩ : ∃ H, H = s.heap := ⟨_, rfl⟩
  have hS : va_S A s.heap H [] := by rw [hH0]; exact va_S.rf
  have hP : va_P g.1 CLS [(t0, .inr (6, [.null, .null, .null, .null, .int 0, .null, .int 0, .int 0, .int 0, .int 0, .long 0, .int 0, .int 0]))] H := by rw [hH0]; exact hP
  rw [← hH0]
  have hl := lv_entry ([.ref t0]) (n := 2) (Nat.le_of_ble_eq_true rfl)
  rw [lg_entry_eq]
  generalize (lg_sl ([.ref t0]) ++ List.replicate (2 - (lg_sl ([.ref t0])).length) Slot.unset).toArray = ls at hl ⊢
  have hl : lv_has ls 2 [(0, .ref t0)] := hl
  refine lv_aload_n hx hb dX5_init_0 rfl (lv_at hl 0 rfl) ?_
  refine W.objInit hx hb hown (htg _ k105) (htg _ k98) (htg _ k99) rfl (by rw [hml]; exact hl.1) rfl dX5_init_1 (Nat.le_of_ble_eq_true rfl) (Nat.le_of_ble_eq_true rfl) ?_
  refine W.eq (g2 := F0 m 4 ls []) rfl ?_
  refine lv_aload_n hx hb dX5_init_4 rfl (lv_at hl 0 rfl) ?_
  refine lv_bipush (v := 6) hx hb dX5_init_5 (by decide) ?_
  refine va_newq (own := "HeroTable$Table") (C := "HeroTable$Hero") (index := 9) (N' := 6) hx hb hown (htg _ k106) (hT.1.2.2.2.1.1) hK hP hD hS hA (by decide) (by decide) (by decide) (Nat.le_of_ble_eq_true rfl) (Nat.le_of_ble_eq_true rfl) dX5_init_7 (fun q_1 cA H hK9 hP hD hS => ?_)
  obtain rfl := q_arr hK9 (t0 := 3) rfl (by decide)
  clear hK9
  have hP : va_P g.1 CLS [(t0, .inr (6, [.null, .null, .null, .null, .int 0, .null, .int 0, .int 0, .int 0, .int 0, .long 0, .int 0, .int 0])), (q_1, .inl (g.2.1 3, 6, .inr (.inr (.inr (.inr (fun _ => none))))))] H := hP
  have hD : va_D A [(t0, .inr (6, [.null, .null, .null, .null, .int 0, .null, .int 0, .int 0, .int 0, .int 0, .long 0, .int 0, .int 0])), (q_1, .inl (g.2.1 3, 6, .inr (.inr (.inr (.inr (fun _ => none))))))] := hD
  refine W.widen (k := 1) (n := 6) (Nat.le_of_ble_eq_true rfl) (Nat.le_of_ble_eq_true rfl) ?_
  refine va_putF (D := g.1) (ci := 6) (v := .ref q_1) (ty := (.array (.object "HeroTable$Hero"))) (C := RX5) (T := TX5) (N := 13) hx hb htg inG_X5 tyX5 tyX5_ok nmX5 hown hK hP hD hS 0 rfl rfl 0 (by decide) (htg _ k247) (fun _ h9 => h9) rfl hin rfl (by decide +kernel) rfl rfl (Nat.le_of_ble_eq_true rfl) dX5_init_10 (fun H locs hP hD hS => ?_)
  have hP : va_P g.1 CLS [(t0, .inr (6, [.ref q_1, .null, .null, .null, .int 0, .null, .int 0, .int 0, .int 0, .int 0, .long 0, .int 0, .int 0])), (q_1, .inl (g.2.1 3, 6, .inr (.inr (.inr (.inr (fun _ => none))))))] H := hP
  have hD : va_D A [(t0, .inr (6, [.ref q_1, .null, .null, .null, .int 0, .null, .int 0, .int 0, .int 0, .int 0, .long 0, .int 0, .int 0])), (q_1, .inl (g.2.1 3, 6, .inr (.inr (.inr (.inr (fun _ => none))))))] := hD
  refine lv_aload_n hx hb dX5_init_13 rfl (lv_at hl 0 rfl) ?_
  refine va_new (ci := 5) (fs := [.null, .null, .int 0]) (C := RX4) (T := TX4) (N := 3) hx hb htg inG_X4 tyX4 tyX4_ok hown (htg _ k108) (htg _ k109) (htg _ k52) hK hP hD hS hA rfl (by decide) (Nat.le_of_ble_eq_true rfl) (Nat.le_of_ble_eq_true rfl) dX5_init_14 (fun q_2 H hP hD hS => ?_)
  have hP : va_P g.1 CLS [(t0, .inr (6, [.ref q_1, .null, .null, .null, .int 0, .null, .int 0, .int 0, .int 0, .int 0, .long 0, .int 0, .int 0])), (q_1, .inl (g.2.1 3, 6, .inr (.inr (.inr (.inr (fun _ => none)))))), (q_2, .inr (5, [.null, .null, .int 0]))] H := hP
  have hD : va_D A [(t0, .inr (6, [.ref q_1, .null, .null, .null, .int 0, .null, .int 0, .int 0, .int 0, .int 0, .long 0, .int 0, .int 0])), (q_1, .inl (g.2.1 3, 6, .inr (.inr (.inr (.inr (fun _ => none)))))), (q_2, .inr (5, [.null, .null, .int 0]))] := hD
  refine W.widen (k := 2) (n := 9) (Nat.le_of_ble_eq_true rfl) (Nat.le_of_ble_eq_true rfl) ?_
  refine lv_dup hx hb dX5_init_17 rfl ?_
  refine lv_aload_n hx hb dX5_init_18 rfl (lv_at hl 0 rfl) ?_
  refine va_get (D := g.1) (ci := 6) (v := .ref q_1) (C := RX5) (T := TX5) (N := 13) hx hb htg inG_X5 hown hK hP 0 rfl rfl 0 (by decide) (htg _ k247) (fun _ h9 => h9) rfl dX5_init_19 ?_
  have hPc := hP.sub (ws' := [(q_2, .inr (5, [.null, .null, .int 0]))]) [2] rfl
  have hDc := hD.sub (ws' := [(q_2, .inr (5, [.null, .null, .int 0]))]) [2] (by decide) rfl
  have hFc := va_free (wc := [(q_2, .inr (5, [.null, .null, .int 0]))]) hD hS hA [2] rfl
  refine q_cv (wr := [(t0, .inr (6, [.ref q_1, .null, .null, .null, .int 0, .null, .int 0, .int 0, .int 0, .int 0, .long 0, .int 0, .int 0])), (q_1, .inl (g.2.1 3, 6, .inr (.inr (.inr (.inr (fun _ => none))))))]) (va_runI (As := [.ref q_1]) (rest := [.ref q_2, .ref t0]) ⟨hx, hb, hml, hown, htg⟩ (c_X4_init l hfl g q_2 q_1  H.size) ⟨(qB htg k112 k52 k110 ok_X4_init rfl rfl ⟨Nat.le_of_ble_eq_true rfl, Nat.le_of_ble_eq_true rfl⟩), rfl, htg _ k111⟩ (q_pre [.ref q_2, .ref q_1] hPc hDc hK hS hT hFc) rfl rfl hl.1 rfl (lv_room (Nat.le_of_ble_eq_true rfl)) dX5_init_22 ⟨Nat.le_of_ble_eq_true rfl, Nat.le_of_ble_eq_true rfl⟩) hP hD hS hFc [2] [0, 1] rfl rfl (by decide) (by decide) (fun u9 H locs hw hP hD hS => ?_)
  try dsimp only at hw
  rcases hw with ⟨q_3, rfl⟩
  have hP : va_P g.1 CLS [(t0, .inr (6, [.ref q_1, .null, .null, .null, .int 0, .null, .int 0, .int 0, .int 0, .int 0, .long 0, .int 0, .int 0])), (q_1, .inl (g.2.1 3, 6, .inr (.inr (.inr (.inr (fun _ => none)))))), (q_2, .inr (5, [.ref q_1, .ref q_3, .int 0])), (q_3, .inl (g.2.1 4, 0, .inr (.inr (.inr (.inr (fun _ => none))))))] H := hP
  have hD : va_D A [(t0, .inr (6, [.ref q_1, .null, .null, .null, .int 0, .null, .int 0, .int 0, .int 0, .int 0, .long 0, .int 0, .int 0])), (q_1, .inl (g.2.1 3, 6, .inr (.inr (.inr (.inr (fun _ => none)))))), (q_2, .inr (5, [.ref q_1, .ref q_3, .int 0])), (q_3, .inl (g.2.1 4, 0, .inr (.inr (.inr (.inr (fun _ => none))))))] := hD
  refine W.widen (k := 3) (n := 9) (Nat.le_of_ble_eq_true rfl) (Nat.le_of_ble_eq_true rfl) ?_
  refine va_putF (D := g.1) (ci := 6) (v := .ref q_2) (ty := (.object "HeroTable$Sources")) (C := RX5) (T := TX5) (N := 13) hx hb htg inG_X5 tyX5 tyX5_ok nmX5 hown hK hP hD hS 0 rfl rfl 1 (by decide) (htg _ k249) (fun _ h9 => h9) rfl hin rfl (by decide +kernel) rfl rfl (Nat.le_of_ble_eq_true rfl) dX5_init_25 (fun H locs hP hD hS => ?_)
  have hP : va_P g.1 CLS [(t0, .inr (6, [.ref q_1, .ref q_2, .null, .null, .int 0, .null, .int 0, .int 0, .int 0, .int 0, .long 0, .int 0, .int 0])), (q_1, .inl (g.2.1 3, 6, .inr (.inr (.inr (.inr (fun _ => none)))))), (q_2, .inr (5, [.ref q_1, .ref q_3, .int 0])), (q_3, .inl (g.2.1 4, 0, .inr (.inr (.inr (.inr (fun _ => none))))))] H := hP
  have hD : va_D A [(t0, .inr (6, [.ref q_1, .ref q_2, .null, .null, .int 0, .null, .int 0, .int 0, .int 0, .int 0, .long 0, .int 0, .int 0])), (q_1, .inl (g.2.1 3, 6, .inr (.inr (.inr (.inr (fun _ => none)))))), (q_2, .inr (5, [.ref q_1, .ref q_3, .int 0])), (q_3, .inl (g.2.1 4, 0, .inr (.inr (.inr (.inr (fun _ => none))))))] := hD
  refine lv_aload_n hx hb dX5_init_28 rfl (lv_at hl 0 rfl) ?_
  refine va_new (ci := 3) (fs := [.null]) (C := RX1) (T := TX1) (N := 1) hx hb htg inG_X1 tyX1 tyX1_ok hown (htg _ k128) (htg _ k129) (htg _ k53) hK hP hD hS hA rfl (by decide) (Nat.le_of_ble_eq_true rfl) (Nat.le_of_ble_eq_true rfl) dX5_init_29 (fun q_4 H hP hD hS => ?_)
  have hP : va_P g.1 CLS [(t0, .inr (6, [.ref q_1, .ref q_2, .null, .null, .int 0, .null, .int 0, .int 0, .int 0, .int 0, .long 0, .int 0, .int 0])), (q_1, .inl (g.2.1 3, 6, .inr (.inr (.inr (.inr (fun _ => none)))))), (q_2, .inr (5, [.ref q_1, .ref q_3, .int 0])), (q_3, .inl (g.2.1 4, 0, .inr (.inr (.inr (.inr (fun _ => none)))))), (q_4, .inr (3, [.null]))] H := hP
  have hD : va_D A [(t0, .inr (6, [.ref q_1, .ref q_2, .null, .null, .int 0, .null, .int 0, .int 0, .int 0, .int 0, .long 0, .int 0, .int 0])), (q_1, .inl (g.2.1 3, 6, .inr (.inr (.inr (.inr (fun _ => none)))))), (q_2, .inr (5, [.ref q_1, .ref q_3, .int 0])), (q_3, .inl (g.2.1 4, 0, .inr (.inr (.inr (.inr (fun _ => none)))))), (q_4, .inr (3, [.null]))] := hD
  refine W.widen (k := 4) (n := 10) (Nat.le_of_ble_eq_true rfl) (Nat.le_of_ble_eq_true rfl) ?_
  refine lv_dup hx hb dX5_init_32 rfl ?_
  have hPc := hP.sub (ws' := [(q_4, .inr (3, [.null]))]) [4] rfl
  have hDc := hD.sub (ws' := [(q_4, .inr (3, [.null]))]) [4] (by decide) rfl
  have hFc := va_free (wc := [(q_4, .inr (3, [.null]))]) hD hS hA [4] rfl
  refine q_cv (wr := [(t0, .inr (6, [.ref q_1, .ref q_2, .null, .null, .int 0, .null, .int 0, .int 0, .int 0, .int 0, .long 0, .int 0, .int 0])), (q_1, .inl (g.2.1 3, 6, .inr (.inr (.inr (.inr (fun _ => none)))))), (q_2, .inr (5, [.ref q_1, .ref q_3, .int 0])), (q_3, .inl (g.2.1 4, 0, .inr (.inr (.inr (.inr (fun _ => none))))))]) (va_runIN (As := []) (rest := [.ref q_4, .ref t0]) ⟨hx, hb, hml, hown, htg⟩ (c_X1_init l hfl g q_4  H.size) ⟨(qN htg k132 k53 hT.1.1.1 ok_X1_init rfl rfl ⟨Nat.le_of_ble_eq_true rfl, Nat.le_of_ble_eq_true rfl⟩), rfl, htg _ k131⟩ (q_pre [.ref q_4] hPc hDc hK hS hT hFc) rfl rfl hl.1 rfl (lv_room (Nat.le_of_ble_eq_true rfl)) dX5_init_33 ⟨Nat.le_of_ble_eq_true rfl, Nat.le_of_ble_eq_true rfl⟩) hP hD hS hFc [4] [0, 1, 2, 3] rfl rfl (by decide) (by decide) (fun u9 H locs hw hP hD hS => ?_)
  try dsimp only at hw
  rcases hw with ⟨q_5, rfl⟩
  have hP : va_P g.1 CLS [(t0, .inr (6, [.ref q_1, .ref q_2, .null, .null, .int 0, .null, .int 0, .int 0, .int 0, .int 0, .long 0, .int 0, .int 0])), (q_1, .inl (g.2.1 3, 6, .inr (.inr (.inr (.inr (fun _ => none)))))), (q_2, .inr (5, [.ref q_1, .ref q_3, .int 0])), (q_3, .inl (g.2.1 4, 0, .inr (.inr (.inr (.inr (fun _ => none)))))), (q_4, .inr (3, [.ref q_5])), (q_5, .inl (g.2.1 0, 64, .inl (fun _ => 0)))] H := hP
  have hD : va_D A [(t0, .inr (6, [.ref q_1, .ref q_2, .null, .null, .int 0, .null, .int 0, .int 0, .int 0, .int 0, .long 0, .int 0, .int 0])), (q_1, .inl (g.2.1 3, 6, .inr (.inr (.inr (.inr (fun _ => none)))))), (q_2, .inr (5, [.ref q_1, .ref q_3, .int 0])), (q_3, .inl (g.2.1 4, 0, .inr (.inr (.inr (.inr (fun _ => none)))))), (q_4, .inr (3, [.ref q_5])), (q_5, .inl (g.2.1 0, 64, .inl (fun _ => 0)))] := hD
  refine W.widen (k := 5) (n := 74) (Nat.le_of_ble_eq_true rfl) (Nat.le_of_ble_eq_true rfl) ?_
  refine va_putF (D := g.1) (ci := 6) (v := .ref q_4) (ty := (.object "HeroTable$Ground")) (C := RX5) (T := TX5) (N := 13) hx hb htg inG_X5 tyX5 tyX5_ok nmX5 hown hK hP hD hS 0 rfl rfl 2 (by decide) (htg _ k251) (fun _ h9 => h9) rfl hin rfl (by decide +kernel) rfl rfl (Nat.le_of_ble_eq_true rfl) dX5_init_36 (fun H locs hP hD hS => ?_)
  have hP : va_P g.1 CLS [(t0, .inr (6, [.ref q_1, .ref q_2, .ref q_4, .null, .int 0, .null, .int 0, .int 0, .int 0, .int 0, .long 0, .int 0, .int 0])), (q_1, .inl (g.2.1 3, 6, .inr (.inr (.inr (.inr (fun _ => none)))))), (q_2, .inr (5, [.ref q_1, .ref q_3, .int 0])), (q_3, .inl (g.2.1 4, 0, .inr (.inr (.inr (.inr (fun _ => none)))))), (q_4, .inr (3, [.ref q_5])), (q_5, .inl (g.2.1 0, 64, .inl (fun _ => 0)))] H := hP
  have hD : va_D A [(t0, .inr (6, [.ref q_1, .ref q_2, .ref q_4, .null, .int 0, .null, .int 0, .int 0, .int 0, .int 0, .long 0, .int 0, .int 0])), (q_1, .inl (g.2.1 3, 6, .inr (.inr (.inr (.inr (fun _ => none)))))), (q_2, .inr (5, [.ref q_1, .ref q_3, .int 0])), (q_3, .inl (g.2.1 4, 0, .inr (.inr (.inr (.inr (fun _ => none)))))), (q_4, .inr (3, [.ref q_5])), (q_5, .inl (g.2.1 0, 64, .inl (fun _ => 0)))] := hD
  refine lv_aload_n hx hb dX5_init_39 rfl (lv_at hl 0 rfl) ?_
  refine va_new (ci := 2) (fs := [.null, .int 0, .int 0]) (C := RX0) (T := TX0) (N := 3) hx hb htg inG_X0 tyX0 tyX0_ok hown (htg _ k139) (htg _ k140) (htg _ k54) hK hP hD hS hA rfl (by decide) (Nat.le_of_ble_eq_true rfl) (Nat.le_of_ble_eq_true rfl) dX5_init_40 (fun q_6 H hP hD hS => ?_)
  have hP : va_P g.1 CLS [(t0, .inr (6, [.ref q_1, .ref q_2, .ref q_4, .null, .int 0, .null, .int 0, .int 0, .int 0, .int 0, .long 0, .int 0, .int 0])), (q_1, .inl (g.2.1 3, 6, .inr (.inr (.inr (.inr (fun _ => none)))))), (q_2, .inr (5, [.ref q_1, .ref q_3, .int 0])), (q_3, .inl (g.2.1 4, 0, .inr (.inr (.inr (.inr (fun _ => none)))))), (q_4, .inr (3, [.ref q_5])), (q_5, .inl (g.2.1 0, 64, .inl (fun _ => 0))), (q_6, .inr (2, [.null, .int 0, .int 0]))] H := hP
  have hD : va_D A [(t0, .inr (6, [.ref q_1, .ref q_2, .ref q_4, .null, .int 0, .null, .int 0, .int 0, .int 0, .int 0, .long 0, .int 0, .int 0])), (q_1, .inl (g.2.1 3, 6, .inr (.inr (.inr (.inr (fun _ => none)))))), (q_2, .inr (5, [.ref q_1, .ref q_3, .int 0])), (q_3, .inl (g.2.1 4, 0, .inr (.inr (.inr (.inr (fun _ => none)))))), (q_4, .inr (3, [.ref q_5])), (q_5, .inl (g.2.1 0, 64, .inl (fun _ => 0))), (q_6, .inr (2, [.null, .int 0, .int 0]))] := hD
  refine W.widen (k := 6) (n := 77) (Nat.le_of_ble_eq_true rfl) (Nat.le_of_ble_eq_true rfl) ?_
  refine lv_dup hx hb dX5_init_43 rfl ?_
  have hPc := hP.sub (ws' := [(q_6, .inr (2, [.null, .int 0, .int 0]))]) [6] rfl
  have hDc := hD.sub (ws' := [(q_6, .inr (2, [.null, .int 0, .int 0]))]) [6] (by decide) rfl
  have hFc := va_free (wc := [(q_6, .inr (2, [.null, .int 0, .int 0]))]) hD hS hA [6] rfl
  refine q_cv (wr := [(t0, .inr (6, [.ref q_1, .ref q_2, .ref q_4, .null, .int 0, .null, .int 0, .int 0, .int 0, .int 0, .long 0, .int 0, .int 0])), (q_1, .inl (g.2.1 3, 6, .inr (.inr (.inr (.inr (fun _ => none)))))), (q_2, .inr (5, [.ref q_1, .ref q_3, .int 0])), (q_3, .inl (g.2.1 4, 0, .inr (.inr (.inr (.inr (fun _ => none)))))), (q_4, .inr (3, [.ref q_5])), (q_5, .inl (g.2.1 0, 64, .inl (fun _ => 0)))]) (va_runIN (As := []) (rest := [.ref q_6, .ref t0]) ⟨hx, hb, hml, hown, htg⟩ (c_X0_init l hfl g q_6  H.size) ⟨(qN htg k143 k54 hT.1.1.2.1 ok_X0_init rfl rfl ⟨Nat.le_of_ble_eq_true rfl, Nat.le_of_ble_eq_true rfl⟩), rfl, htg _ k142⟩ (q_pre [.ref q_6] hPc hDc hK hS hT hFc) rfl rfl hl.1 rfl (lv_room (Nat.le_of_ble_eq_true rfl)) dX5_init_44 ⟨Nat.le_of_ble_eq_true rfl, Nat.le_of_ble_eq_true rfl⟩) hP hD hS hFc [6] [0, 1, 2, 3, 4, 5] rfl rfl (by decide) (by decide) (fun u9 H locs hw hP hD hS => ?_)
  try dsimp only at hw
  rcases hw with ⟨q_7, rfl⟩
  have hP : va_P g.1 CLS [(t0, .inr (6, [.ref q_1, .ref q_2, .ref q_4, .null, .int 0, .null, .int 0, .int 0, .int 0, .int 0, .long 0, .int 0, .int 0])), (q_1, .inl (g.2.1 3, 6, .inr (.inr (.inr (.inr (fun _ => none)))))), (q_2, .inr (5, [.ref q_1, .ref q_3, .int 0])), (q_3, .inl (g.2.1 4, 0, .inr (.inr (.inr (.inr (fun _ => none)))))), (q_4, .inr (3, [.ref q_5])), (q_5, .inl (g.2.1 0, 64, .inl (fun _ => 0))), (q_6, .inr (2, [.ref q_7, .int 0, .int 0])), (q_7, .inl (g.2.1 1, 16, .inl (fun _ => 0)))] H := hP
  have hD : va_D A [(t0, .inr (6, [.ref q_1, .ref q_2, .ref q_4, .null, .int 0, .null, .int 0, .int 0, .int 0, .int 0, .long 0, .int 0, .int 0])), (q_1, .inl (g.2.1 3, 6, .inr (.inr (.inr (.inr (fun _ => none)))))), (q_2, .inr (5, [.ref q_1, .ref q_3, .int 0])), (q_3, .inl (g.2.1 4, 0, .inr (.inr (.inr (.inr (fun _ => none)))))), (q_4, .inr (3, [.ref q_5])), (q_5, .inl (g.2.1 0, 64, .inl (fun _ => 0))), (q_6, .inr (2, [.ref q_7, .int 0, .int 0])), (q_7, .inl (g.2.1 1, 16, .inl (fun _ => 0)))] := hD
  refine W.widen (k := 7) (n := 93) (Nat.le_of_ble_eq_true rfl) (Nat.le_of_ble_eq_true rfl) ?_
  refine va_putF (D := g.1) (ci := 6) (v := .ref q_6) (ty := (.object "HeroTable$Dice")) (C := RX5) (T := TX5) (N := 13) hx hb htg inG_X5 tyX5 tyX5_ok nmX5 hown hK hP hD hS 0 rfl rfl 3 (by decide) (htg _ k252) (fun _ h9 => h9) rfl hin rfl (by decide +kernel) rfl rfl (Nat.le_of_ble_eq_true rfl) dX5_init_47 (fun H locs hP hD hS => ?_)
  have hP : va_P g.1 CLS [(t0, .inr (6, [.ref q_1, .ref q_2, .ref q_4, .ref q_6, .int 0, .null, .int 0, .int 0, .int 0, .int 0, .long 0, .int 0, .int 0])), (q_1, .inl (g.2.1 3, 6, .inr (.inr (.inr (.inr (fun _ => none)))))), (q_2, .inr (5, [.ref q_1, .ref q_3, .int 0])), (q_3, .inl (g.2.1 4, 0, .inr (.inr (.inr (.inr (fun _ => none)))))), (q_4, .inr (3, [.ref q_5])), (q_5, .inl (g.2.1 0, 64, .inl (fun _ => 0))), (q_6, .inr (2, [.ref q_7, .int 0, .int 0])), (q_7, .inl (g.2.1 1, 16, .inl (fun _ => 0)))] H := hP
  have hD : va_D A [(t0, .inr (6, [.ref q_1, .ref q_2, .ref q_4, .ref q_6, .int 0, .null, .int 0, .int 0, .int 0, .int 0, .long 0, .int 0, .int 0])), (q_1, .inl (g.2.1 3, 6, .inr (.inr (.inr (.inr (fun _ => none)))))), (q_2, .inr (5, [.ref q_1, .ref q_3, .int 0])), (q_3, .inl (g.2.1 4, 0, .inr (.inr (.inr (.inr (fun _ => none)))))), (q_4, .inr (3, [.ref q_5])), (q_5, .inl (g.2.1 0, 64, .inl (fun _ => 0))), (q_6, .inr (2, [.ref q_7, .int 0, .int 0])), (q_7, .inl (g.2.1 1, 16, .inl (fun _ => 0)))] := hD
  refine lv_aload_n hx hb dX5_init_50 rfl (lv_at hl 0 rfl) ?_
  refine lv_bipush (v := 6) hx hb dX5_init_51 (by decide) ?_
  refine va_newa (atype := .int) (ty := .int) (a0 := (6, .inl (fun _ => 0))) (N' := 6) hx hb (htg _ k156) rfl hK hP hD hS hA (fun _ => rfl) (by decide) (by decide) (by decide) (Nat.le_of_ble_eq_true rfl) (Nat.le_of_ble_eq_true rfl) dX5_init_53 (fun q_8 cA H hK9 hP hD hS => ?_)
  obtain rfl := q_arr hK9 (t0 := 1) rfl (by decide)
  clear hK9
  have hP : va_P g.1 CLS [(t0, .inr (6, [.ref q_1, .ref q_2, .ref q_4, .ref q_6, .int 0, .null, .int 0, .int 0, .int 0, .int 0, .long 0, .int 0, .int 0])), (q_1, .inl (g.2.1 3, 6, .inr (.inr (.inr (.inr (fun _ => none)))))), (q_2, .inr (5, [.ref q_1, .ref q_3, .int 0])), (q_3, .inl (g.2.1 4, 0, .inr (.inr (.inr (.inr (fun _ => none)))))), (q_4, .inr (3, [.ref q_5])), (q_5, .inl (g.2.1 0, 64, .inl (fun _ => 0))), (q_6, .inr (2, [.ref q_7, .int 0, .int 0])), (q_7, .inl (g.2.1 1, 16, .inl (fun _ => 0))), (q_8, .inl (g.2.1 1, 6, .inl (fun _ => 0)))] H := hP
  have hD : va_D A [(t0, .inr (6, [.ref q_1, .ref q_2, .ref q_4, .ref q_6, .int 0, .null, .int 0, .int 0, .int 0, .int 0, .long 0, .int 0, .int 0])), (q_1, .inl (g.2.1 3, 6, .inr (.inr (.inr (.inr (fun _ => none)))))), (q_2, .inr (5, [.ref q_1, .ref q_3, .int 0])), (q_3, .inl (g.2.1 4, 0, .inr (.inr (.inr (.inr (fun _ => none)))))), (q_4, .inr (3, [.ref q_5])), (q_5, .inl (g.2.1 0, 64, .inl (fun _ => 0))), (q_6, .inr (2, [.ref q_7, .int 0, .int 0])), (q_7, .inl (g.2.1 1, 16, .inl (fun _ => 0))), (q_8, .inl (g.2.1 1, 6, .inl (fun _ => 0)))] := hD
  refine W.widen (k := 8) (n := 99) (Nat.le_of_ble_eq_true rfl) (Nat.le_of_ble_eq_true rfl) ?_
  refine va_putF (D := g.1) (ci := 6) (v := .ref q_8) (ty := (.array .int)) (C := RX5) (T := TX5) (N := 13) hx hb htg inG_X5 tyX5 tyX5_ok nmX5 hown hK hP hD hS 0 rfl rfl 5 (by decide) (htg _ k256) (fun _ h9 => h9) rfl hin rfl (by decide +kernel) rfl rfl (Nat.le_of_ble_eq_true rfl) dX5_init_55 (fun H locs hP hD hS => ?_)
  have hP : va_P g.1 CLS [(t0, .inr (6, [.ref q_1, .ref q_2, .ref q_4, .ref q_6, .int 0, .ref q_8, .int 0, .int 0, .int 0, .int 0, .long 0, .int 0, .int 0])), (q_1, .inl (g.2.1 3, 6, .inr (.inr (.inr (.inr (fun _ => none)))))), (q_2, .inr (5, [.ref q_1, .ref q_3, .int 0])), (q_3, .inl (g.2.1 4, 0, .inr (.inr (.inr (.inr (fun _ => none)))))), (q_4, .inr (3, [.ref q_5])), (q_5, .inl (g.2.1 0, 64, .inl (fun _ => 0))), (q_6, .inr (2, [.ref q_7, .int 0, .int 0])), (q_7, .inl (g.2.1 1, 16, .inl (fun _ => 0))), (q_8, .inl (g.2.1 1, 6, .inl (fun _ => 0)))] H := hP
  have hD : va_D A [(t0, .inr (6, [.ref q_1, .ref q_2, .ref q_4, .ref q_6, .int 0, .ref q_8, .int 0, .int 0, .int 0, .int 0, .long 0, .int 0, .int 0])), (q_1, .inl (g.2.1 3, 6, .inr (.inr (.inr (.inr (fun _ => none)))))), (q_2, .inr (5, [.ref q_1, .ref q_3, .int 0])), (q_3, .inl (g.2.1 4, 0, .inr (.inr (.inr (.inr (fun _ => none)))))), (q_4, .inr (3, [.ref q_5])), (q_5, .inl (g.2.1 0, 64, .inl (fun _ => 0))), (q_6, .inr (2, [.ref q_7, .int 0, .int 0])), (q_7, .inl (g.2.1 1, 16, .inl (fun _ => 0))), (q_8, .inl (g.2.1 1, 6, .inl (fun _ => 0)))] := hD
  refine lv_iconst (v := 0) hx hb dX5_init_58 (by decide) ?_
  refine lv_istore_n (lv' := [(1, .int 0), (0, .ref t0)]) hx hb dX5_init_59 rfl hl (by decide) rfl (fun ls hl => ?_)
  refine lv_iload_n hx hb dX5_init_60 rfl (lv_at hl 0 rfl) ?_
  refine lv_bipush (v := 6) hx hb dX5_init_61 (by decide) ?_
  refine lv_icmp_ge (tgt := 85) hx hb dX5_init_63 (by decide) (fun c_9 => absurd c_9 (by decide)) (fun c_9 => ?_)
  refine lv_aload_n hx hb dX5_init_66 rfl (lv_at hl 1 rfl) ?_
  refine va_get (D := g.1) (ci := 6) (v := .ref q_1) (C := RX5) (T := TX5) (N := 13) hx hb htg inG_X5 hown hK hP 0 rfl rfl 0 (by decide) (htg _ k247) (fun _ h9 => h9) rfl dX5_init_67 ?_
  refine lv_iload_n hx hb dX5_init_70 rfl (lv_at hl 0 rfl) ?_
  refine va_new (ci := 4) (fs := [.int 0, .int 0, .int 0, .int 0, .int 0, .int 0, .int 0, .int 0, .int 0, .int 0, .int 0, .int 0, .null, .null, .null, .null, .null]) (C := RX2) (T := TX2) (N := 17) hx hb htg inG_X2 tyX2 tyX2_ok hown (htg _ k106) (htg _ k157) (htg _ k55) hK hP hD hS hA rfl (by decide) (Nat.le_of_ble_eq_true rfl) (Nat.le_of_ble_eq_true rfl) dX5_init_71 (fun q_10 H hP hD hS => ?_)
  have hP : va_P g.1 CLS [(t0, .inr (6, [.ref q_1, .ref q_2, .ref q_4, .ref q_6, .int 0, .ref q_8, .int 0, .int 0, .int 0, .int 0, .long 0, .int 0, .int 0])), (q_1, .inl (g.2.1 3, 6, .inr (.inr (.inr (.inr (fun _ => none)))))), (q_2, .inr (5, [.ref q_1, .ref q_3, .int 0])), (q_3, .inl (g.2.1 4, 0, .inr (.inr (.inr (.inr (fun _ => none)))))), (q_4, .inr (3, [.ref q_5])), (q_5, .inl (g.2.1 0, 64, .inl (fun _ => 0))), (q_6, .inr (2, [.ref q_7, .int 0, .int 0])), (q_7, .inl (g.2.1 1, 16, .inl (fun _ => 0))), (q_8, .inl (g.2.1 1, 6, .inl (fun _ => 0))), (q_10, .inr (4, [.int 0, .int 0, .int 0, .int 0, .int 0, .int 0, .int 0, .int 0, .int 0, .int 0, .int 0, .int 0, .null, .null, .null, .null, .null]))] H := hP
  have hD : va_D A [(t0, .inr (6, [.ref q_1, .ref q_2, .ref q_4, .ref q_6, .int 0, .ref q_8, .int 0, .int 0, .int 0, .int 0, .long 0, .int 0, .int 0])), (q_1, .inl (g.2.1 3, 6, .inr (.inr (.inr (.inr (fun _ => none)))))), (q_2, .inr (5, [.ref q_1, .ref q_3, .int 0])), (q_3, .inl (g.2.1 4, 0, .inr (.inr (.inr (.inr (fun _ => none)))))), (q_4, .inr (3, [.ref q_5])), (q_5, .inl (g.2.1 0, 64, .inl (fun _ => 0))), (q_6, .inr (2, [.ref q_7, .int 0, .int 0])), (q_7, .inl (g.2.1 1, 16, .inl (fun _ => 0))), (q_8, .inl (g.2.1 1, 6, .inl (fun _ => 0))), (q_10, .inr (4, [.int 0, .int 0, .int 0, .int 0, .int 0, .int 0, .int 0, .int 0, .int 0, .int 0, .int 0, .int 0, .null, .null, .null, .null, .null]))] := hD
  refine W.widen (k := 9) (n := 116) (Nat.le_of_ble_eq_true rfl) (Nat.le_of_ble_eq_true rfl) ?_
  refine lv_dup hx hb dX5_init_74 rfl ?_
  have hPc := hP.sub (ws' := [(q_10, .inr (4, [.int 0, .int 0, .int 0, .int 0, .int 0, .int 0, .int 0, .int 0, .int 0, .int 0, .int 0, .int 0, .null, .null, .null, .null, .null]))]) [9] rfl
  have hDc := hD.sub (ws' := [(q_10, .inr (4, [.int 0, .int 0, .int 0, .int 0, .int 0, .int 0, .int 0, .int 0, .int 0, .int 0, .int 0, .int 0, .null, .null, .null, .null, .null]))]) [9] (by decide) rfl
  have hFc := va_free (wc := [(q_10, .inr (4, [.int 0, .int 0, .int 0, .int 0, .int 0, .int 0, .int 0, .int 0, .int 0, .int 0, .int 0, .int 0, .null, .null, .null, .null, .null]))]) hD hS hA [9] rfl
  refine q_cv (wr := [(t0, .inr (6, [.ref q_1, .ref q_2, .ref q_4, .ref q_6, .int 0, .ref q_8, .int 0, .int 0, .int 0, .int 0, .long 0, .int 0, .int 0])), (q_1, .inl (g.2.1 3, 6, .inr (.inr (.inr (.inr (fun _ => none)))))), (q_2, .inr (5, [.ref q_1, .ref q_3, .int 0])), (q_3, .inl (g.2.1 4, 0, .inr (.inr (.inr (.inr (fun _ => none)))))), (q_4, .inr (3, [.ref q_5])), (q_5, .inl (g.2.1 0, 64, .inl (fun _ => 0))), (q_6, .inr (2, [.ref q_7, .int 0, .int 0])), (q_7, .inl (g.2.1 1, 16, .inl (fun _ => 0))), (q_8, .inl (g.2.1 1, 6, .inl (fun _ => 0)))]) (va_runIN (As := []) (rest := [.ref q_10, .int 0, .ref q_1]) ⟨hx, hb, hml, hown, htg⟩ (c_X2_init l hfl g q_10  H.size) ⟨(qN htg k160 k55 hT.1.1.2.2.1 ok_X2_init rfl rfl ⟨Nat.le_of_ble_eq_true rfl, Nat.le_of_ble_eq_true rfl⟩), rfl, htg _ k159⟩ (q_pre [.ref q_10] hPc hDc hK hS hT hFc) rfl rfl hl.1 rfl (lv_room (Nat.le_of_ble_eq_true rfl)) dX5_init_75 ⟨Nat.le_of_ble_eq_true rfl, Nat.le_of_ble_eq_true rfl⟩) hP hD hS hFc [9] [0, 1, 2, 3, 4, 5, 6, 7, 8] rfl rfl (by decide) (by decide) (fun u9 H locs hw hP hD hS => ?_)
  try dsimp only at hw
  rcases hw with ⟨q_11, q_12, q_13, q_14, q_15, rfl⟩
  have hP : va_P g.1 CLS [(t0, .inr (6, [.ref q_1, .ref q_2, .ref q_4, .ref q_6, .int 0, .ref q_8, .int 0, .int 0, .int 0, .int 0, .long 0, .int 0, .int 0])), (q_1, .inl (g.2.1 3, 6, .inr (.inr (.inr (.inr (fun _ => none)))))), (q_2, .inr (5, [.ref q_1, .ref q_3, .int 0])), (q_3, .inl (g.2.1 4, 0, .inr (.inr (.inr (.inr (fun _ => none)))))), (q_4, .inr (3, [.ref q_5])), (q_5, .inl (g.2.1 0, 64, .inl (fun _ => 0))), (q_6, .inr (2, [.ref q_7, .int 0, .int 0])), (q_7, .inl (g.2.1 1, 16, .inl (fun _ => 0))), (q_8, .inl (g.2.1 1, 6, .inl (fun _ => 0))), (q_10, .inr (4, [.int 0, .int 0, .int 0, .int 0, .int 0, .int 0, .int 0, .int 0, .int 0, .int 0, .int 0, .int 0, .ref q_11, .ref q_12, .ref q_13, .ref q_14, .ref q_15])), (q_11, .inl (g.2.1 1, 5, .inl (fun _ => 0))), (q_12, .inl (g.2.1 1, 5, .inl (fun _ => 0))), (q_13, .inl (g.2.1 2, 5, .inl (fun _ => 0))), (q_14, .inl (g.2.1 1, 6, .inl (fun _ => 0))), (q_15, .inl (g.2.1 2, 6, .inl (fun _ => 0)))] H := hP
  have hD : va_D A [(t0, .inr (6, [.ref q_1, .ref q_2, .ref q_4, .ref q_6, .int 0, .ref q_8, .int 0, .int 0, .int 0, .int 0, .long 0, .int 0, .int 0])), (q_1, .inl (g.2.1 3, 6, .inr (.inr (.inr (.inr (fun _ => none)))))), (q_2, .inr (5, [.ref q_1, .ref q_3, .int 0])), (q_3, .inl (g.2.1 4, 0, .inr (.inr (.inr (.inr (fun _ => none)))))), (q_4, .inr (3, [.ref q_5])), (q_5, .inl (g.2.1 0, 64, .inl (fun _ => 0))), (q_6, .inr (2, [.ref q_7, .int 0, .int 0])), (q_7, .inl (g.2.1 1, 16, .inl (fun _ => 0))), (q_8, .inl (g.2.1 1, 6, .inl (fun _ => 0))), (q_10, .inr (4, [.int 0, .int 0, .int 0, .int 0, .int 0, .int 0, .int 0, .int 0, .int 0, .int 0, .int 0, .int 0, .ref q_11, .ref q_12, .ref q_13, .ref q_14, .ref q_15])), (q_11, .inl (g.2.1 1, 5, .inl (fun _ => 0))), (q_12, .inl (g.2.1 1, 5, .inl (fun _ => 0))), (q_13, .inl (g.2.1 2, 5, .inl (fun _ => 0))), (q_14, .inl (g.2.1 1, 6, .inl (fun _ => 0))), (q_15, .inl (g.2.1 2, 6, .inl (fun _ => 0)))] := hD
  refine W.widen (k := 14) (n := 143) (Nat.le_of_ble_eq_true rfl) (Nat.le_of_ble_eq_true rfl) ?_
  refine va_astq hx hb hK hP hD hS 1 3 9 4 rfl rfl rfl rfl (i := 0) (vp_in_iff.mpr (by decide)) dX5_init_78 (fun H locs hP hD hS => ?_)
  have hP : va_P g.1 CLS [(t0, .inr (6, [.ref q_1, .ref q_2, .ref q_4, .ref q_6, .int 0, .ref q_8, .int 0, .int 0, .int 0, .int 0, .long 0, .int 0, .int 0])), (q_1, .inl (g.2.1 3, 6, .inr (.inr (.inr (.inr (va_up (fun _ => none) 0 (some q_10))))))), (q_2, .inr (5, [.ref q_1, .ref q_3, .int 0])), (q_3, .inl (g.2.1 4, 0, .inr (.inr (.inr (.inr (fun _ => none)))))), (q_4, .inr (3, [.ref q_5])), (q_5, .inl (g.2.1 0, 64, .inl (fun _ => 0))), (q_6, .inr (2, [.ref q_7, .int 0, .int 0])), (q_7, .inl (g.2.1 1, 16, .inl (fun _ => 0))), (q_8, .inl (g.2.1 1, 6, .inl (fun _ => 0))), (q_10, .inr (4, [.int 0, .int 0, .int 0, .int 0, .int 0, .int 0, .int 0, .int 0, .int 0, .int 0, .int 0, .int 0, .ref q_11, .ref q_12, .ref q_13, .ref q_14, .ref q_15])), (q_11, .inl (g.2.1 1, 5, .inl (fun _ => 0))), (q_12, .inl (g.2.1 1, 5, .inl (fun _ => 0))), (q_13, .inl (g.2.1 2, 5, .inl (fun _ => 0))), (q_14, .inl (g.2.1 1, 6, .inl (fun _ => 0))), (q_15, .inl (g.2.1 2, 6, .inl (fun _ => 0)))] H := hP
  have hD : va_D A [(t0, .inr (6, [.ref q_1, .ref q_2, .ref q_4, .ref q_6, .int 0, .ref q_8, .int 0, .int 0, .int 0, .int 0, .long 0, .int 0, .int 0])), (q_1, .inl (g.2.1 3, 6, .inr (.inr (.inr (.inr (va_up (fun _ => none) 0 (some q_10))))))), (q_2, .inr (5, [.ref q_1, .ref q_3, .int 0])), (q_3, .inl (g.2.1 4, 0, .inr (.inr (.inr (.inr (fun _ => none)))))), (q_4, .inr (3, [.ref q_5])), (q_5, .inl (g.2.1 0, 64, .inl (fun _ => 0))), (q_6, .inr (2, [.ref q_7, .int 0, .int 0])), (q_7, .inl (g.2.1 1, 16, .inl (fun _ => 0))), (q_8, .inl (g.2.1 1, 6, .inl (fun _ => 0))), (q_10, .inr (4, [.int 0, .int 0, .int 0, .int 0, .int 0, .int 0, .int 0, .int 0, .int 0, .int 0, .int 0, .int 0, .ref q_11, .ref q_12, .ref q_13, .ref q_14, .ref q_15])), (q_11, .inl (g.2.1 1, 5, .inl (fun _ => 0))), (q_12, .inl (g.2.1 1, 5, .inl (fun _ => 0))), (q_13, .inl (g.2.1 2, 5, .inl (fun _ => 0))), (q_14, .inl (g.2.1 1, 6, .inl (fun _ => 0))), (q_15, .inl (g.2.1 2, 6, .inl (fun _ => 0)))] := hD
  refine lv_iinc (v := 1) (lv' := [(1, .int 1), (0, .ref t0)]) hx hb dX5_init_79 hl (k := 0) rfl (by decide) (by decide) rfl (fun ls hl => ?_)
  refine lv_goto (tgt := 60) hx hb dX5_init_82 (by decide) ?_
  refine lv_iload_n hx hb dX5_init_60 rfl (lv_at hl 0 rfl) ?_
  refine lv_bipush (v := 6) hx hb dX5_init_61 (by decide) ?_
  refine lv_icmp_ge (tgt := 85) hx hb dX5_init_63 (by decide) (fun c_16 => absurd c_16 (by decide)) (fun c_16 => ?_)
  refine lv_aload_n hx hb dX5_init_66 rfl (lv_at hl 1 rfl) ?_
  refine va_get (D := g.1) (ci := 6) (v := .ref q_1) (C := RX5) (T := TX5) (N := 13) hx hb htg inG_X5 hown hK hP 0 rfl rfl 0 (by decide) (htg _ k247) (fun _ h9 => h9) rfl dX5_init_67 ?_
  refine lv_iload_n hx hb dX5_init_70 rfl (lv_at hl 0 rfl) ?_
  refine va_new (ci := 4) (fs := [.int 0, .int 0, .int 0, .int 0, .int 0, .int 0, .int 0, .int 0, .int 0, .int 0, .int 0, .int 0, .null, .null, .null, .null, .null]) (C := RX2) (T := TX2) (N := 17) hx hb htg inG_X2 tyX2 tyX2_ok hown (htg _ k106) (htg _ k157) (htg _ k55) hK hP hD hS hA rfl (by decide) (Nat.le_of_ble_eq_true rfl) (Nat.le_of_ble_eq_true rfl) dX5_init_71 (fun q_17 H hP hD hS => ?_)
  have hP : va_P g.1 CLS [(t0, .inr (6, [.ref q_1, .ref q_2, .ref q_4, .ref q_6, .int 0, .ref q_8, .int 0, .int 0, .int 0, .int 0, .long 0, .int 0, .int 0])), (q_1, .inl (g.2.1 3, 6, .inr (.inr (.inr (.inr (va_up (fun _ => none) 0 (some q_10))))))), (q_2, .inr (5, [.ref q_1, .ref q_3, .int 0])), (q_3, .inl (g.2.1 4, 0, .inr (.inr (.inr (.inr (fun _ => none)))))), (q_4, .inr (3, [.ref q_5])), (q_5, .inl (g.2.1 0, 64, .inl (fun _ => 0))), (q_6, .inr (2, [.ref q_7, .int 0, .int 0])), (q_7, .inl (g.2.1 1, 16, .inl (fun _ => 0))), (q_8, .inl (g.2.1 1, 6, .inl (fun _ => 0))), (q_10, .inr (4, [.int 0, .int 0, .int 0, .int 0, .int 0, .int 0, .int 0, .int 0, .int 0, .int 0, .int 0, .int 0, .ref q_11, .ref q_12, .ref q_13, .ref q_14, .ref q_15])), (q_11, .inl (g.2.1 1, 5, .inl (fun _ => 0))), (q_12, .inl (g.2.1 1, 5, .inl (fun _ => 0))), (q_13, .inl (g.2.1 2, 5, .inl (fun _ => 0))), (q_14, .inl (g.2.1 1, 6, .inl (fun _ => 0))), (q_15, .inl (g.2.1 2, 6, .inl (fun _ => 0))), (q_17, .inr (4, [.int 0, .int 0, .int 0, .int 0, .int 0, .int 0, .int 0, .int 0, .int 0, .int 0, .int 0, .int 0, .null, .null, .null, .null, .null]))] H := hP
  have hD : va_D A [(t0, .inr (6, [.ref q_1, .ref q_2, .ref q_4, .ref q_6, .int 0, .ref q_8, .int 0, .int 0, .int 0, .int 0, .long 0, .int 0, .int 0])), (q_1, .inl (g.2.1 3, 6, .inr (.inr (.inr (.inr (va_up (fun _ => none) 0 (some q_10))))))), (q_2, .inr (5, [.ref q_1, .ref q_3, .int 0])), (q_3, .inl (g.2.1 4, 0, .inr (.inr (.inr (.inr (fun _ => none)))))), (q_4, .inr (3, [.ref q_5])), (q_5, .inl (g.2.1 0, 64, .inl (fun _ => 0))), (q_6, .inr (2, [.ref q_7, .int 0, .int 0])), (q_7, .inl (g.2.1 1, 16, .inl (fun _ => 0))), (q_8, .inl (g.2.1 1, 6, .inl (fun _ => 0))), (q_10, .inr (4, [.int 0, .int 0, .int 0, .int 0, .int 0, .int 0, .int 0, .int 0, .int 0, .int 0, .int 0, .int 0, .ref q_11, .ref q_12, .ref q_13, .ref q_14, .ref q_15])), (q_11, .inl (g.2.1 1, 5, .inl (fun _ => 0))), (q_12, .inl (g.2.1 1, 5, .inl (fun _ => 0))), (q_13, .inl (g.2.1 2, 5, .inl (fun _ => 0))), (q_14, .inl (g.2.1 1, 6, .inl (fun _ => 0))), (q_15, .inl (g.2.1 2, 6, .inl (fun _ => 0))), (q_17, .inr (4, [.int 0, .int 0, .int 0, .int 0, .int 0, .int 0, .int 0, .int 0, .int 0, .int 0, .int 0, .int 0, .null, .null, .null, .null, .null]))] := hD
  refine W.widen (k := 15) (n := 160) (Nat.le_of_ble_eq_true rfl) (Nat.le_of_ble_eq_true rfl) ?_
  refine lv_dup hx hb dX5_init_74 rfl ?_
  have hPc := hP.sub (ws' := [(q_17, .inr (4, [.int 0, .int 0, .int 0, .int 0, .int 0, .int 0, .int 0, .int 0, .int 0, .int 0, .int 0, .int 0, .null, .null, .null, .null, .null]))]) [15] rfl
  have hDc := hD.sub (ws' := [(q_17, .inr (4, [.int 0, .int 0, .int 0, .int 0, .int 0, .int 0, .int 0, .int 0, .int 0, .int 0, .int 0, .int 0, .null, .null, .null, .null, .null]))]) [15] (by decide) rfl
  have hFc := va_free (wc := [(q_17, .inr (4, [.int 0, .int 0, .int 0, .int 0, .int 0, .int 0, .int 0, .int 0, .int 0, .int 0, .int 0, .int 0, .null, .null, .null, .null, .null]))]) hD hS hA [15] rfl
  refine q_cv (wr := [(t0, .inr (6, [.ref q_1, .ref q_2, .ref q_4, .ref q_6, .int 0, .ref q_8, .int 0, .int 0, .int 0, .int 0, .long 0, .int 0, .int 0])), (q_1, .inl (g.2.1 3, 6, .inr (.inr (.inr (.inr (va_up (fun _ => none) 0 (some q_10))))))), (q_2, .inr (5, [.ref q_1, .ref q_3, .int 0])), (q_3, .inl (g.2.1 4, 0, .inr (.inr (.inr (.inr (fun _ => none)))))), (q_4, .inr (3, [.ref q_5])), (q_5, .inl (g.2.1 0, 64, .inl (fun _ => 0))), (q_6, .inr (2, [.ref q_7, .int 0, .int 0])), (q_7, .inl (g.2.1 1, 16, .inl (fun _ => 0))), (q_8, .inl (g.2.1 1, 6, .inl (fun _ => 0))), (q_10, .inr (4, [.int 0, .int 0, .int 0, .int 0, .int 0, .int 0, .int 0, .int 0, .int 0, .int 0, .int 0, .int 0, .ref q_11, .ref q_12, .ref q_13, .ref q_14, .ref q_15])), (q_11, .inl (g.2.1 1, 5, .inl (fun _ => 0))), (q_12, .inl (g.2.1 1, 5, .inl (fun _ => 0))), (q_13, .inl (g.2.1 2, 5, .inl (fun _ => 0))), (q_14, .inl (g.2.1 1, 6, .inl (fun _ => 0))), (q_15, .inl (g.2.1 2, 6, .inl (fun _ => 0)))]) (va_runIN (As := []) (rest := [.ref q_17, .int 1, .ref q_1]) ⟨hx, hb, hml, hown, htg⟩ (c_X2_init l hfl g q_17  H.size) ⟨(qN htg k160 k55 hT.1.1.2.2.1 ok_X2_init rfl rfl ⟨Nat.le_of_ble_eq_true rfl, Nat.le_of_ble_eq_true rfl⟩), rfl, htg _ k159⟩ (q_pre [.ref q_17] hPc hDc hK hS hT hFc) rfl rfl hl.1 rfl (lv_room (Nat.le_of_ble_eq_true rfl)) dX5_init_75 ⟨Nat.le_of_ble_eq_true rfl, Nat.le_of_ble_eq_true rfl⟩) hP hD hS hFc [15] [0, 1, 2, 3, 4, 5, 6, 7, 8, 9, 10, 11, 12, 13, 14] rfl rfl (by decide) (by decide) (fun u9 H locs hw hP hD hS => ?_)
  try dsimp only at hw
  rcases hw with ⟨q_18, q_19, q_20, q_21, q_22, rfl⟩
  have hP : va_P g.1 CLS [(t0, .inr (6, [.ref q_1, .ref q_2, .ref q_4, .ref q_6, .int 0, .ref q_8, .int 0, .int 0, .int 0, .int 0, .long 0, .int 0, .int 0])), (q_1, .inl (g.2.1 3, 6, .inr (.inr (.inr (.inr (va_up (fun _ => none) 0 (some q_10))))))), (q_2, .inr (5, [.ref q_1, .ref q_3, .int 0])), (q_3, .inl (g.2.1 4, 0, .inr (.inr (.inr (.inr (fun _ => none)))))), (q_4, .inr (3, [.ref q_5])), (q_5, .inl (g.2.1 0, 64, .inl (fun _ => 0))), (q_6, .inr (2, [.ref q_7, .int 0, .int 0])), (q_7, .inl (g.2.1 1, 16, .inl (fun _ => 0))), (q_8, .inl (g.2.1 1, 6, .inl (fun _ => 0))), (q_10, .inr (4, [.int 0, .int 0, .int 0, .int 0, .int 0, .int 0, .int 0, .int 0, .int 0, .int 0, .int 0, .int 0, .ref q_11, .ref q_12, .ref q_13, .ref q_14, .ref q_15])), (q_11, .inl (g.2.1 1, 5, .inl (fun _ => 0))), (q_12, .inl (g.2.1 1, 5, .inl (fun _ => 0))), (q_13, .inl (g.2.1 2, 5, .inl (fun _ => 0))), (q_14, .inl (g.2.1 1, 6, .inl (fun _ => 0))), (q_15, .inl (g.2.1 2, 6, .inl (fun _ => 0))), (q_17, .inr (4, [.int 0, .int 0, .int 0, .int 0, .int 0, .int 0, .int 0, .int 0, .int 0, .int 0, .int 0, .int 0, .ref q_18, .ref q_19, .ref q_20, .ref q_21, .ref q_22])), (q_18, .inl (g.2.1 1, 5, .inl (fun _ => 0))), (q_19, .inl (g.2.1 1, 5, .inl (fun _ => 0))), (q_20, .inl (g.2.1 2, 5, .inl (fun _ => 0))), (q_21, .inl (g.2.1 1, 6, .inl (fun _ => 0))), (q_22, .inl (g.2.1 2, 6, .inl (fun _ => 0)))] H := hP
  have hD : va_D A [(t0, .inr (6, [.ref q_1, .ref q_2, .ref q_4, .ref q_6, .int 0, .ref q_8, .int 0, .int 0, .int 0, .int 0, .long 0, .int 0, .int 0])), (q_1, .inl (g.2.1 3, 6, .inr (.inr (.inr (.inr (va_up (fun _ => none) 0 (some q_10))))))), (q_2, .inr (5, [.ref q_1, .ref q_3, .int 0])), (q_3, .inl (g.2.1 4, 0, .inr (.inr (.inr (.inr (fun _ => none)))))), (q_4, .inr (3, [.ref q_5])), (q_5, .inl (g.2.1 0, 64, .inl (fun _ => 0))), (q_6, .inr (2, [.ref q_7, .int 0, .int 0])), (q_7, .inl (g.2.1 1, 16, .inl (fun _ => 0))), (q_8, .inl (g.2.1 1, 6, .inl (fun _ => 0))), (q_10, .inr (4, [.int 0, .int 0, .int 0, .int 0, .int 0, .int 0, .int 0, .int 0, .int 0, .int 0, .int 0, .int 0, .ref q_11, .ref q_12, .ref q_13, .ref q_14, .ref q_15])), (q_11, .inl (g.2.1 1, 5, .inl (fun _ => 0))), (q_12, .inl (g.2.1 1, 5, .inl (fun _ => 0))), (q_13, .inl (g.2.1 2, 5, .inl (fun _ => 0))), (q_14, .inl (g.2.1 1, 6, .inl (fun _ => 0))), (q_15, .inl (g.2.1 2, 6, .inl (fun _ => 0))), (q_17, .inr (4, [.int 0, .int 0, .int 0, .int 0, .int 0, .int 0, .int 0, .int 0, .int 0, .int 0, .int 0, .int 0, .ref q_18, .ref q_19, .ref q_20, .ref q_21, .ref q_22])), (q_18, .inl (g.2.1 1, 5, .inl (fun _ => 0))), (q_19, .inl (g.2.1 1, 5, .inl (fun _ => 0))), (q_20, .inl (g.2.1 2, 5, .inl (fun _ => 0))), (q_21, .inl (g.2.1 1, 6, .inl (fun _ => 0))), (q_22, .inl (g.2.1 2, 6, .inl (fun _ => 0)))] := hD
  refine W.widen (k := 20) (n := 187) (Nat.le_of_ble_eq_true rfl) (Nat.le_of_ble_eq_true rfl) ?_
  refine va_astq hx hb hK hP hD hS 1 3 15 4 rfl rfl rfl rfl (i := 1) (vp_in_iff.mpr (by decide)) dX5_init_78 (fun H locs hP hD hS => ?_)
  have hP : va_P g.1 CLS [(t0, .inr (6, [.ref q_1, .ref q_2, .ref q_4, .ref q_6, .int 0, .ref q_8, .int 0, .int 0, .int 0, .int 0, .long 0, .int 0, .int 0])), (q_1, .inl (g.2.1 3, 6, .inr (.inr (.inr (.inr (va_up (va_up (fun _ => none) 0 (some q_10)) 1 (some q_17))))))), (q_2, .inr (5, [.ref q_1, .ref q_3, .int 0])), (q_3, .inl (g.2.1 4, 0, .inr (.inr (.inr (.inr (fun _ => none)))))), (q_4, .inr (3, [.ref q_5])), (q_5, .inl (g.2.1 0, 64, .inl (fun _ => 0))), (q_6, .inr (2, [.ref q_7, .int 0, .int 0])), (q_7, .inl (g.2.1 1, 16, .inl (fun _ => 0))), (q_8, .inl (g.2.1 1, 6, .inl (fun _ => 0))), (q_10, .inr (4, [.int 0, .int 0, .int 0, .int 0, .int 0, .int 0, .int 0, .int 0, .int 0, .int 0, .int 0, .int 0, .ref q_11, .ref q_12, .ref q_13, .ref q_14, .ref q_15])), (q_11, .inl (g.2.1 1, 5, .inl (fun _ => 0))), (q_12, .inl (g.2.1 1, 5, .inl (fun _ => 0))), (q_13, .inl (g.2.1 2, 5, .inl (fun _ => 0))), (q_14, .inl (g.2.1 1, 6, .inl (fun _ => 0))), (q_15, .inl (g.2.1 2, 6, .inl (fun _ => 0))), (q_17, .inr (4, [.int 0, .int 0, .int 0, .int 0, .int 0, .int 0, .int 0, .int 0, .int 0, .int 0, .int 0, .int 0, .ref q_18, .ref q_19, .ref q_20, .ref q_21, .ref q_22])), (q_18, .inl (g.2.1 1, 5, .inl (fun _ => 0))), (q_19, .inl (g.2.1 1, 5, .inl (fun _ => 0))), (q_20, .inl (g.2.1 2, 5, .inl (fun _ => 0))), (q_21, .inl (g.2.1 1, 6, .inl (fun _ => 0))), (q_22, .inl (g.2.1 2, 6, .inl (fun _ => 0)))] H := hP
  have hD : va_D A [(t0, .inr (6, [.ref q_1, .ref q_2, .ref q_4, .ref q_6, .int 0, .ref q_8, .int 0, .int 0, .int 0, .int 0, .long 0, .int 0, .int 0])), (q_1, .inl (g.2.1 3, 6, .inr (.inr (.inr (.inr (va_up (va_up (fun _ => none) 0 (some q_10)) 1 (some q_17))))))), (q_2, .inr (5, [.ref q_1, .ref q_3, .int 0])), (q_3, .inl (g.2.1 4, 0, .inr (.inr (.inr (.inr (fun _ => none)))))), (q_4, .inr (3, [.ref q_5])), (q_5, .inl (g.2.1 0, 64, .inl (fun _ => 0))), (q_6, .inr (2, [.ref q_7, .int 0, .int 0])), (q_7, .inl (g.2.1 1, 16, .inl (fun _ => 0))), (q_8, .inl (g.2.1 1, 6, .inl (fun _ => 0))), (q_10, .inr (4, [.int 0, .int 0, .int 0, .int 0, .int 0, .int 0, .int 0, .int 0, .int 0, .int 0, .int 0, .int 0, .ref q_11, .ref q_12, .ref q_13, .ref q_14, .ref q_15])), (q_11, .inl (g.2.1 1, 5, .inl (fun _ => 0))), (q_12, .inl (g.2.1 1, 5, .inl (fun _ => 0))), (q_13, .inl (g.2.1 2, 5, .inl (fun _ => 0))), (q_14, .inl (g.2.1 1, 6, .inl (fun _ => 0))), (q_15, .inl (g.2.1 2, 6, .inl (fun _ => 0))), (q_17, .inr (4, [.int 0, .int 0, .int 0, .int 0, .int 0, .int 0, .int 0, .int 0, .int 0, .int 0, .int 0, .int 0, .ref q_18, .ref q_19, .ref q_20, .ref q_21, .ref q_22])), (q_18, .inl (g.2.1 1, 5, .inl (fun _ => 0))), (q_19, .inl (g.2.1 1, 5, .inl (fun _ => 0))), (q_20, .inl (g.2.1 2, 5, .inl (fun _ => 0))), (q_21, .inl (g.2.1 1, 6, .inl (fun _ => 0))), (q_22, .inl (g.2.1 2, 6, .inl (fun _ => 0)))] := hD
  have hP := hP.sub (ws' := [(t0, .inr (6, [.ref q_1, .ref q_2, .ref q_4, .ref q_6, .int 0, .ref q_8, .int 0, .int 0, .int 0, .int 0, .long 0, .int 0, .int 0])), (q_1, .inl (g.2.1 3, 6, .inr (.inr (.inr (.inr (va_up (va_up (fun _ => none) 0 (some q_10)) 1 (some q_17))))))), (q_2, .inr (5, [.ref q_1, .ref q_3, .int 0])), (q_3, .inl (g.2.1 4, 0, .inr (.inr (.inr (.inr (fun _ => none)))))), (q_4, .inr (3, [.ref q_5])), (q_5, .inl (g.2.1 0, 64, .inl (fun _ => 0))), (q_6, .inr (2, [.ref q_7, .int 0, .int 0])), (q_7, .inl (g.2.1 1, 16, .inl (fun _ => 0))), (q_8, .inl (g.2.1 1, 6, .inl (fun _ => 0))), (q_10, .inr (4, [.int 0, .int 0, .int 0, .int 0, .int 0, .int 0, .int 0, .int 0, .int 0, .int 0, .int 0, .int 0, .ref q_11, .ref q_12, .ref q_13, .ref q_14, .ref q_15])), (q_11, .inl (g.2.1 1, 5, .inl (fun _ => 0))), (q_12, .inl (g.2.1 1, 5, .inl (fun _ => 0))), (q_13, .inl (g.2.1 2, 5, .inl (fun _ => 0))), (q_14, .inl (g.2.1 1, 6, .inl (fun _ => 0))), (q_15, .inl (g.2.1 2, 6, .inl (fun _ => 0)))]) [0, 1, 2, 3, 4, 5, 6, 7, 8, 9, 10, 11, 12, 13, 14] rfl
  have hD := hD.sub (ws' := [(t0, .inr (6, [.ref q_1, .ref q_2, .ref q_4, .ref q_6, .int 0, .ref q_8, .int 0, .int 0, .int 0, .int 0, .long 0, .int 0, .int 0])), (q_1, .inl (g.2.1 3, 6, .inr (.inr (.inr (.inr (va_up (va_up (fun _ => none) 0 (some q_10)) 1 (some q_17))))))), (q_2, .inr (5, [.ref q_1, .ref q_3, .int 0])), (q_3, .inl (g.2.1 4, 0, .inr (.inr (.inr (.inr (fun _ => none)))))), (q_4, .inr (3, [.ref q_5])), (q_5, .inl (g.2.1 0, 64, .inl (fun _ => 0))), (q_6, .inr (2, [.ref q_7, .int 0, .int 0])), (q_7, .inl (g.2.1 1, 16, .inl (fun _ => 0))), (q_8, .inl (g.2.1 1, 6, .inl (fun _ => 0))), (q_10, .inr (4, [.int 0, .int 0, .int 0, .int 0, .int 0, .int 0, .int 0, .int 0, .int 0, .int 0, .int 0, .int 0, .ref q_11, .ref q_12, .ref q_13, .ref q_14, .ref q_15])), (q_11, .inl (g.2.1 1, 5, .inl (fun _ => 0))), (q_12, .inl (g.2.1 1, 5, .inl (fun _ => 0))), (q_13, .inl (g.2.1 2, 5, .inl (fun _ => 0))), (q_14, .inl (g.2.1 1, 6, .inl (fun _ => 0))), (q_15, .inl (g.2.1 2, 6, .inl (fun _ => 0)))]) [0, 1, 2, 3, 4, 5, 6, 7, 8, 9, 10, 11, 12, 13, 14] (by decide) rfl
  refine lv_iinc (v := 2) (lv' := [(1, .int 2), (0, .ref t0)]) hx hb dX5_init_79 hl (k := 0) rfl (by decide) (by decide) rfl (fun ls hl => ?_)
  refine lv_goto (tgt := 60) hx hb dX5_init_82 (by decide) ?_
  refine lv_iload_n hx hb dX5_init_60 rfl (lv_at hl 0 rfl) ?_
  refine lv_bipush (v := 6) hx hb dX5_init_61 (by decide) ?_
  refine lv_icmp_ge (tgt := 85) hx hb dX5_init_63 (by decide) (fun c_23 => absurd c_23 (by decide)) (fun c_23 => ?_)
  refine lv_aload_n hx hb dX5_init_66 rfl (lv_at hl 1 rfl) ?_
  refine va_get (D := g.1) (ci := 6) (v := .ref q_1) (C := RX5) (T := TX5) (N := 13) hx hb htg inG_X5 hown hK hP 0 rfl rfl 0 (by decide) (htg _ k247) (fun _ h9 => h9) rfl dX5_init_67 ?_
  refine lv_iload_n hx hb dX5_init_70 rfl (lv_at hl 0 rfl) ?_
  refine va_new (ci := 4) (fs := [.int 0, .int 0, .int 0, .int 0, .int 0, .int 0, .int 0, .int 0, .int 0, .int 0, .int 0, .int 0, .null, .null, .null, .null, .null]) (C := RX2) (T := TX2) (N := 17) hx hb htg inG_X2 tyX2 tyX2_ok hown (htg _ k106) (htg _ k157) (htg _ k55) hK hP hD hS hA rfl (by decide) (Nat.le_of_ble_eq_true rfl) (Nat.le_of_ble_eq_true rfl) dX5_init_71 (fun q_24 H hP hD hS => ?_)
  have hP : va_P g.1 CLS [(t0, .inr (6, [.ref q_1, .ref q_2, .ref q_4, .ref q_6, .int 0, .ref q_8, .int 0, .int 0, .int 0, .int 0, .long 0, .int 0, .int 0])), (q_1, .inl (g.2.1 3, 6, .inr (.inr (.inr (.inr (va_up (va_up (fun _ => none) 0 (some q_10)) 1 (some q_17))))))), (q_2, .inr (5, [.ref q_1, .ref q_3, .int 0])), (q_3, .inl (g.2.1 4, 0, .inr (.inr (.inr (.inr (fun _ => none)))))), (q_4, .inr (3, [.ref q_5])), (q_5, .inl (g.2.1 0, 64, .inl (fun _ => 0))), (q_6, .inr (2, [.ref q_7, .int 0, .int 0])), (q_7, .inl (g.2.1 1, 16, .inl (fun _ => 0))), (q_8, .inl (g.2.1 1, 6, .inl (fun _ => 0))), (q_10, .inr (4, [.int 0, .int 0, .int 0, .int 0, .int 0, .int 0, .int 0, .int 0, .int 0, .int 0, .int 0, .int 0, .ref q_11, .ref q_12, .ref q_13, .ref q_14, .ref q_15])), (q_11, .inl (g.2.1 1, 5, .inl (fun _ => 0))), (q_12, .inl (g.2.1 1, 5, .inl (fun _ => 0))), (q_13, .inl (g.2.1 2, 5, .inl (fun _ => 0))), (q_14, .inl (g.2.1 1, 6, .inl (fun _ => 0))), (q_15, .inl (g.2.1 2, 6, .inl (fun _ => 0))), (q_24, .inr (4, [.int 0, .int 0, .int 0, .int 0, .int 0, .int 0, .int 0, .int 0, .int 0, .int 0, .int 0, .int 0, .null, .null, .null, .null, .null]))] H := hP
  have hD : va_D A [(t0, .inr (6, [.ref q_1, .ref q_2, .ref q_4, .ref q_6, .int 0, .ref q_8, .int 0, .int 0, .int 0, .int 0, .long 0, .int 0, .int 0])), (q_1, .inl (g.2.1 3, 6, .inr (.inr (.inr (.inr (va_up (va_up (fun _ => none) 0 (some q_10)) 1 (some q_17))))))), (q_2, .inr (5, [.ref q_1, .ref q_3, .int 0])), (q_3, .inl (g.2.1 4, 0, .inr (.inr (.inr (.inr (fun _ => none)))))), (q_4, .inr (3, [.ref q_5])), (q_5, .inl (g.2.1 0, 64, .inl (fun _ => 0))), (q_6, .inr (2, [.ref q_7, .int 0, .int 0])), (q_7, .inl (g.2.1 1, 16, .inl (fun _ => 0))), (q_8, .inl (g.2.1 1, 6, .inl (fun _ => 0))), (q_10, .inr (4, [.int 0, .int 0, .int 0, .int 0, .int 0, .int 0, .int 0, .int 0, .int 0, .int 0, .int 0, .int 0, .ref q_11, .ref q_12, .ref q_13, .ref q_14, .ref q_15])), (q_11, .inl (g.2.1 1, 5, .inl (fun _ => 0))), (q_12, .inl (g.2.1 1, 5, .inl (fun _ => 0))), (q_13, .inl (g.2.1 2, 5, .inl (fun _ => 0))), (q_14, .inl (g.2.1 1, 6, .inl (fun _ => 0))), (q_15, .inl (g.2.1 2, 6, .inl (fun _ => 0))), (q_24, .inr (4, [.int 0, .int 0, .int 0, .int 0, .int 0, .int 0, .int 0, .int 0, .int 0, .int 0, .int 0, .int 0, .null, .null, .null, .null, .null]))] := hD
  refine W.widen (k := 21) (n := 204) (Nat.le_of_ble_eq_true rfl) (Nat.le_of_ble_eq_true rfl) ?_
  refine lv_dup hx hb dX5_init_74 rfl ?_
  have hPc := hP.sub (ws' := [(q_24, .inr (4, [.int 0, .int 0, .int 0, .int 0, .int 0, .int 0, .int 0, .int 0, .int 0, .int 0, .int 0, .int 0, .null, .null, .null, .null, .null]))]) [15] rfl
  have hDc := hD.sub (ws' := [(q_24, .inr (4, [.int 0, .int 0, .int 0, .int 0, .int 0, .int 0, .int 0, .int 0, .int 0, .int 0, .int 0, .int 0, .null, .null, .null, .null, .null]))]) [15] (by decide) rfl
  have hFc := va_free (wc := [(q_24, .inr (4, [.int 0, .int 0, .int 0, .int 0, .int 0, .int 0, .int 0, .int 0, .int 0, .int 0, .int 0, .int 0, .null, .null, .null, .null, .null]))]) hD hS hA [15] rfl
  refine q_cv (wr := [(t0, .inr (6, [.ref q_1, .ref q_2, .ref q_4, .ref q_6, .int 0, .ref q_8, .int 0, .int 0, .int 0, .int 0, .long 0, .int 0, .int 0])), (q_1, .inl (g.2.1 3, 6, .inr (.inr (.inr (.inr (va_up (va_up (fun _ => none) 0 (some q_10)) 1 (some q_17))))))), (q_2, .inr (5, [.ref q_1, .ref q_3, .int 0])), (q_3, .inl (g.2.1 4, 0, .inr (.inr (.inr (.inr (fun _ => none)))))), (q_4, .inr (3, [.ref q_5])), (q_5, .inl (g.2.1 0, 64, .inl (fun _ => 0))), (q_6, .inr (2, [.ref q_7, .int 0, .int 0])), (q_7, .inl (g.2.1 1, 16, .inl (fun _ => 0))), (q_8, .inl (g.2.1 1, 6, .inl (fun _ => 0))), (q_10, .inr (4, [.int 0, .int 0, .int 0, .int 0, .int 0, .int 0, .int 0, .int 0, .int 0, .int 0, .int 0, .int 0, .ref q_11, .ref q_12, .ref q_13, .ref q_14, .ref q_15])), (q_11, .inl (g.2.1 1, 5, .inl (fun _ => 0))), (q_12, .inl (g.2.1 1, 5, .inl (fun _ => 0))), (q_13, .inl (g.2.1 2, 5, .inl (fun _ => 0))), (q_14, .inl (g.2.1 1, 6, .inl (fun _ => 0))), (q_15, .inl (g.2.1 2, 6, .inl (fun _ => 0)))]) (va_runIN (As := []) (rest := [.ref q_24, .int 2, .ref q_1]) ⟨hx, hb, hml, hown, htg⟩ (c_X2_init l hfl g q_24  H.size) ⟨(qN htg k160 k55 hT.1.1.2.2.1 ok_X2_init rfl rfl ⟨Nat.le_of_ble_eq_true rfl, Nat.le_of_ble_eq_true rfl⟩), rfl, htg _ k159⟩ (q_pre [.ref q_24] hPc hDc hK hS hT hFc) rfl rfl hl.1 rfl (lv_room (Nat.le_of_ble_eq_true rfl)) dX5_init_75 ⟨Nat.le_of_ble_eq_true rfl, Nat.le_of_ble_eq_true rfl⟩) hP hD hS hFc [15] [0, 1, 2, 3, 4, 5, 6, 7, 8, 9, 10, 11, 12, 13, 14] rfl rfl (by decide) (by decide) (fun u9 H locs hw hP hD hS => ?_)
  try dsimp only at hw
  rcases hw with ⟨q_25, q_26, q_27, q_28, q_29, rfl⟩
  have hP : va_P g.1 CLS [(t0, .inr (6, [.ref q_1, .ref q_2, .ref q_4, .ref q_6, .int 0, .ref q_8, .int 0, .int 0, .int 0, .int 0, .long 0, .int 0, .int 0])), (q_1, .inl (g.2.1 3, 6, .inr (.inr (.inr (.inr (va_up (va_up (fun _ => none) 0 (some q_10)) 1 (some q_17))))))), (q_2, .inr (5, [.ref q_1, .ref q_3, .int 0])), (q_3, .inl (g.2.1 4, 0, .inr (.inr (.inr (.inr (fun _ => none)))))), (q_4, .inr (3, [.ref q_5])), (q_5, .inl (g.2.1 0, 64, .inl (fun _ => 0))), (q_6, .inr (2, [.ref q_7, .int 0, .int 0])), (q_7, .inl (g.2.1 1, 16, .inl (fun _ => 0))), (q_8, .inl (g.2.1 1, 6, .inl (fun _ => 0))), (q_10, .inr (4, [.int 0, .int 0, .int 0, .int 0, .int 0, .int 0, .int 0, .int 0, .int 0, .int 0, .int 0, .int 0, .ref q_11, .ref q_12, .ref q_13, .ref q_14, .ref q_15])), (q_11, .inl (g.2.1 1, 5, .inl (fun _ => 0))), (q_12, .inl (g.2.1 1, 5, .inl (fun _ => 0))), (q_13, .inl (g.2.1 2, 5, .inl (fun _ => 0))), (q_14, .inl (g.2.1 1, 6, .inl (fun _ => 0))), (q_15, .inl (g.2.1 2, 6, .inl (fun _ => 0))), (q_24, .inr (4, [.int 0, .int 0, .int 0, .int 0, .int 0, .int 0, .int 0, .int 0, .int 0, .int 0, .int 0, .int 0, .ref q_25, .ref q_26, .ref q_27, .ref q_28, .ref q_29])), (q_25, .inl (g.2.1 1, 5, .inl (fun _ => 0))), (q_26, .inl (g.2.1 1, 5, .inl (fun _ => 0))), (q_27, .inl (g.2.1 2, 5, .inl (fun _ => 0))), (q_28, .inl (g.2.1 1, 6, .inl (fun _ => 0))), (q_29, .inl (g.2.1 2, 6, .inl (fun _ => 0)))] H := hP
  have hD : va_D A [(t0, .inr (6, [.ref q_1, .ref q_2, .ref q_4, .ref q_6, .int 0, .ref q_8, .int 0, .int 0, .int 0, .int 0, .long 0, .int 0, .int 0])), (q_1, .inl (g.2.1 3, 6, .inr (.inr (.inr (.inr (va_up (va_up (fun _ => none) 0 (some q_10)) 1 (some q_17))))))), (q_2, .inr (5, [.ref q_1, .ref q_3, .int 0])), (q_3, .inl (g.2.1 4, 0, .inr (.inr (.inr (.inr (fun _ => none)))))), (q_4, .inr (3, [.ref q_5])), (q_5, .inl (g.2.1 0, 64, .inl (fun _ => 0))), (q_6, .inr (2, [.ref q_7, .int 0, .int 0])), (q_7, .inl (g.2.1 1, 16, .inl (fun _ => 0))), (q_8, .inl (g.2.1 1, 6, .inl (fun _ => 0))), (q_10, .inr (4, [.int 0, .int 0, .int 0, .int 0, .int 0, .int 0, .int 0, .int 0, .int 0, .int 0, .int 0, .int 0, .ref q_11, .ref q_12, .ref q_13, .ref q_14, .ref q_15])), (q_11, .inl (g.2.1 1, 5, .inl (fun _ => 0))), (q_12, .inl (g.2.1 1, 5, .inl (fun _ => 0))), (q_13, .inl (g.2.1 2, 5, .inl (fun _ => 0))), (q_14, .inl (g.2.1 1, 6, .inl (fun _ => 0))), (q_15, .inl (g.2.1 2, 6, .inl (fun _ => 0))), (q_24, .inr (4, [.int 0, .int 0, .int 0, .int 0, .int 0, .int 0, .int 0, .int 0, .int 0, .int 0, .int 0, .int 0, .ref q_25, .ref q_26, .ref q_27, .ref q_28, .ref q_29])), (q_25, .inl (g.2.1 1, 5, .inl (fun _ => 0))), (q_26, .inl (g.2.1 1, 5, .inl (fun _ => 0))), (q_27, .inl (g.2.1 2, 5, .inl (fun _ => 0))), (q_28, .inl (g.2.1 1, 6, .inl (fun _ => 0))), (q_29, .inl (g.2.1 2, 6, .inl (fun _ => 0)))] := hD
  refine W.widen (k := 26) (n := 231) (Nat.le_of_ble_eq_true rfl) (Nat.le_of_ble_eq_true rfl) ?_
  refine va_astq hx hb hK hP hD hS 1 3 15 4 rfl rfl rfl rfl (i := 2) (vp_in_iff.mpr (by decide)) dX5_init_78 (fun H locs hP hD hS => ?_)
  have hP : va_P g.1 CLS [(t0, .inr (6, [.ref q_1, .ref q_2, .ref q_4, .ref q_6, .int 0, .ref q_8, .int 0, .int 0, .int 0, .int 0, .long 0, .int 0, .int 0])), (q_1, .inl (g.2.1 3, 6, .inr (.inr (.inr (.inr (va_up (va_up (va_up (fun _ => none) 0 (some q_10)) 1 (some q_17)) 2 (some q_24))))))), (q_2, .inr (5, [.ref q_1, .ref q_3, .int 0])), (q_3, .inl (g.2.1 4, 0, .inr (.inr (.inr (.inr (fun _ => none)))))), (q_4, .inr (3, [.ref q_5])), (q_5, .inl (g.2.1 0, 64, .inl (fun _ => 0))), (q_6, .inr (2, [.ref q_7, .int 0, .int 0])), (q_7, .inl (g.2.1 1, 16, .inl (fun _ => 0))), (q_8, .inl (g.2.1 1, 6, .inl (fun _ => 0))), (q_10, .inr (4, [.int 0, .int 0, .int 0, .int 0, .int 0, .int 0, .int 0, .int 0, .int 0, .int 0, .int 0, .int 0, .ref q_11, .ref q_12, .ref q_13, .ref q_14, .ref q_15])), (q_11, .inl (g.2.1 1, 5, .inl (fun _ => 0))), (q_12, .inl (g.2.1 1, 5, .inl (fun _ => 0))), (q_13, .inl (g.2.1 2, 5, .inl (fun _ => 0))), (q_14, .inl (g.2.1 1, 6, .inl (fun _ => 0))), (q_15, .inl (g.2.1 2, 6, .inl (fun _ => 0))), (q_24, .inr (4, [.int 0, .int 0, .int 0, .int 0, .int 0, .int 0, .int 0, .int 0, .int 0, .int 0, .int 0, .int 0, .ref q_25, .ref q_26, .ref q_27, .ref q_28, .ref q_29])), (q_25, .inl (g.2.1 1, 5, .inl (fun _ => 0))), (q_26, .inl (g.2.1 1, 5, .inl (fun _ => 0))), (q_27, .inl (g.2.1 2, 5, .inl (fun _ => 0))), (q_28, .inl (g.2.1 1, 6, .inl (fun _ => 0))), (q_29, .inl (g.2.1 2, 6, .inl (fun _ => 0)))] H := hP
  have hD : va_D A [(t0, .inr (6, [.ref q_1, .ref q_2, .ref q_4, .ref q_6, .int 0, .ref q_8, .int 0, .int 0, .int 0, .int 0, .long 0, .int 0, .int 0])), (q_1, .inl (g.2.1 3, 6, .inr (.inr (.inr (.inr (va_up (va_up (va_up (fun _ => none) 0 (some q_10)) 1 (some q_17)) 2 (some q_24))))))), (q_2, .inr (5, [.ref q_1, .ref q_3, .int 0])), (q_3, .inl (g.2.1 4, 0, .inr (.inr (.inr (.inr (fun _ => none)))))), (q_4, .inr (3, [.ref q_5])), (q_5, .inl (g.2.1 0, 64, .inl (fun _ => 0))), (q_6, .inr (2, [.ref q_7, .int 0, .int 0])), (q_7, .inl (g.2.1 1, 16, .inl (fun _ => 0))), (q_8, .inl (g.2.1 1, 6, .inl (fun _ => 0))), (q_10, .inr (4, [.int 0, .int 0, .int 0, .int 0, .int 0, .int 0, .int 0, .int 0, .int 0, .int 0, .int 0, .int 0, .ref q_11, .ref q_12, .ref q_13, .ref q_14, .ref q_15])), (q_11, .inl (g.2.1 1, 5, .inl (fun _ => 0))), (q_12, .inl (g.2.1 1, 5, .inl (fun _ => 0))), (q_13, .inl (g.2.1 2, 5, .inl (fun _ => 0))), (q_14, .inl (g.2.1 1, 6, .inl (fun _ => 0))), (q_15, .inl (g.2.1 2, 6, .inl (fun _ => 0))), (q_24, .inr (4, [.int 0, .int 0, .int 0, .int 0, .int 0, .int 0, .int 0, .int 0, .int 0, .int 0, .int 0, .int 0, .ref q_25, .ref q_26, .ref q_27, .ref q_28, .ref q_29])), (q_25, .inl (g.2.1 1, 5, .inl (fun _ => 0))), (q_26, .inl (g.2.1 1, 5, .inl (fun _ => 0))), (q_27, .inl (g.2.1 2, 5, .inl (fun _ => 0))), (q_28, .inl (g.2.1 1, 6, .inl (fun _ => 0))), (q_29, .inl (g.2.1 2, 6, .inl (fun _ => 0)))] := hD
  have hP := hP.sub (ws' := [(t0, .inr (6, [.ref q_1, .ref q_2, .ref q_4, .ref q_6, .int 0, .ref q_8, .int 0, .int 0, .int 0, .int 0, .long 0, .int 0, .int 0])), (q_1, .inl (g.2.1 3, 6, .inr (.inr (.inr (.inr (va_up (va_up (va_up (fun _ => none) 0 (some q_10)) 1 (some q_17)) 2 (some q_24))))))), (q_2, .inr (5, [.ref q_1, .ref q_3, .int 0])), (q_3, .inl (g.2.1 4, 0, .inr (.inr (.inr (.inr (fun _ => none)))))), (q_4, .inr (3, [.ref q_5])), (q_5, .inl (g.2.1 0, 64, .inl (fun _ => 0))), (q_6, .inr (2, [.ref q_7, .int 0, .int 0])), (q_7, .inl (g.2.1 1, 16, .inl (fun _ => 0))), (q_8, .inl (g.2.1 1, 6, .inl (fun _ => 0))), (q_10, .inr (4, [.int 0, .int 0, .int 0, .int 0, .int 0, .int 0, .int 0, .int 0, .int 0, .int 0, .int 0, .int 0, .ref q_11, .ref q_12, .ref q_13, .ref q_14, .ref q_15])), (q_11, .inl (g.2.1 1, 5, .inl (fun _ => 0))), (q_12, .inl (g.2.1 1, 5, .inl (fun _ => 0))), (q_13, .inl (g.2.1 2, 5, .inl (fun _ => 0))), (q_14, .inl (g.2.1 1, 6, .inl (fun _ => 0))), (q_15, .inl (g.2.1 2, 6, .inl (fun _ => 0)))]) [0, 1, 2, 3, 4, 5, 6, 7, 8, 9, 10, 11, 12, 13, 14] rfl
  have hD := hD.sub (ws' := [(t0, .inr (6, [.ref q_1, .ref q_2, .ref q_4, .ref q_6, .int 0, .ref q_8, .int 0, .int 0, .int 0, .int 0, .long 0, .int 0, .int 0])), (q_1, .inl (g.2.1 3, 6, .inr (.inr (.inr (.inr (va_up (va_up (va_up (fun _ => none) 0 (some q_10)) 1 (some q_17)) 2 (some q_24))))))), (q_2, .inr (5, [.ref q_1, .ref q_3, .int 0])), (q_3, .inl (g.2.1 4, 0, .inr (.inr (.inr (.inr (fun _ => none)))))), (q_4, .inr (3, [.ref q_5])), (q_5, .inl (g.2.1 0, 64, .inl (fun _ => 0))), (q_6, .inr (2, [.ref q_7, .int 0, .int 0])), (q_7, .inl (g.2.1 1, 16, .inl (fun _ => 0))), (q_8, .inl (g.2.1 1, 6, .inl (fun _ => 0))), (q_10, .inr (4, [.int 0, .int 0, .int 0, .int 0, .int 0, .int 0, .int 0, .int 0, .int 0, .int 0, .int 0, .int 0, .ref q_11, .ref q_12, .ref q_13, .ref q_14, .ref q_15])), (q_11, .inl (g.2.1 1, 5, .inl (fun _ => 0))), (q_12, .inl (g.2.1 1, 5, .inl (fun _ => 0))), (q_13, .inl (g.2.1 2, 5, .inl (fun _ => 0))), (q_14, .inl (g.2.1 1, 6, .inl (fun _ => 0))), (q_15, .inl (g.2.1 2, 6, .inl (fun _ => 0)))]) [0, 1, 2, 3, 4, 5, 6, 7, 8, 9, 10, 11, 12, 13, 14] (by decide) rfl
  refine lv_iinc (v := 3) (lv' := [(1, .int 3), (0, .ref t0)]) hx hb dX5_init_79 hl (k := 0) rfl (by decide) (by decide) rfl (fun ls hl => ?_)
  refine lv_goto (tgt := 60) hx hb dX5_init_82 (by decide) ?_
  refine lv_iload_n hx hb dX5_init_60 rfl (lv_at hl 0 rfl) ?_
  refine lv_bipush (v := 6) hx hb dX5_init_61 (by decide) ?_
  refine lv_icmp_ge (tgt := 85) hx hb dX5_init_63 (by decide) (fun c_30 => absurd c_30 (by decide)) (fun c_30 => ?_)
  refine lv_aload_n hx hb dX5_init_66 rfl (lv_at hl 1 rfl) ?_
  refine va_get (D := g.1) (ci := 6) (v := .ref q_1) (C := RX5) (T := TX5) (N := 13) hx hb htg inG_X5 hown hK hP 0 rfl rfl 0 (by decide) (htg _ k247) (fun _ h9 => h9) rfl dX5_init_67 ?_
  refine lv_iload_n hx hb dX5_init_70 rfl (lv_at hl 0 rfl) ?_
  refine va_new (ci := 4) (fs := [.int 0, .int 0, .int 0, .int 0, .int 0, .int 0, .int 0, .int 0, .int 0, .int 0, .int 0, .int 0, .null, .null, .null, .null, .null]) (C := RX2) (T := TX2) (N := 17) hx hb htg inG_X2 tyX2 tyX2_ok hown (htg _ k106) (htg _ k157) (htg _ k55) hK hP hD hS hA rfl (by decide) (Nat.le_of_ble_eq_true rfl) (Nat.le_of_ble_eq_true rfl) dX5_init_71 (fun q_31 H hP hD hS => ?_)
  have hP : va_P g.1 CLS [(t0, .inr (6, [.ref q_1, .ref q_2, .ref q_4, .ref q_6, .int 0, .ref q_8, .int 0, .int 0, .int 0, .int 0, .long 0, .int 0, .int 0])), (q_1, .inl (g.2.1 3, 6, .inr (.inr (.inr (.inr (va_up (va_up (va_up (fun _ => none) 0 (some q_10)) 1 (some q_17)) 2 (some q_24))))))), (q_2, .inr (5, [.ref q_1, .ref q_3, .int 0])), (q_3, .inl (g.2.1 4, 0, .inr (.inr (.inr (.inr (fun _ => none)))))), (q_4, .inr (3, [.ref q_5])), (q_5, .inl (g.2.1 0, 64, .inl (fun _ => 0))), (q_6, .inr (2, [.ref q_7, .int 0, .int 0])), (q_7, .inl (g.2.1 1, 16, .inl (fun _ => 0))), (q_8, .inl (g.2.1 1, 6, .inl (fun _ => 0))), (q_10, .inr (4, [.int 0, .int 0, .int 0, .int 0, .int 0, .int 0, .int 0, .int 0, .int 0, .int 0, .int 0, .int 0, .ref q_11, .ref q_12, .ref q_13, .ref q_14, .ref q_15])), (q_11, .inl (g.2.1 1, 5, .inl (fun _ => 0))), (q_12, .inl (g.2.1 1, 5, .inl (fun _ => 0))), (q_13, .inl (g.2.1 2, 5, .inl (fun _ => 0))), (q_14, .inl (g.2.1 1, 6, .inl (fun _ => 0))), (q_15, .inl (g.2.1 2, 6, .inl (fun _ => 0))), (q_31, .inr (4, [.int 0, .int 0, .int 0, .int 0, .int 0, .int 0, .int 0, .int 0, .int 0, .int 0, .int 0, .int 0, .null, .null, .null, .null, .null]))] H := hP
  have hD : va_D A [(t0, .inr (6, [.ref q_1, .ref q_2, .ref q_4, .ref q_6, .int 0, .ref q_8, .int 0, .int 0, .int 0, .int 0, .long 0, .int 0, .int 0])), (q_1, .inl (g.2.1 3, 6, .inr (.inr (.inr (.inr (va_up (va_up (va_up (fun _ => none) 0 (some q_10)) 1 (some q_17)) 2 (some q_24))))))), (q_2, .inr (5, [.ref q_1, .ref q_3, .int 0])), (q_3, .inl (g.2.1 4, 0, .inr (.inr (.inr (.inr (fun _ => none)))))), (q_4, .inr (3, [.ref q_5])), (q_5, .inl (g.2.1 0, 64, .inl (fun _ => 0))), (q_6, .inr (2, [.ref q_7, .int 0, .int 0])), (q_7, .inl (g.2.1 1, 16, .inl (fun _ => 0))), (q_8, .inl (g.2.1 1, 6, .inl (fun _ => 0))), (q_10, .inr (4, [.int 0, .int 0, .int 0, .int 0, .int 0, .int 0, .int 0, .int 0, .int 0, .int 0, .int 0, .int 0, .ref q_11, .ref q_12, .ref q_13, .ref q_14, .ref q_15])), (q_11, .inl (g.2.1 1, 5, .inl (fun _ => 0))), (q_12, .inl (g.2.1 1, 5, .inl (fun _ => 0))), (q_13, .inl (g.2.1 2, 5, .inl (fun _ => 0))), (q_14, .inl (g.2.1 1, 6, .inl (fun _ => 0))), (q_15, .inl (g.2.1 2, 6, .inl (fun _ => 0))), (q_31, .inr (4, [.int 0, .int 0, .int 0, .int 0, .int 0, .int 0, .int 0, .int 0, .int 0, .int 0, .int 0, .int 0, .null, .null, .null, .null, .null]))] := hD
  refine W.widen (k := 27) (n := 248) (Nat.le_of_ble_eq_true rfl) (Nat.le_of_ble_eq_true rfl) ?_
  refine lv_dup hx hb dX5_init_74 rfl ?_
  have hPc := hP.sub (ws' := [(q_31, .inr (4, [.int 0, .int 0, .int 0, .int 0, .int 0, .int 0, .int 0, .int 0, .int 0, .int 0, .int 0, .int 0, .null, .null, .null, .null, .null]))]) [15] rfl
  have hDc := hD.sub (ws' := [(q_31, .inr (4, [.int 0, .int 0, .int 0, .int 0, .int 0, .int 0, .int 0, .int 0, .int 0, .int 0, .int 0, .int 0, .null, .null, .null, .null, .null]))]) [15] (by decide) rfl
  have hFc := va_free (wc := [(q_31, .inr (4, [.int 0, .int 0, .int 0, .int 0, .int 0, .int 0, .int 0, .int 0, .int 0, .int 0, .int 0, .int 0, .null, .null, .null, .null, .null]))]) hD hS hA [15] rfl
  refine q_cv (wr := [(t0, .inr (6, [.ref q_1, .ref q_2, .ref q_4, .ref q_6, .int 0, .ref q_8, .int 0, .int 0, .int 0, .int 0, .long 0, .int 0, .int 0])), (q_1, .inl (g.2.1 3, 6, .inr (.inr (.inr (.inr (va_up (va_up (va_up (fun _ => none) 0 (some q_10)) 1 (some q_17)) 2 (some q_24))))))), (q_2, .inr (5, [.ref q_1, .ref q_3, .int 0])), (q_3, .inl (g.2.1 4, 0, .inr (.inr (.inr (.inr (fun _ => none)))))), (q_4, .inr (3, [.ref q_5])), (q_5, .inl (g.2.1 0, 64, .inl (fun _ => 0))), (q_6, .inr (2, [.ref q_7, .int 0, .int 0])), (q_7, .inl (g.2.1 1, 16, .inl (fun _ => 0))), (q_8, .inl (g.2.1 1, 6, .inl (fun _ => 0))), (q_10, .inr (4, [.int 0, .int 0, .int 0, .int 0, .int 0, .int 0, .int 0, .int 0, .int 0, .int 0, .int 0, .int 0, .ref q_11, .ref q_12, .ref q_13, .ref q_14, .ref q_15])), (q_11, .inl (g.2.1 1, 5, .inl (fun _ => 0))), (q_12, .inl (g.2.1 1, 5, .inl (fun _ => 0))), (q_13, .inl (g.2.1 2, 5, .inl (fun _ => 0))), (q_14, .inl (g.2.1 1, 6, .inl (fun _ => 0))), (q_15, .inl (g.2.1 2, 6, .inl (fun _ => 0)))]) (va_runIN (As := []) (rest := [.ref q_31, .int 3, .ref q_1]) ⟨hx, hb, hml, hown, htg⟩ (c_X2_init l hfl g q_31  H.size) ⟨(qN htg k160 k55 hT.1.1.2.2.1 ok_X2_init rfl rfl ⟨Nat.le_of_ble_eq_true rfl, Nat.le_of_ble_eq_true rfl⟩), rfl, htg _ k159⟩ (q_pre [.ref q_31] hPc hDc hK hS hT hFc) rfl rfl hl.1 rfl (lv_room (Nat.le_of_ble_eq_true rfl)) dX5_init_75 ⟨Nat.le_of_ble_eq_true rfl, Nat.le_of_ble_eq_true rfl⟩) hP hD hS hFc [15] [0, 1, 2, 3, 4, 5, 6, 7, 8, 9, 10, 11, 12, 13, 14] rfl rfl (by decide) (by decide) (fun u9 H locs hw hP hD hS => ?_)
  try dsimp only at hw
  rcases hw with ⟨q_32, q_33, q_34, q_35, q_36, rfl⟩
  have hP : va_P g.1 CLS [(t0, .inr (6, [.ref q_1, .ref q_2, .ref q_4, .ref q_6, .int 0, .ref q_8, .int 0, .int 0, .int 0, .int 0, .long 0, .int 0, .int 0])), (q_1, .inl (g.2.1 3, 6, .inr (.inr (.inr (.inr (va_up (va_up (va_up (fun _ => none) 0 (some q_10)) 1 (some q_17)) 2 (some q_24))))))), (q_2, .inr (5, [.ref q_1, .ref q_3, .int 0])), (q_3, .inl (g.2.1 4, 0, .inr (.inr (.inr (.inr (fun _ => none)))))), (q_4, .inr (3, [.ref q_5])), (q_5, .inl (g.2.1 0, 64, .inl (fun _ => 0))), (q_6, .inr (2, [.ref q_7, .int 0, .int 0])), (q_7, .inl (g.2.1 1, 16, .inl (fun _ => 0))), (q_8, .inl (g.2.1 1, 6, .inl (fun _ => 0))), (q_10, .inr (4, [.int 0, .int 0, .int 0, .int 0, .int 0, .int 0, .int 0, .int 0, .int 0, .int 0, .int 0, .int 0, .ref q_11, .ref q_12, .ref q_13, .ref q_14, .ref q_15])), (q_11, .inl (g.2.1 1, 5, .inl (fun _ => 0))), (q_12, .inl (g.2.1 1, 5, .inl (fun _ => 0))), (q_13, .inl (g.2.1 2, 5, .inl (fun _ => 0))), (q_14, .inl (g.2.1 1, 6, .inl (fun _ => 0))), (q_15, .inl (g.2.1 2, 6, .inl (fun _ => 0))), (q_31, .inr (4, [.int 0, .int 0, .int 0, .int 0, .int 0, .int 0, .int 0, .int 0, .int 0, .int 0, .int 0, .int 0, .ref q_32, .ref q_33, .ref q_34, .ref q_35, .ref q_36])), (q_32, .inl (g.2.1 1, 5, .inl (fun _ => 0))), (q_33, .inl (g.2.1 1, 5, .inl (fun _ => 0))), (q_34, .inl (g.2.1 2, 5, .inl (fun _ => 0))), (q_35, .inl (g.2.1 1, 6, .inl (fun _ => 0))), (q_36, .inl (g.2.1 2, 6, .inl (fun _ => 0)))] H := hP
  have hD : va_D A [(t0, .inr (6, [.ref q_1, .ref q_2, .ref q_4, .ref q_6, .int 0, .ref q_8, .int 0, .int 0, .int 0, .int 0, .long 0, .int 0, .int 0])), (q_1, .inl (g.2.1 3, 6, .inr (.inr (.inr (.inr (va_up (va_up (va_up (fun _ => none) 0 (some q_10)) 1 (some q_17)) 2 (some q_24))))))), (q_2, .inr (5, [.ref q_1, .ref q_3, .int 0])), (q_3, .inl (g.2.1 4, 0, .inr (.inr (.inr (.inr (fun _ => none)))))), (q_4, .inr (3, [.ref q_5])), (q_5, .inl (g.2.1 0, 64, .inl (fun _ => 0))), (q_6, .inr (2, [.ref q_7, .int 0, .int 0])), (q_7, .inl (g.2.1 1, 16, .inl (fun _ => 0))), (q_8, .inl (g.2.1 1, 6, .inl (fun _ => 0))), (q_10, .inr (4, [.int 0, .int 0, .int 0, .int 0, .int 0, .int 0, .int 0, .int 0, .int 0, .int 0, .int 0, .int 0, .ref q_11, .ref q_12, .ref q_13, .ref q_14, .ref q_15])), (q_11, .inl (g.2.1 1, 5, .inl (fun _ => 0))), (q_12, .inl (g.2.1 1, 5, .inl (fun _ => 0))), (q_13, .inl (g.2.1 2, 5, .inl (fun _ => 0))), (q_14, .inl (g.2.1 1, 6, .inl (fun _ => 0))), (q_15, .inl (g.2.1 2, 6, .inl (fun _ => 0))), (q_31, .inr (4, [.int 0, .int 0, .int 0, .int 0, .int 0, .int 0, .int 0, .int 0, .int 0, .int 0, .int 0, .int 0, .ref q_32, .ref q_33, .ref q_34, .ref q_35, .ref q_36])), (q_32, .inl (g.2.1 1, 5, .inl (fun _ => 0))), (q_33, .inl (g.2.1 1, 5, .inl (fun _ => 0))), (q_34, .inl (g.2.1 2, 5, .inl (fun _ => 0))), (q_35, .inl (g.2.1 1, 6, .inl (fun _ => 0))), (q_36, .inl (g.2.1 2, 6, .inl (fun _ => 0)))] := hD
  refine W.widen (k := 32) (n := 275) (Nat.le_of_ble_eq_true rfl) (Nat.le_of_ble_eq_true rfl) ?_
  refine va_astq hx hb hK hP hD hS 1 3 15 4 rfl rfl rfl rfl (i := 3) (vp_in_iff.mpr (by decide)) dX5_init_78 (fun H locs hP hD hS => ?_)
  have hP : va_P g.1 CLS [(t0, .inr (6, [.ref q_1, .ref q_2, .ref q_4, .ref q_6, .int 0, .ref q_8, .int 0, .int 0, .int 0, .int 0, .long 0, .int 0, .int 0])), (q_1, .inl (g.2.1 3, 6, .inr (.inr (.inr (.inr (va_up (va_up (va_up (va_up (fun _ => none) 0 (some q_10)) 1 (some q_17)) 2 (some q_24)) 3 (some q_31))))))), (q_2, .inr (5, [.ref q_1, .ref q_3, .int 0])), (q_3, .inl (g.2.1 4, 0, .inr (.inr (.inr (.inr (fun _ => none)))))), (q_4, .inr (3, [.ref q_5])), (q_5, .inl (g.2.1 0, 64, .inl (fun _ => 0))), (q_6, .inr (2, [.ref q_7, .int 0, .int 0])), (q_7, .inl (g.2.1 1, 16, .inl (fun _ => 0))), (q_8, .inl (g.2.1 1, 6, .inl (fun _ => 0))), (q_10, .inr (4, [.int 0, .int 0, .int 0, .int 0, .int 0, .int 0, .int 0, .int 0, .int 0, .int 0, .int 0, .int 0, .ref q_11, .ref q_12, .ref q_13, .ref q_14, .ref q_15])), (q_11, .inl (g.2.1 1, 5, .inl (fun _ => 0))), (q_12, .inl (g.2.1 1, 5, .inl (fun _ => 0))), (q_13, .inl (g.2.1 2, 5, .inl (fun _ => 0))), (q_14, .inl (g.2.1 1, 6, .inl (fun _ => 0))), (q_15, .inl (g.2.1 2, 6, .inl (fun _ => 0))), (q_31, .inr (4, [.int 0, .int 0, .int 0, .int 0, .int 0, .int 0, .int 0, .int 0, .int 0, .int 0, .int 0, .int 0, .ref q_32, .ref q_33, .ref q_34, .ref q_35, .ref q_36])), (q_32, .inl (g.2.1 1, 5, .inl (fun _ => 0))), (q_33, .inl (g.2.1 1, 5, .inl (fun _ => 0))), (q_34, .inl (g.2.1 2, 5, .inl (fun _ => 0))), (q_35, .inl (g.2.1 1, 6, .inl (fun _ => 0))), (q_36, .inl (g.2.1 2, 6, .inl (fun _ => 0)))] H := hP
  have hD : va_D A [(t0, .inr (6, [.ref q_1, .ref q_2, .ref q_4, .ref q_6, .int 0, .ref q_8, .int 0, .int 0, .int 0, .int 0, .long 0, .int 0, .int 0])), (q_1, .inl (g.2.1 3, 6, .inr (.inr (.inr (.inr (va_up (va_up (va_up (va_up (fun _ => none) 0 (some q_10)) 1 (some q_17)) 2 (some q_24)) 3 (some q_31))))))), (q_2, .inr (5, [.ref q_1, .ref q_3, .int 0])), (q_3, .inl (g.2.1 4, 0, .inr (.inr (.inr (.inr (fun _ => none)))))), (q_4, .inr (3, [.ref q_5])), (q_5, .inl (g.2.1 0, 64, .inl (fun _ => 0))), (q_6, .inr (2, [.ref q_7, .int 0, .int 0])), (q_7, .inl (g.2.1 1, 16, .inl (fun _ => 0))), (q_8, .inl (g.2.1 1, 6, .inl (fun _ => 0))), (q_10, .inr (4, [.int 0, .int 0, .int 0, .int 0, .int 0, .int 0, .int 0, .int 0, .int 0, .int 0, .int 0, .int 0, .ref q_11, .ref q_12, .ref q_13, .ref q_14, .ref q_15])), (q_11, .inl (g.2.1 1, 5, .inl (fun _ => 0))), (q_12, .inl (g.2.1 1, 5, .inl (fun _ => 0))), (q_13, .inl (g.2.1 2, 5, .inl (fun _ => 0))), (q_14, .inl (g.2.1 1, 6, .inl (fun _ => 0))), (q_15, .inl (g.2.1 2, 6, .inl (fun _ => 0))), (q_31, .inr (4, [.int 0, .int 0, .int 0, .int 0, .int 0, .int 0, .int 0, .int 0, .int 0, .int 0, .int 0, .int 0, .ref q_32, .ref q_33, .ref q_34, .ref q_35, .ref q_36])), (q_32, .inl (g.2.1 1, 5, .inl (fun _ => 0))), (q_33, .inl (g.2.1 1, 5, .inl (fun _ => 0))), (q_34, .inl (g.2.1 2, 5, .inl (fun _ => 0))), (q_35, .inl (g.2.1 1, 6, .inl (fun _ => 0))), (q_36, .inl (g.2.1 2, 6, .inl (fun _ => 0)))] := hD
  have hP := hP.sub (ws' := [(t0, .inr (6, [.ref q_1, .ref q_2, .ref q_4, .ref q_6, .int 0, .ref q_8, .int 0, .int 0, .int 0, .int 0, .long 0, .int 0, .int 0])), (q_1, .inl (g.2.1 3, 6, .inr (.inr (.inr (.inr (va_up (va_up (va_up (va_up (fun _ => none) 0 (some q_10)) 1 (some q_17)) 2 (some q_24)) 3 (some q_31))))))), (q_2, .inr (5, [.ref q_1, .ref q_3, .int 0])), (q_3, .inl (g.2.1 4, 0, .inr (.inr (.inr (.inr (fun _ => none)))))), (q_4, .inr (3, [.ref q_5])), (q_5, .inl (g.2.1 0, 64, .inl (fun _ => 0))), (q_6, .inr (2, [.ref q_7, .int 0, .int 0])), (q_7, .inl (g.2.1 1, 16, .inl (fun _ => 0))), (q_8, .inl (g.2.1 1, 6, .inl (fun _ => 0))), (q_10, .inr (4, [.int 0, .int 0, .int 0, .int 0, .int 0, .int 0, .int 0, .int 0, .int 0, .int 0, .int 0, .int 0, .ref q_11, .ref q_12, .ref q_13, .ref q_14, .ref q_15])), (q_11, .inl (g.2.1 1, 5, .inl (fun _ => 0))), (q_12, .inl (g.2.1 1, 5, .inl (fun _ => 0))), (q_13, .inl (g.2.1 2, 5, .inl (fun _ => 0))), (q_14, .inl (g.2.1 1, 6, .inl (fun _ => 0))), (q_15, .inl (g.2.1 2, 6, .inl (fun _ => 0)))]) [0, 1, 2, 3, 4, 5, 6, 7, 8, 9, 10, 11, 12, 13, 14] rfl
  have hD := hD.sub (ws' := [(t0, .inr (6, [.ref q_1, .ref q_2, .ref q_4, .ref q_6, .int 0, .ref q_8, .int 0, .int 0, .int 0, .int 0, .long 0, .int 0, .int 0])), (q_1, .inl (g.2.1 3, 6, .inr (.inr (.inr (.inr (va_up (va_up (va_up (va_up (fun _ => none) 0 (some q_10)) 1 (some q_17)) 2 (some q_24)) 3 (some q_31))))))), (q_2, .inr (5, [.ref q_1, .ref q_3, .int 0])), (q_3, .inl (g.2.1 4, 0, .inr (.inr (.inr (.inr (fun _ => none)))))), (q_4, .inr (3, [.ref q_5])), (q_5, .inl (g.2.1 0, 64, .inl (fun _ => 0))), (q_6, .inr (2, [.ref q_7, .int 0, .int 0])), (q_7, .inl (g.2.1 1, 16, .inl (fun _ => 0))), (q_8, .inl (g.2.1 1, 6, .inl (fun _ => 0))), (q_10, .inr (4, [.int 0, .int 0, .int 0, .int 0, .int 0, .int 0, .int 0, .int 0, .int 0, .int 0, .int 0, .int 0, .ref q_11, .ref q_12, .ref q_13, .ref q_14, .ref q_15])), (q_11, .inl (g.2.1 1, 5, .inl (fun _ => 0))), (q_12, .inl (g.2.1 1, 5, .inl (fun _ => 0))), (q_13, .inl (g.2.1 2, 5, .inl (fun _ => 0))), (q_14, .inl (g.2.1 1, 6, .inl (fun _ => 0))), (q_15, .inl (g.2.1 2, 6, .inl (fun _ => 0)))]) [0, 1, 2, 3, 4, 5, 6, 7, 8, 9, 10, 11, 12, 13, 14] (by decide) rfl
  refine lv_iinc (v := 4) (lv' := [(1, .int 4), (0, .ref t0)]) hx hb dX5_init_79 hl (k := 0) rfl (by decide) (by decide) rfl (fun ls hl => ?_)
  refine lv_goto (tgt := 60) hx hb dX5_init_82 (by decide) ?_
  refine lv_iload_n hx hb dX5_init_60 rfl (lv_at hl 0 rfl) ?_
  refine lv_bipush (v := 6) hx hb dX5_init_61 (by decide) ?_
  refine lv_icmp_ge (tgt := 85) hx hb dX5_init_63 (by decide) (fun c_37 => absurd c_37 (by decide)) (fun c_37 => ?_)
  refine lv_aload_n hx hb dX5_init_66 rfl (lv_at hl 1 rfl) ?_
  refine va_get (D := g.1) (ci := 6) (v := .ref q_1) (C := RX5) (T := TX5) (N := 13) hx hb htg inG_X5 hown hK hP 0 rfl rfl 0 (by decide) (htg _ k247) (fun _ h9 => h9) rfl dX5_init_67 ?_
  refine lv_iload_n hx hb dX5_init_70 rfl (lv_at hl 0 rfl) ?_
  refine va_new (ci := 4) (fs := [.int 0, .int 0, .int 0, .int 0, .int 0, .int 0, .int 0, .int 0, .int 0, .int 0, .int 0, .int 0, .null, .null, .null, .null, .null]) (C := RX2) (T := TX2) (N := 17) hx hb htg inG_X2 tyX2 tyX2_ok hown (htg _ k106) (htg _ k157) (htg _ k55) hK hP hD hS hA rfl (by decide) (Nat.le_of_ble_eq_true rfl) (Nat.le_of_ble_eq_true rfl) dX5_init_71 (fun q_38 H hP hD hS => ?_)
  have hP : va_P g.1 CLS [(t0, .inr (6, [.ref q_1, .ref q_2, .ref q_4, .ref q_6, .int 0, .ref q_8, .int 0, .int 0, .int 0, .int 0, .long 0, .int 0, .int 0])), (q_1, .inl (g.2.1 3, 6, .inr (.inr (.inr (.inr (va_up (va_up (va_up (va_up (fun _ => none) 0 (some q_10)) 1 (some q_17)) 2 (some q_24)) 3 (some q_31))))))), (q_2, .inr (5, [.ref q_1, .ref q_3, .int 0])), (q_3, .inl (g.2.1 4, 0, .inr (.inr (.inr (.inr (fun _ => none)))))), (q_4, .inr (3, [.ref q_5])), (q_5, .inl (g.2.1 0, 64, .inl (fun _ => 0))), (q_6, .inr (2, [.ref q_7, .int 0, .int 0])), (q_7, .inl (g.2.1 1, 16, .inl (fun _ => 0))), (q_8, .inl (g.2.1 1, 6, .inl (fun _ => 0))), (q_10, .inr (4, [.int 0, .int 0, .int 0, .int 0, .int 0, .int 0, .int 0, .int 0, .int 0, .int 0, .int 0, .int 0, .ref q_11, .ref q_12, .ref q_13, .ref q_14, .ref q_15])), (q_11, .inl (g.2.1 1, 5, .inl (fun _ => 0))), (q_12, .inl (g.2.1 1, 5, .inl (fun _ => 0))), (q_13, .inl (g.2.1 2, 5, .inl (fun _ => 0))), (q_14, .inl (g.2.1 1, 6, .inl (fun _ => 0))), (q_15, .inl (g.2.1 2, 6, .inl (fun _ => 0))), (q_38, .inr (4, [.int 0, .int 0, .int 0, .int 0, .int 0, .int 0, .int 0, .int 0, .int 0, .int 0, .int 0, .int 0, .null, .null, .null, .null, .null]))] H := hP
  have hD : va_D A [(t0, .inr (6, [.ref q_1, .ref q_2, .ref q_4, .ref q_6, .int 0, .ref q_8, .int 0, .int 0, .int 0, .int 0, .long 0, .int 0, .int 0])), (q_1, .inl (g.2.1 3, 6, .inr (.inr (.inr (.inr (va_up (va_up (va_up (va_up (fun _ => none) 0 (some q_10)) 1 (some q_17)) 2 (some q_24)) 3 (some q_31))))))), (q_2, .inr (5, [.ref q_1, .ref q_3, .int 0])), (q_3, .inl (g.2.1 4, 0, .inr (.inr (.inr (.inr (fun _ => none)))))), (q_4, .inr (3, [.ref q_5])), (q_5, .inl (g.2.1 0, 64, .inl (fun _ => 0))), (q_6, .inr (2, [.ref q_7, .int 0, .int 0])), (q_7, .inl (g.2.1 1, 16, .inl (fun _ => 0))), (q_8, .inl (g.2.1 1, 6, .inl (fun _ => 0))), (q_10, .inr (4, [.int 0, .int 0, .int 0, .int 0, .int 0, .int 0, .int 0, .int 0, .int 0, .int 0, .int 0, .int 0, .ref q_11, .ref q_12, .ref q_13, .ref q_14, .ref q_15])), (q_11, .inl (g.2.1 1, 5, .inl (fun _ => 0))), (q_12, .inl (g.2.1 1, 5, .inl (fun _ => 0))), (q_13, .inl (g.2.1 2, 5, .inl (fun _ => 0))), (q_14, .inl (g.2.1 1, 6, .inl (fun _ => 0))), (q_15, .inl (g.2.1 2, 6, .inl (fun _ => 0))), (q_38, .inr (4, [.int 0, .int 0, .int 0, .int 0, .int 0, .int 0, .int 0, .int 0, .int 0, .int 0, .int 0, .int 0, .null, .null, .null, .null, .null]))] := hD
  refine W.widen (k := 33) (n := 292) (Nat.le_of_ble_eq_true rfl) (Nat.le_of_ble_eq_true rfl) ?_
  refine lv_dup hx hb dX5_init_74 rfl ?_
  have hPc := hP.sub (ws' := [(q_38, .inr (4, [.int 0, .int 0, .int 0, .int 0, .int 0, .int 0, .int 0, .int 0, .int 0, .int 0, .int 0, .int 0, .null, .null, .null, .null, .null]))]) [15] rfl
  have hDc := hD.sub (ws' := [(q_38, .inr (4, [.int 0, .int 0, .int 0, .int 0, .int 0, .int 0, .int 0, .int 0, .int 0, .int 0, .int 0, .int 0, .null, .null, .null, .null, .null]))]) [15] (by decide) rfl
  have hFc := va_free (wc := [(q_38, .inr (4, [.int 0, .int 0, .int 0, .int 0, .int 0, .int 0, .int 0, .int 0, .int 0, .int 0, .int 0, .int 0, .null, .null, .null, .null, .null]))]) hD hS hA [15] rfl
  refine q_cv (wr := [(t0, .inr (6, [.ref q_1, .ref q_2, .ref q_4, .ref q_6, .int 0, .ref q_8, .int 0, .int 0, .int 0, .int 0, .long 0, .int 0, .int 0])), (q_1, .inl (g.2.1 3, 6, .inr (.inr (.inr (.inr (va_up (va_up (va_up (va_up (fun _ => none) 0 (some q_10)) 1 (some q_17)) 2 (some q_24)) 3 (some q_31))))))), (q_2, .inr (5, [.ref q_1, .ref q_3, .int 0])), (q_3, .inl (g.2.1 4, 0, .inr (.inr (.inr (.inr (fun _ => none)))))), (q_4, .inr (3, [.ref q_5])), (q_5, .inl (g.2.1 0, 64, .inl (fun _ => 0))), (q_6, .inr (2, [.ref q_7, .int 0, .int 0])), (q_7, .inl (g.2.1 1, 16, .inl (fun _ => 0))), (q_8, .inl (g.2.1 1, 6, .inl (fun _ => 0))), (q_10, .inr (4, [.int 0, .int 0, .int 0, .int 0, .int 0, .int 0, .int 0, .int 0, .int 0, .int 0, .int 0, .int 0, .ref q_11, .ref q_12, .ref q_13, .ref q_14, .ref q_15])), (q_11, .inl (g.2.1 1, 5, .inl (fun _ => 0))), (q_12, .inl (g.2.1 1, 5, .inl (fun _ => 0))), (q_13, .inl (g.2.1 2, 5, .inl (fun _ => 0))), (q_14, .inl (g.2.1 1, 6, .inl (fun _ => 0))), (q_15, .inl (g.2.1 2, 6, .inl (fun _ => 0)))]) (va_runIN (As := []) (rest := [.ref q_38, .int 4, .ref q_1]) ⟨hx, hb, hml, hown, htg⟩ (c_X2_init l hfl g q_38  H.size) ⟨(qN htg k160 k55 hT.1.1.2.2.1 ok_X2_init rfl rfl ⟨Nat.le_of_ble_eq_true rfl, Nat.le_of_ble_eq_true rfl⟩), rfl, htg _ k159⟩ (q_pre [.ref q_38] hPc hDc hK hS hT hFc) rfl rfl hl.1 rfl (lv_room (Nat.le_of_ble_eq_true rfl)) dX5_init_75 ⟨Nat.le_of_ble_eq_true rfl, Nat.le_of_ble_eq_true rfl⟩) hP hD hS hFc [15] [0, 1, 2, 3, 4, 5, 6, 7, 8, 9, 10, 11, 12, 13, 14] rfl rfl (by decide) (by decide) (fun u9 H locs hw hP hD hS => ?_)
  try dsimp only at hw
  rcases hw with ⟨q_39, q_40, q_41, q_42, q_43, rfl⟩
  have hP : va_P g.1 CLS [(t0, .inr (6, [.ref q_1, .ref q_2, .ref q_4, .ref q_6, .int 0, .ref q_8, .int 0, .int 0, .int 0, .int 0, .long 0, .int 0, .int 0])), (q_1, .inl (g.2.1 3, 6, .inr (.inr (.inr (.inr (va_up (va_up (va_up (va_up (fun _ => none) 0 (some q_10)) 1 (some q_17)) 2 (some q_24)) 3 (some q_31))))))), (q_2, .inr (5, [.ref q_1, .ref q_3, .int 0])), (q_3, .inl (g.2.1 4, 0, .inr (.inr (.inr (.inr (fun _ => none)))))), (q_4, .inr (3, [.ref q_5])), (q_5, .inl (g.2.1 0, 64, .inl (fun _ => 0))), (q_6, .inr (2, [.ref q_7, .int 0, .int 0])), (q_7, .inl (g.2.1 1, 16, .inl (fun _ => 0))), (q_8, .inl (g.2.1 1, 6, .inl (fun _ => 0))), (q_10, .inr (4, [.int 0, .int 0, .int 0, .int 0, .int 0, .int 0, .int 0, .int 0, .int 0, .int 0, .int 0, .int 0, .ref q_11, .ref q_12, .ref q_13, .ref q_14, .ref q_15])), (q_11, .inl (g.2.1 1, 5, .inl (fun _ => 0))), (q_12, .inl (g.2.1 1, 5, .inl (fun _ => 0))), (q_13, .inl (g.2.1 2, 5, .inl (fun _ => 0))), (q_14, .inl (g.2.1 1, 6, .inl (fun _ => 0))), (q_15, .inl (g.2.1 2, 6, .inl (fun _ => 0))), (q_38, .inr (4, [.int 0, .int 0, .int 0, .int 0, .int 0, .int 0, .int 0, .int 0, .int 0, .int 0, .int 0, .int 0, .ref q_39, .ref q_40, .ref q_41, .ref q_42, .ref q_43])), (q_39, .inl (g.2.1 1, 5, .inl (fun _ => 0))), (q_40, .inl (g.2.1 1, 5, .inl (fun _ => 0))), (q_41, .inl (g.2.1 2, 5, .inl (fun _ => 0))), (q_42, .inl (g.2.1 1, 6, .inl (fun _ => 0))), (q_43, .inl (g.2.1 2, 6, .inl (fun _ => 0)))] H := hP
  have hD : va_D A [(t0, .inr (6, [.ref q_1, .ref q_2, .ref q_4, .ref q_6, .int 0, .ref q_8, .int 0, .int 0, .int 0, .int 0, .long 0, .int 0, .int 0])), (q_1, .inl (g.2.1 3, 6, .inr (.inr (.inr (.inr (va_up (va_up (va_up (va_up (fun _ => none) 0 (some q_10)) 1 (some q_17)) 2 (some q_24)) 3 (some q_31))))))), (q_2, .inr (5, [.ref q_1, .ref q_3, .int 0])), (q_3, .inl (g.2.1 4, 0, .inr (.inr (.inr (.inr (fun _ => none)))))), (q_4, .inr (3, [.ref q_5])), (q_5, .inl (g.2.1 0, 64, .inl (fun _ => 0))), (q_6, .inr (2, [.ref q_7, .int 0, .int 0])), (q_7, .inl (g.2.1 1, 16, .inl (fun _ => 0))), (q_8, .inl (g.2.1 1, 6, .inl (fun _ => 0))), (q_10, .inr (4, [.int 0, .int 0, .int 0, .int 0, .int 0, .int 0, .int 0, .int 0, .int 0, .int 0, .int 0, .int 0, .ref q_11, .ref q_12, .ref q_13, .ref q_14, .ref q_15])), (q_11, .inl (g.2.1 1, 5, .inl (fun _ => 0))), (q_12, .inl (g.2.1 1, 5, .inl (fun _ => 0))), (q_13, .inl (g.2.1 2, 5, .inl (fun _ => 0))), (q_14, .inl (g.2.1 1, 6, .inl (fun _ => 0))), (q_15, .inl (g.2.1 2, 6, .inl (fun _ => 0))), (q_38, .inr (4, [.int 0, .int 0, .int 0, .int 0, .int 0, .int 0, .int 0, .int 0, .int 0, .int 0, .int 0, .int 0, .ref q_39, .ref q_40, .ref q_41, .ref q_42, .ref q_43])), (q_39, .inl (g.2.1 1, 5, .inl (fun _ => 0))), (q_40, .inl (g.2.1 1, 5, .inl (fun _ => 0))), (q_41, .inl (g.2.1 2, 5, .inl (fun _ => 0))), (q_42, .inl (g.2.1 1, 6, .inl (fun _ => 0))), (q_43, .inl (g.2.1 2, 6, .inl (fun _ => 0)))] := hD
  refine W.widen (k := 38) (n := 319) (Nat.le_of_ble_eq_true rfl) (Nat.le_of_ble_eq_true rfl) ?_
  refine va_astq hx hb hK hP hD hS 1 3 15 4 rfl rfl rfl rfl (i := 4) (vp_in_iff.mpr (by decide)) dX5_init_78 (fun H locs hP hD hS => ?_)
  have hP : va_P g.1 CLS [(t0, .inr (6, [.ref q_1, .ref q_2, .ref q_4, .ref q_6, .int 0, .ref q_8, .int 0, .int 0, .int 0, .int 0, .long 0, .int 0, .int 0])), (q_1, .inl (g.2.1 3, 6, .inr (.inr (.inr (.inr (va_up (va_up (va_up (va_up (va_up (fun _ => none) 0 (some q_10)) 1 (some q_17)) 2 (some q_24)) 3 (some q_31)) 4 (some q_38))))))), (q_2, .inr (5, [.ref q_1, .ref q_3, .int 0])), (q_3, .inl (g.2.1 4, 0, .inr (.inr (.inr (.inr (fun _ => none)))))), (q_4, .inr (3, [.ref q_5])), (q_5, .inl (g.2.1 0, 64, .inl (fun _ => 0))), (q_6, .inr (2, [.ref q_7, .int 0, .int 0])), (q_7, .inl (g.2.1 1, 16, .inl (fun _ => 0))), (q_8, .inl (g.2.1 1, 6, .inl (fun _ => 0))), (q_10, .inr (4, [.int 0, .int 0, .int 0, .int 0, .int 0, .int 0, .int 0, .int 0, .int 0, .int 0, .int 0, .int 0, .ref q_11, .ref q_12, .ref q_13, .ref q_14, .ref q_15])), (q_11, .inl (g.2.1 1, 5, .inl (fun _ => 0))), (q_12, .inl (g.2.1 1, 5, .inl (fun _ => 0))), (q_13, .inl (g.2.1 2, 5, .inl (fun _ => 0))), (q_14, .inl (g.2.1 1, 6, .inl (fun _ => 0))), (q_15, .inl (g.2.1 2, 6, .inl (fun _ => 0))), (q_38, .inr (4, [.int 0, .int 0, .int 0, .int 0, .int 0, .int 0, .int 0, .int 0, .int 0, .int 0, .int 0, .int 0, .ref q_39, .ref q_40, .ref q_41, .ref q_42, .ref q_43])), (q_39, .inl (g.2.1 1, 5, .inl (fun _ => 0))), (q_40, .inl (g.2.1 1, 5, .inl (fun _ => 0))), (q_41, .inl (g.2.1 2, 5, .inl (fun _ => 0))), (q_42, .inl (g.2.1 1, 6, .inl (fun _ => 0))), (q_43, .inl (g.2.1 2, 6, .inl (fun _ => 0)))] H := hP
  have hD : va_D A [(t0, .inr (6, [.ref q_1, .ref q_2, .ref q_4, .ref q_6, .int 0, .ref q_8, .int 0, .int 0, .int 0, .int 0, .long 0, .int 0, .int 0])), (q_1, .inl (g.2.1 3, 6, .inr (.inr (.inr (.inr (va_up (va_up (va_up (va_up (va_up (fun _ => none) 0 (some q_10)) 1 (some q_17)) 2 (some q_24)) 3 (some q_31)) 4 (some q_38))))))), (q_2, .inr (5, [.ref q_1, .ref q_3, .int 0])), (q_3, .inl (g.2.1 4, 0, .inr (.inr (.inr (.inr (fun _ => none)))))), (q_4, .inr (3, [.ref q_5])), (q_5, .inl (g.2.1 0, 64, .inl (fun _ => 0))), (q_6, .inr (2, [.ref q_7, .int 0, .int 0])), (q_7, .inl (g.2.1 1, 16, .inl (fun _ => 0))), (q_8, .inl (g.2.1 1, 6, .inl (fun _ => 0))), (q_10, .inr (4, [.int 0, .int 0, .int 0, .int 0, .int 0, .int 0, .int 0, .int 0, .int 0, .int 0, .int 0, .int 0, .ref q_11, .ref q_12, .ref q_13, .ref q_14, .ref q_15])), (q_11, .inl (g.2.1 1, 5, .inl (fun _ => 0))), (q_12, .inl (g.2.1 1, 5, .inl (fun _ => 0))), (q_13, .inl (g.2.1 2, 5, .inl (fun _ => 0))), (q_14, .inl (g.2.1 1, 6, .inl (fun _ => 0))), (q_15, .inl (g.2.1 2, 6, .inl (fun _ => 0))), (q_38, .inr (4, [.int 0, .int 0, .int 0, .int 0, .int 0, .int 0, .int 0, .int 0, .int 0, .int 0, .int 0, .int 0, .ref q_39, .ref q_40, .ref q_41, .ref q_42, .ref q_43])), (q_39, .inl (g.2.1 1, 5, .inl (fun _ => 0))), (q_40, .inl (g.2.1 1, 5, .inl (fun _ => 0))), (q_41, .inl (g.2.1 2, 5, .inl (fun _ => 0))), (q_42, .inl (g.2.1 1, 6, .inl (fun _ => 0))), (q_43, .inl (g.2.1 2, 6, .inl (fun _ => 0)))] := hD
  have hP := hP.sub (ws' := [(t0, .inr (6, [.ref q_1, .ref q_2, .ref q_4, .ref q_6, .int 0, .ref q_8, .int 0, .int 0, .int 0, .int 0, .long 0, .int 0, .int 0])), (q_1, .inl (g.2.1 3, 6, .inr (.inr (.inr (.inr (va_up (va_up (va_up (va_up (va_up (fun _ => none) 0 (some q_10)) 1 (some q_17)) 2 (some q_24)) 3 (some q_31)) 4 (some q_38))))))), (q_2, .inr (5, [.ref q_1, .ref q_3, .int 0])), (q_3, .inl (g.2.1 4, 0, .inr (.inr (.inr (.inr (fun _ => none)))))), (q_4, .inr (3, [.ref q_5])), (q_5, .inl (g.2.1 0, 64, .inl (fun _ => 0))), (q_6, .inr (2, [.ref q_7, .int 0, .int 0])), (q_7, .inl (g.2.1 1, 16, .inl (fun _ => 0))), (q_8, .inl (g.2.1 1, 6, .inl (fun _ => 0))), (q_10, .inr (4, [.int 0, .int 0, .int 0, .int 0, .int 0, .int 0, .int 0, .int 0, .int 0, .int 0, .int 0, .int 0, .ref q_11, .ref q_12, .ref q_13, .ref q_14, .ref q_15])), (q_11, .inl (g.2.1 1, 5, .inl (fun _ => 0))), (q_12, .inl (g.2.1 1, 5, .inl (fun _ => 0))), (q_13, .inl (g.2.1 2, 5, .inl (fun _ => 0))), (q_14, .inl (g.2.1 1, 6, .inl (fun _ => 0))), (q_15, .inl (g.2.1 2, 6, .inl (fun _ => 0)))]) [0, 1, 2, 3, 4, 5, 6, 7, 8, 9, 10, 11, 12, 13, 14] rfl
  have hD := hD.sub (ws' := [(t0, .inr (6, [.ref q_1, .ref q_2, .ref q_4, .ref q_6, .int 0, .ref q_8, .int 0, .int 0, .int 0, .int 0, .long 0, .int 0, .int 0])), (q_1, .inl (g.2.1 3, 6, .inr (.inr (.inr (.inr (va_up (va_up (va_up (va_up (va_up (fun _ => none) 0 (some q_10)) 1 (some q_17)) 2 (some q_24)) 3 (some q_31)) 4 (some q_38))))))), (q_2, .inr (5, [.ref q_1, .ref q_3, .int 0])), (q_3, .inl (g.2.1 4, 0, .inr (.inr (.inr (.inr (fun _ => none)))))), (q_4, .inr (3, [.ref q_5])), (q_5, .inl (g.2.1 0, 64, .inl (fun _ => 0))), (q_6, .inr (2, [.ref q_7, .int 0, .int 0])), (q_7, .inl (g.2.1 1, 16, .inl (fun _ => 0))), (q_8, .inl (g.2.1 1, 6, .inl (fun _ => 0))), (q_10, .inr (4, [.int 0, .int 0, .int 0, .int 0, .int 0, .int 0, .int 0, .int 0, .int 0, .int 0, .int 0, .int 0, .ref q_11, .ref q_12, .ref q_13, .ref q_14, .ref q_15])), (q_11, .inl (g.2.1 1, 5, .inl (fun _ => 0))), (q_12, .inl (g.2.1 1, 5, .inl (fun _ => 0))), (q_13, .inl (g.2.1 2, 5, .inl (fun _ => 0))), (q_14, .inl (g.2.1 1, 6, .inl (fun _ => 0))), (q_15, .inl (g.2.1 2, 6, .inl (fun _ => 0)))]) [0, 1, 2, 3, 4, 5, 6, 7, 8, 9, 10, 11, 12, 13, 14] (by decide) rfl
  refine lv_iinc (v := 5) (lv' := [(1, .int 5), (0, .ref t0)]) hx hb dX5_init_79 hl (k := 0) rfl (by decide) (by decide) rfl (fun ls hl => ?_)
  refine lv_goto (tgt := 60) hx hb dX5_init_82 (by decide) ?_
  refine lv_iload_n hx hb dX5_init_60 rfl (lv_at hl 0 rfl) ?_
  refine lv_bipush (v := 6) hx hb dX5_init_61 (by decide) ?_
  refine lv_icmp_ge (tgt := 85) hx hb dX5_init_63 (by decide) (fun c_44 => absurd c_44 (by decide)) (fun c_44 => ?_)
  refine lv_aload_n hx hb dX5_init_66 rfl (lv_at hl 1 rfl) ?_
  refine va_get (D := g.1) (ci := 6) (v := .ref q_1) (C := RX5) (T := TX5) (N := 13) hx hb htg inG_X5 hown hK hP 0 rfl rfl 0 (by decide) (htg _ k247) (fun _ h9 => h9) rfl dX5_init_67 ?_
  refine lv_iload_n hx hb dX5_init_70 rfl (lv_at hl 0 rfl) ?_
  refine va_new (ci := 4) (fs := [.int 0, .int 0, .int 0, .int 0, .int 0, .int 0, .int 0, .int 0, .int 0, .int 0, .int 0, .int 0, .null, .null, .null, .null, .null]) (C := RX2) (T := TX2) (N := 17) hx hb htg inG_X2 tyX2 tyX2_ok hown (htg _ k106) (htg _ k157) (htg _ k55) hK hP hD hS hA rfl (by decide) (Nat.le_of_ble_eq_true rfl) (Nat.le_of_ble_eq_true rfl) dX5_init_71 (fun q_45 H hP hD hS => ?_)
  have hP : va_P g.1 CLS [(t0, .inr (6, [.ref q_1, .ref q_2, .ref q_4, .ref q_6, .int 0, .ref q_8, .int 0, .int 0, .int 0, .int 0, .long 0, .int 0, .int 0])), (q_1, .inl (g.2.1 3, 6, .inr (.inr (.inr (.inr (va_up (va_up (va_up (va_up (va_up (fun _ => none) 0 (some q_10)) 1 (some q_17)) 2 (some q_24)) 3 (some q_31)) 4 (some q_38))))))), (q_2, .inr (5, [.ref q_1, .ref q_3, .int 0])), (q_3, .inl (g.2.1 4, 0, .inr (.inr (.inr (.inr (fun _ => none)))))), (q_4, .inr (3, [.ref q_5])), (q_5, .inl (g.2.1 0, 64, .inl (fun _ => 0))), (q_6, .inr (2, [.ref q_7, .int 0, .int 0])), (q_7, .inl (g.2.1 1, 16, .inl (fun _ => 0))), (q_8, .inl (g.2.1 1, 6, .inl (fun _ => 0))), (q_10, .inr (4, [.int 0, .int 0, .int 0, .int 0, .int 0, .int 0, .int 0, .int 0, .int 0, .int 0, .int 0, .int 0, .ref q_11, .ref q_12, .ref q_13, .ref q_14, .ref q_15])), (q_11, .inl (g.2.1 1, 5, .inl (fun _ => 0))), (q_12, .inl (g.2.1 1, 5, .inl (fun _ => 0))), (q_13, .inl (g.2.1 2, 5, .inl (fun _ => 0))), (q_14, .inl (g.2.1 1, 6, .inl (fun _ => 0))), (q_15, .inl (g.2.1 2, 6, .inl (fun _ => 0))), (q_45, .inr (4, [.int 0, .int 0, .int 0, .int 0, .int 0, .int 0, .int 0, .int 0, .int 0, .int 0, .int 0, .int 0, .null, .null, .null, .null, .null]))] H := hP
  have hD : va_D A [(t0, .inr (6, [.ref q_1, .ref q_2, .ref q_4, .ref q_6, .int 0, .ref q_8, .int 0, .int 0, .int 0, .int 0, .long 0, .int 0, .int 0])), (q_1, .inl (g.2.1 3, 6, .inr (.inr (.inr (.inr (va_up (va_up (va_up (va_up (va_up (fun _ => none) 0 (some q_10)) 1 (some q_17)) 2 (some q_24)) 3 (some q_31)) 4 (some q_38))))))), (q_2, .inr (5, [.ref q_1, .ref q_3, .int 0])), (q_3, .inl (g.2.1 4, 0, .inr (.inr (.inr (.inr (fun _ => none)))))), (q_4, .inr (3, [.ref q_5])), (q_5, .inl (g.2.1 0, 64, .inl (fun _ => 0))), (q_6, .inr (2, [.ref q_7, .int 0, .int 0])), (q_7, .inl (g.2.1 1, 16, .inl (fun _ => 0))), (q_8, .inl (g.2.1 1, 6, .inl (fun _ => 0))), (q_10, .inr (4, [.int 0, .int 0, .int 0, .int 0, .int 0, .int 0, .int 0, .int 0, .int 0, .int 0, .int 0, .int 0, .ref q_11, .ref q_12, .ref q_13, .ref q_14, .ref q_15])), (q_11, .inl (g.2.1 1, 5, .inl (fun _ => 0))), (q_12, .inl (g.2.1 1, 5, .inl (fun _ => 0))), (q_13, .inl (g.2.1 2, 5, .inl (fun _ => 0))), (q_14, .inl (g.2.1 1, 6, .inl (fun _ => 0))), (q_15, .inl (g.2.1 2, 6, .inl (fun _ => 0))), (q_45, .inr (4, [.int 0, .int 0, .int 0, .int 0, .int 0, .int 0, .int 0, .int 0, .int 0, .int 0, .int 0, .int 0, .null, .null, .null, .null, .null]))] := hD
  refine W.widen (k := 39) (n := 336) (Nat.le_of_ble_eq_true rfl) (Nat.le_of_ble_eq_true rfl) ?_
  refine lv_dup hx hb dX5_init_74 rfl ?_
  have hPc := hP.sub (ws' := [(q_45, .inr (4, [.int 0, .int 0, .int 0, .int 0, .int 0, .int 0, .int 0, .int 0, .int 0, .int 0, .int 0, .int 0, .null, .null, .null, .null, .null]))]) [15] rfl
  have hDc := hD.sub (ws' := [(q_45, .inr (4, [.int 0, .int 0, .int 0, .int 0, .int 0, .int 0, .int 0, .int 0, .int 0, .int 0, .int 0, .int 0, .null, .null, .null, .null, .null]))]) [15] (by decide) rfl
  have hFc := va_free (wc := [(q_45, .inr (4, [.int 0, .int 0, .int 0, .int 0, .int 0, .int 0, .int 0, .int 0, .int 0, .int 0, .int 0, .int 0, .null, .null, .null, .null, .null]))]) hD hS hA [15] rfl
  refine q_cv (wr := [(t0, .inr (6, [.ref q_1, .ref q_2, .ref q_4, .ref q_6, .int 0, .ref q_8, .int 0, .int 0, .int 0, .int 0, .long 0, .int 0, .int 0])), (q_1, .inl (g.2.1 3, 6, .inr (.inr (.inr (.inr (va_up (va_up (va_up (va_up (va_up (fun _ => none) 0 (some q_10)) 1 (some q_17)) 2 (some q_24)) 3 (some q_31)) 4 (some q_38))))))), (q_2, .inr (5, [.ref q_1, .ref q_3, .int 0])), (q_3, .inl (g.2.1 4, 0, .inr (.inr (.inr (.inr (fun _ => none)))))), (q_4, .inr (3, [.ref q_5])), (q_5, .inl (g.2.1 0, 64, .inl (fun _ => 0))), (q_6, .inr (2, [.ref q_7, .int 0, .int 0])), (q_7, .inl (g.2.1 1, 16, .inl (fun _ => 0))), (q_8, .inl (g.2.1 1, 6, .inl (fun _ => 0))), (q_10, .inr (4, [.int 0, .int 0, .int 0, .int 0, .int 0, .int 0, .int 0, .int 0, .int 0, .int 0, .int 0, .int 0, .ref q_11, .ref q_12, .ref q_13, .ref q_14, .ref q_15])), (q_11, .inl (g.2.1 1, 5, .inl (fun _ => 0))), (q_12, .inl (g.2.1 1, 5, .inl (fun _ => 0))), (q_13, .inl (g.2.1 2, 5, .inl (fun _ => 0))), (q_14, .inl (g.2.1 1, 6, .inl (fun _ => 0))), (q_15, .inl (g.2.1 2, 6, .inl (fun _ => 0)))]) (va_runIN (As := []) (rest := [.ref q_45, .int 5, .ref q_1]) ⟨hx, hb, hml, hown, htg⟩ (c_X2_init l hfl g q_45  H.size) ⟨(qN htg k160 k55 hT.1.1.2.2.1 ok_X2_init rfl rfl ⟨Nat.le_of_ble_eq_true rfl, Nat.le_of_ble_eq_true rfl⟩), rfl, htg _ k159⟩ (q_pre [.ref q_45] hPc hDc hK hS hT hFc) rfl rfl hl.1 rfl (lv_room (Nat.le_of_ble_eq_true rfl)) dX5_init_75 ⟨Nat.le_of_ble_eq_true rfl, Nat.le_of_ble_eq_true rfl⟩) hP hD hS hFc [15] [0, 1, 2, 3, 4, 5, 6, 7, 8, 9, 10, 11, 12, 13, 14] rfl rfl (by decide) (by decide) (fun u9 H locs hw hP hD hS => ?_)
  try dsimp only at hw
  rcases hw with ⟨q_46, q_47, q_48, q_49, q_50, rfl⟩
  have hP : va_P g.1 CLS [(t0, .inr (6, [.ref q_1, .ref q_2, .ref q_4, .ref q_6, .int 0, .ref q_8, .int 0, .int 0, .int 0, .int 0, .long 0, .int 0, .int 0])), (q_1, .inl (g.2.1 3, 6, .inr (.inr (.inr (.inr (va_up (va_up (va_up (va_up (va_up (fun _ => none) 0 (some q_10)) 1 (some q_17)) 2 (some q_24)) 3 (some q_31)) 4 (some q_38))))))), (q_2, .inr (5, [.ref q_1, .ref q_3, .int 0])), (q_3, .inl (g.2.1 4, 0, .inr (.inr (.inr (.inr (fun _ => none)))))), (q_4, .inr (3, [.ref q_5])), (q_5, .inl (g.2.1 0, 64, .inl (fun _ => 0))), (q_6, .inr (2, [.ref q_7, .int 0, .int 0])), (q_7, .inl (g.2.1 1, 16, .inl (fun _ => 0))), (q_8, .inl (g.2.1 1, 6, .inl (fun _ => 0))), (q_10, .inr (4, [.int 0, .int 0, .int 0, .int 0, .int 0, .int 0, .int 0, .int 0, .int 0, .int 0, .int 0, .int 0, .ref q_11, .ref q_12, .ref q_13, .ref q_14, .ref q_15])), (q_11, .inl (g.2.1 1, 5, .inl (fun _ => 0))), (q_12, .inl (g.2.1 1, 5, .inl (fun _ => 0))), (q_13, .inl (g.2.1 2, 5, .inl (fun _ => 0))), (q_14, .inl (g.2.1 1, 6, .inl (fun _ => 0))), (q_15, .inl (g.2.1 2, 6, .inl (fun _ => 0))), (q_45, .inr (4, [.int 0, .int 0, .int 0, .int 0, .int 0, .int 0, .int 0, .int 0, .int 0, .int 0, .int 0, .int 0, .ref q_46, .ref q_47, .ref q_48, .ref q_49, .ref q_50])), (q_46, .inl (g.2.1 1, 5, .inl (fun _ => 0))), (q_47, .inl (g.2.1 1, 5, .inl (fun _ => 0))), (q_48, .inl (g.2.1 2, 5, .inl (fun _ => 0))), (q_49, .inl (g.2.1 1, 6, .inl (fun _ => 0))), (q_50, .inl (g.2.1 2, 6, .inl (fun _ => 0)))] H := hP
  have hD : va_D A [(t0, .inr (6, [.ref q_1, .ref q_2, .ref q_4, .ref q_6, .int 0, .ref q_8, .int 0, .int 0, .int 0, .int 0, .long 0, .int 0, .int 0])), (q_1, .inl (g.2.1 3, 6, .inr (.inr (.inr (.inr (va_up (va_up (va_up (va_up (va_up (fun _ => none) 0 (some q_10)) 1 (some q_17)) 2 (some q_24)) 3 (some q_31)) 4 (some q_38))))))), (q_2, .inr (5, [.ref q_1, .ref q_3, .int 0])), (q_3, .inl (g.2.1 4, 0, .inr (.inr (.inr (.inr (fun _ => none)))))), (q_4, .inr (3, [.ref q_5])), (q_5, .inl (g.2.1 0, 64, .inl (fun _ => 0))), (q_6, .inr (2, [.ref q_7, .int 0, .int 0])), (q_7, .inl (g.2.1 1, 16, .inl (fun _ => 0))), (q_8, .inl (g.2.1 1, 6, .inl (fun _ => 0))), (q_10, .inr (4, [.int 0, .int 0, .int 0, .int 0, .int 0, .int 0, .int 0, .int 0, .int 0, .int 0, .int 0, .int 0, .ref q_11, .ref q_12, .ref q_13, .ref q_14, .ref q_15])), (q_11, .inl (g.2.1 1, 5, .inl (fun _ => 0))), (q_12, .inl (g.2.1 1, 5, .inl (fun _ => 0))), (q_13, .inl (g.2.1 2, 5, .inl (fun _ => 0))), (q_14, .inl (g.2.1 1, 6, .inl (fun _ => 0))), (q_15, .inl (g.2.1 2, 6, .inl (fun _ => 0))), (q_45, .inr (4, [.int 0, .int 0, .int 0, .int 0, .int 0, .int 0, .int 0, .int 0, .int 0, .int 0, .int 0, .int 0, .ref q_46, .ref q_47, .ref q_48, .ref q_49, .ref q_50])), (q_46, .inl (g.2.1 1, 5, .inl (fun _ => 0))), (q_47, .inl (g.2.1 1, 5, .inl (fun _ => 0))), (q_48, .inl (g.2.1 2, 5, .inl (fun _ => 0))), (q_49, .inl (g.2.1 1, 6, .inl (fun _ => 0))), (q_50, .inl (g.2.1 2, 6, .inl (fun _ => 0)))] := hD
  refine W.widen (k := 44) (n := 363) (Nat.le_of_ble_eq_true rfl) (Nat.le_of_ble_eq_true rfl) ?_
  refine va_astq hx hb hK hP hD hS 1 3 15 4 rfl rfl rfl rfl (i := 5) (vp_in_iff.mpr (by decide)) dX5_init_78 (fun H locs hP hD hS => ?_)
  have hP : va_P g.1 CLS [(t0, .inr (6, [.ref q_1, .ref q_2, .ref q_4, .ref q_6, .int 0, .ref q_8, .int 0, .int 0, .int 0, .int 0, .long 0, .int 0, .int 0])), (q_1, .inl (g.2.1 3, 6, .inr (.inr (.inr (.inr (va_up (va_up (va_up (va_up (va_up (va_up (fun _ => none) 0 (some q_10)) 1 (some q_17)) 2 (some q_24)) 3 (some q_31)) 4 (some q_38)) 5 (some q_45))))))), (q_2, .inr (5, [.ref q_1, .ref q_3, .int 0])), (q_3, .inl (g.2.1 4, 0, .inr (.inr (.inr (.inr (fun _ => none)))))), (q_4, .inr (3, [.ref q_5])), (q_5, .inl (g.2.1 0, 64, .inl (fun _ => 0))), (q_6, .inr (2, [.ref q_7, .int 0, .int 0])), (q_7, .inl (g.2.1 1, 16, .inl (fun _ => 0))), (q_8, .inl (g.2.1 1, 6, .inl (fun _ => 0))), (q_10, .inr (4, [.int 0, .int 0, .int 0, .int 0, .int 0, .int 0, .int 0, .int 0, .int 0, .int 0, .int 0, .int 0, .ref q_11, .ref q_12, .ref q_13, .ref q_14, .ref q_15])), (q_11, .inl (g.2.1 1, 5, .inl (fun _ => 0))), (q_12, .inl (g.2.1 1, 5, .inl (fun _ => 0))), (q_13, .inl (g.2.1 2, 5, .inl (fun _ => 0))), (q_14, .inl (g.2.1 1, 6, .inl (fun _ => 0))), (q_15, .inl (g.2.1 2, 6, .inl (fun _ => 0))), (q_45, .inr (4, [.int 0, .int 0, .int 0, .int 0, .int 0, .int 0, .int 0, .int 0, .int 0, .int 0, .int 0, .int 0, .ref q_46, .ref q_47, .ref q_48, .ref q_49, .ref q_50])), (q_46, .inl (g.2.1 1, 5, .inl (fun _ => 0))), (q_47, .inl (g.2.1 1, 5, .inl (fun _ => 0))), (q_48, .inl (g.2.1 2, 5, .inl (fun _ => 0))), (q_49, .inl (g.2.1 1, 6, .inl (fun _ => 0))), (q_50, .inl (g.2.1 2, 6, .inl (fun _ => 0)))] H := hP
  have hD : va_D A [(t0, .inr (6, [.ref q_1, .ref q_2, .ref q_4, .ref q_6, .int 0, .ref q_8, .int 0, .int 0, .int 0, .int 0, .long 0, .int 0, .int 0])), (q_1, .inl (g.2.1 3, 6, .inr (.inr (.inr (.inr (va_up (va_up (va_up (va_up (va_up (va_up (fun _ => none) 0 (some q_10)) 1 (some q_17)) 2 (some q_24)) 3 (some q_31)) 4 (some q_38)) 5 (some q_45))))))), (q_2, .inr (5, [.ref q_1, .ref q_3, .int 0])), (q_3, .inl (g.2.1 4, 0, .inr (.inr (.inr (.inr (fun _ => none)))))), (q_4, .inr (3, [.ref q_5])), (q_5, .inl (g.2.1 0, 64, .inl (fun _ => 0))), (q_6, .inr (2, [.ref q_7, .int 0, .int 0])), (q_7, .inl (g.2.1 1, 16, .inl (fun _ => 0))), (q_8, .inl (g.2.1 1, 6, .inl (fun _ => 0))), (q_10, .inr (4, [.int 0, .int 0, .int 0, .int 0, .int 0, .int 0, .int 0, .int 0, .int 0, .int 0, .int 0, .int 0, .ref q_11, .ref q_12, .ref q_13, .ref q_14, .ref q_15])), (q_11, .inl (g.2.1 1, 5, .inl (fun _ => 0))), (q_12, .inl (g.2.1 1, 5, .inl (fun _ => 0))), (q_13, .inl (g.2.1 2, 5, .inl (fun _ => 0))), (q_14, .inl (g.2.1 1, 6, .inl (fun _ => 0))), (q_15, .inl (g.2.1 2, 6, .inl (fun _ => 0))), (q_45, .inr (4, [.int 0, .int 0, .int 0, .int 0, .int 0, .int 0, .int 0, .int 0, .int 0, .int 0, .int 0, .int 0, .ref q_46, .ref q_47, .ref q_48, .ref q_49, .ref q_50])), (q_46, .inl (g.2.1 1, 5, .inl (fun _ => 0))), (q_47, .inl (g.2.1 1, 5, .inl (fun _ => 0))), (q_48, .inl (g.2.1 2, 5, .inl (fun _ => 0))), (q_49, .inl (g.2.1 1, 6, .inl (fun _ => 0))), (q_50, .inl (g.2.1 2, 6, .inl (fun _ => 0)))] := hD
  have hP := hP.sub (ws' := [(t0, .inr (6, [.ref q_1, .ref q_2, .ref q_4, .ref q_6, .int 0, .ref q_8, .int 0, .int 0, .int 0, .int 0, .long 0, .int 0, .int 0])), (q_1, .inl (g.2.1 3, 6, .inr (.inr (.inr (.inr (va_up (va_up (va_up (va_up (va_up (va_up (fun _ => none) 0 (some q_10)) 1 (some q_17)) 2 (some q_24)) 3 (some q_31)) 4 (some q_38)) 5 (some q_45))))))), (q_2, .inr (5, [.ref q_1, .ref q_3, .int 0])), (q_3, .inl (g.2.1 4, 0, .inr (.inr (.inr (.inr (fun _ => none)))))), (q_4, .inr (3, [.ref q_5])), (q_5, .inl (g.2.1 0, 64, .inl (fun _ => 0))), (q_6, .inr (2, [.ref q_7, .int 0, .int 0])), (q_7, .inl (g.2.1 1, 16, .inl (fun _ => 0))), (q_8, .inl (g.2.1 1, 6, .inl (fun _ => 0))), (q_10, .inr (4, [.int 0, .int 0, .int 0, .int 0, .int 0, .int 0, .int 0, .int 0, .int 0, .int 0, .int 0, .int 0, .ref q_11, .ref q_12, .ref q_13, .ref q_14, .ref q_15])), (q_11, .inl (g.2.1 1, 5, .inl (fun _ => 0))), (q_12, .inl (g.2.1 1, 5, .inl (fun _ => 0))), (q_13, .inl (g.2.1 2, 5, .inl (fun _ => 0))), (q_14, .inl (g.2.1 1, 6, .inl (fun _ => 0))), (q_15, .inl (g.2.1 2, 6, .inl (fun _ => 0)))]) [0, 1, 2, 3, 4, 5, 6, 7, 8, 9, 10, 11, 12, 13, 14] rfl
  have hD := hD.sub (ws' := [(t0, .inr (6, [.ref q_1, .ref q_2, .ref q_4, .ref q_6, .int 0, .ref q_8, .int 0, .int 0, .int 0, .int 0, .long 0, .int 0, .int 0])), (q_1, .inl (g.2.1 3, 6, .inr (.inr (.inr (.inr (va_up (va_up (va_up (va_up (va_up (va_up (fun _ => none) 0 (some q_10)) 1 (some q_17)) 2 (some q_24)) 3 (some q_31)) 4 (some q_38)) 5 (some q_45))))))), (q_2, .inr (5, [.ref q_1, .ref q_3, .int 0])), (q_3, .inl (g.2.1 4, 0, .inr (.inr (.inr (.inr (fun _ => none)))))), (q_4, .inr (3, [.ref q_5])), (q_5, .inl (g.2.1 0, 64, .inl (fun _ => 0))), (q_6, .inr (2, [.ref q_7, .int 0, .int 0])), (q_7, .inl (g.2.1 1, 16, .inl (fun _ => 0))), (q_8, .inl (g.2.1 1, 6, .inl (fun _ => 0))), (q_10, .inr (4, [.int 0, .int 0, .int 0, .int 0, .int 0, .int 0, .int 0, .int 0, .int 0, .int 0, .int 0, .int 0, .ref q_11, .ref q_12, .ref q_13, .ref q_14, .ref q_15])), (q_11, .inl (g.2.1 1, 5, .inl (fun _ => 0))), (q_12, .inl (g.2.1 1, 5, .inl (fun _ => 0))), (q_13, .inl (g.2.1 2, 5, .inl (fun _ => 0))), (q_14, .inl (g.2.1 1, 6, .inl (fun _ => 0))), (q_15, .inl (g.2.1 2, 6, .inl (fun _ => 0)))]) [0, 1, 2, 3, 4, 5, 6, 7, 8, 9, 10, 11, 12, 13, 14] (by decide) rfl
  refine lv_iinc (v := 6) (lv' := [(1, .int 6), (0, .ref t0)]) hx hb dX5_init_79 hl (k := 0) rfl (by decide) (by decide) rfl (fun ls hl => ?_)
  refine lv_goto (tgt := 60) hx hb dX5_init_82 (by decide) ?_
  refine lv_iload_n hx hb dX5_init_60 rfl (lv_at hl 0 rfl) ?_
  refine lv_bipush (v := 6) hx hb dX5_init_61 (by decide) ?_
  refine lv_icmp_ge (tgt := 85) hx hb dX5_init_63 (by decide) (fun c_51 => ?_) (fun c_51 => absurd (by decide) c_51)
  refine lv_aload_n hx hb dX5_init_85 rfl (lv_at hl 1 rfl) ?_
  refine va_get (D := g.1) (ci := 6) (v := .ref q_4) (C := RX5) (T := TX5) (N := 13) hx hb htg inG_X5 hown hK hP 0 rfl rfl 2 (by decide) (htg _ k251) (fun _ h9 => h9) rfl dX5_init_86 ?_
  have hPc := hP.sub (ws' := [(q_4, .inr (3, [.ref q_5])), (q_5, .inl (g.2.1 0, 64, .inl (fun _ => 0)))]) [4, 5] rfl
  have hDc := hD.sub (ws' := [(q_4, .inr (3, [.ref q_5])), (q_5, .inl (g.2.1 0, 64, .inl (fun _ => 0)))]) [4, 5] (by decide) rfl
  have hFc := va_free (wc := [(q_4, .inr (3, [.ref q_5])), (q_5, .inl (g.2.1 0, 64, .inl (fun _ => 0)))]) hD hS hA [4, 5] rfl
  refine q_cv (wr := [(t0, .inr (6, [.ref q_1, .ref q_2, .ref q_4, .ref q_6, .int 0, .ref q_8, .int 0, .int 0, .int 0, .int 0, .long 0, .int 0, .int 0])), (q_1, .inl (g.2.1 3, 6, .inr (.inr (.inr (.inr (va_up (va_up (va_up (va_up (va_up (va_up (fun _ => none) 0 (some q_10)) 1 (some q_17)) 2 (some q_24)) 3 (some q_31)) 4 (some q_38)) 5 (some q_45))))))), (q_2, .inr (5, [.ref q_1, .ref q_3, .int 0])), (q_3, .inl (g.2.1 4, 0, .inr (.inr (.inr (.inr (fun _ => none)))))), (q_6, .inr (2, [.ref q_7, .int 0, .int 0])), (q_7, .inl (g.2.1 1, 16, .inl (fun _ => 0))), (q_8, .inl (g.2.1 1, 6, .inl (fun _ => 0))), (q_10, .inr (4, [.int 0, .int 0, .int 0, .int 0, .int 0, .int 0, .int 0, .int 0, .int 0, .int 0, .int 0, .int 0, .ref q_11, .ref q_12, .ref q_13, .ref q_14, .ref q_15])), (q_11, .inl (g.2.1 1, 5, .inl (fun _ => 0))), (q_12, .inl (g.2.1 1, 5, .inl (fun _ => 0))), (q_13, .inl (g.2.1 2, 5, .inl (fun _ => 0))), (q_14, .inl (g.2.1 1, 6, .inl (fun _ => 0))), (q_15, .inl (g.2.1 2, 6, .inl (fun _ => 0)))]) (va_runV (As := []) (rest := []) ⟨hx, hb, hml, hown, htg⟩ (c_X1_level l hfl g q_4 q_5 (fun _ => 0)  H.size) ⟨(qB htg k246 k53 k243 ok_X1_level rfl rfl ⟨Nat.le_of_ble_eq_true rfl, Nat.le_of_ble_eq_true rfl⟩), htg _ k244, htg _ k245⟩ ⟨(q_pre [.ref q_4] hPc hDc hK hS hT hFc).1, va_recv hK hP (ci := 3) (q0 := 4) rfl rfl, (q_pre [.ref q_4] hPc hDc hK hS hT hFc).2⟩ rfl rfl hl.1 rfl (lv_room (Nat.le_of_ble_eq_true rfl)) dX5_init_89 ⟨Nat.le_of_ble_eq_true rfl, Nat.le_of_ble_eq_true rfl⟩) hP hD hS hFc [4, 5] [0, 1, 2, 3, 6, 7, 8, 9, 10, 11, 12, 13, 14] rfl rfl (by decide) (by decide) (fun u9 H locs hw hP hD hS => ?_)
  try dsimp only at hw
  rcases hw with ⟨f_52, c_53, rfl⟩
  have hP : va_P g.1 CLS [(t0, .inr (6, [.ref q_1, .ref q_2, .ref q_4, .ref q_6, .int 0, .ref q_8, .int 0, .int 0, .int 0, .int 0, .long 0, .int 0, .int 0])), (q_1, .inl (g.2.1 3, 6, .inr (.inr (.inr (.inr (va_up (va_up (va_up (va_up (va_up (va_up (fun _ => none) 0 (some q_10)) 1 (some q_17)) 2 (some q_24)) 3 (some q_31)) 4 (some q_38)) 5 (some q_45))))))), (q_2, .inr (5, [.ref q_1, .ref q_3, .int 0])), (q_3, .inl (g.2.1 4, 0, .inr (.inr (.inr (.inr (fun _ => none)))))), (q_6, .inr (2, [.ref q_7, .int 0, .int 0])), (q_7, .inl (g.2.1 1, 16, .inl (fun _ => 0))), (q_8, .inl (g.2.1 1, 6, .inl (fun _ => 0))), (q_10, .inr (4, [.int 0, .int 0, .int 0, .int 0, .int 0, .int 0, .int 0, .int 0, .int 0, .int 0, .int 0, .int 0, .ref q_11, .ref q_12, .ref q_13, .ref q_14, .ref q_15])), (q_11, .inl (g.2.1 1, 5, .inl (fun _ => 0))), (q_12, .inl (g.2.1 1, 5, .inl (fun _ => 0))), (q_13, .inl (g.2.1 2, 5, .inl (fun _ => 0))), (q_14, .inl (g.2.1 1, 6, .inl (fun _ => 0))), (q_15, .inl (g.2.1 2, 6, .inl (fun _ => 0))), (q_4, .inr (3, [.ref q_5])), (q_5, .inl (g.2.1 0, 64, .inl f_52))] H := hP
  have hD : va_D A [(t0, .inr (6, [.ref q_1, .ref q_2, .ref q_4, .ref q_6, .int 0, .ref q_8, .int 0, .int 0, .int 0, .int 0, .long 0, .int 0, .int 0])), (q_1, .inl (g.2.1 3, 6, .inr (.inr (.inr (.inr (va_up (va_up (va_up (va_up (va_up (va_up (fun _ => none) 0 (some q_10)) 1 (some q_17)) 2 (some q_24)) 3 (some q_31)) 4 (some q_38)) 5 (some q_45))))))), (q_2, .inr (5, [.ref q_1, .ref q_3, .int 0])), (q_3, .inl (g.2.1 4, 0, .inr (.inr (.inr (.inr (fun _ => none)))))), (q_6, .inr (2, [.ref q_7, .int 0, .int 0])), (q_7, .inl (g.2.1 1, 16, .inl (fun _ => 0))), (q_8, .inl (g.2.1 1, 6, .inl (fun _ => 0))), (q_10, .inr (4, [.int 0, .int 0, .int 0, .int 0, .int 0, .int 0, .int 0, .int 0, .int 0, .int 0, .int 0, .int 0, .ref q_11, .ref q_12, .ref q_13, .ref q_14, .ref q_15])), (q_11, .inl (g.2.1 1, 5, .inl (fun _ => 0))), (q_12, .inl (g.2.1 1, 5, .inl (fun _ => 0))), (q_13, .inl (g.2.1 2, 5, .inl (fun _ => 0))), (q_14, .inl (g.2.1 1, 6, .inl (fun _ => 0))), (q_15, .inl (g.2.1 2, 6, .inl (fun _ => 0))), (q_4, .inr (3, [.ref q_5])), (q_5, .inl (g.2.1 0, 64, .inl f_52))] := hD
  refine W.widen (k := 44) (n := 363) (Nat.le_of_ble_eq_true rfl) (Nat.le_of_ble_eq_true rfl) ?_
  refine lv_aload_n hx hb dX5_init_92 rfl (lv_at hl 1 rfl) ?_
  refine lv_iconst (v := (-1)) hx hb dX5_init_93 (by decide) ?_
  refine va_put (D := g.1) (ci := 6) (v := .int (-1)) (ty := .int) (C := RX5) (T := TX5) (N := 13) hx hb htg inG_X5 tyX5 tyX5_ok nmX5 hown hK hP hD hS 0 rfl rfl 6 (by decide) (htg _ k257) (fun _ h9 => h9) rfl (by decide +kernel) rfl rfl (Nat.le_of_ble_eq_true rfl) dX5_init_94 (fun H locs hP hD hS => ?_)
  have hP : va_P g.1 CLS [(t0, .inr (6, [.ref q_1, .ref q_2, .ref q_4, .ref q_6, .int 0, .ref q_8, .int (-1), .int 0, .int 0, .int 0, .long 0, .int 0, .int 0])), (q_1, .inl (g.2.1 3, 6, .inr (.inr (.inr (.inr (va_up (va_up (va_up (va_up (va_up (va_up (fun _ => none) 0 (some q_10)) 1 (some q_17)) 2 (some q_24)) 3 (some q_31)) 4 (some q_38)) 5 (some q_45))))))), (q_2, .inr (5, [.ref q_1, .ref q_3, .int 0])), (q_3, .inl (g.2.1 4, 0, .inr (.inr (.inr (.inr (fun _ => none)))))), (q_6, .inr (2, [.ref q_7, .int 0, .int 0])), (q_7, .inl (g.2.1 1, 16, .inl (fun _ => 0))), (q_8, .inl (g.2.1 1, 6, .inl (fun _ => 0))), (q_10, .inr (4, [.int 0, .int 0, .int 0, .int 0, .int 0, .int 0, .int 0, .int 0, .int 0, .int 0, .int 0, .int 0, .ref q_11, .ref q_12, .ref q_13, .ref q_14, .ref q_15])), (q_11, .inl (g.2.1 1, 5, .inl (fun _ => 0))), (q_12, .inl (g.2.1 1, 5, .inl (fun _ => 0))), (q_13, .inl (g.2.1 2, 5, .inl (fun _ => 0))), (q_14, .inl (g.2.1 1, 6, .inl (fun _ => 0))), (q_15, .inl (g.2.1 2, 6, .inl (fun _ => 0))), (q_4, .inr (3, [.ref q_5])), (q_5, .inl (g.2.1 0, 64, .inl f_52))] H := hP
  have hD : va_D A [(t0, .inr (6, [.ref q_1, .ref q_2, .ref q_4, .ref q_6, .int 0, .ref q_8, .int (-1), .int 0, .int 0, .int 0, .long 0, .int 0, .int 0])), (q_1, .inl (g.2.1 3, 6, .inr (.inr (.inr (.inr (va_up (va_up (va_up (va_up (va_up (va_up (fun _ => none) 0 (some q_10)) 1 (some q_17)) 2 (some q_24)) 3 (some q_31)) 4 (some q_38)) 5 (some q_45))))))), (q_2, .inr (5, [.ref q_1, .ref q_3, .int 0])), (q_3, .inl (g.2.1 4, 0, .inr (.inr (.inr (.inr (fun _ => none)))))), (q_6, .inr (2, [.ref q_7, .int 0, .int 0])), (q_7, .inl (g.2.1 1, 16, .inl (fun _ => 0))), (q_8, .inl (g.2.1 1, 6, .inl (fun _ => 0))), (q_10, .inr (4, [.int 0, .int 0, .int 0, .int 0, .int 0, .int 0, .int 0, .int 0, .int 0, .int 0, .int 0, .int 0, .ref q_11, .ref q_12, .ref q_13, .ref q_14, .ref q_15])), (q_11, .inl (g.2.1 1, 5, .inl (fun _ => 0))), (q_12, .inl (g.2.1 1, 5, .inl (fun _ => 0))), (q_13, .inl (g.2.1 2, 5, .inl (fun _ => 0))), (q_14, .inl (g.2.1 1, 6, .inl (fun _ => 0))), (q_15, .inl (g.2.1 2, 6, .inl (fun _ => 0))), (q_4, .inr (3, [.ref q_5])), (q_5, .inl (g.2.1 0, 64, .inl f_52))] := hD
  have hP9 := hP.sub (ws' := [(t0, .inr (6, [.ref q_1, .ref q_2, .ref q_4, .ref q_6, .int 0, .ref q_8, .int (-1), .int 0, .int 0, .int 0, .long 0, .int 0, .int 0])), (q_1, .inl (g.2.1 3, 6, .inr (.inr (.inr (.inr (va_up (va_up (va_up (va_up (va_up (va_up (fun _ => none) 0 (some q_10)) 1 (some q_17)) 2 (some q_24)) 3 (some q_31)) 4 (some q_38)) 5 (some q_45))))))), (q_10, .inr (4, [.int 0, .int 0, .int 0, .int 0, .int 0, .int 0, .int 0, .int 0, .int 0, .int 0, .int 0, .int 0, .ref q_11, .ref q_12, .ref q_13, .ref q_14, .ref q_15])), (q_11, .inl (g.2.1 1, 5, .inl (fun _ => 0))), (q_12, .inl (g.2.1 1, 5, .inl (fun _ => 0))), (q_13, .inl (g.2.1 2, 5, .inl (fun _ => 0))), (q_14, .inl (g.2.1 1, 6, .inl (fun _ => 0))), (q_15, .inl (g.2.1 2, 6, .inl (fun _ => 0))), (q_2, .inr (5, [.ref q_1, .ref q_3, .int 0])), (q_4, .inr (3, [.ref q_5])), (q_5, .inl (g.2.1 0, 64, .inl f_52)), (q_6, .inr (2, [.ref q_7, .int 0, .int 0])), (q_7, .inl (g.2.1 1, 16, .inl (fun _ => 0)))]) [0, 1, 7, 8, 9, 10, 11, 12, 2, 13, 14, 4, 5] rfl
  have hD9 := hD.sub (ws' := [(t0, .inr (6, [.ref q_1, .ref q_2, .ref q_4, .ref q_6, .int 0, .ref q_8, .int (-1), .int 0, .int 0, .int 0, .long 0, .int 0, .int 0])), (q_1, .inl (g.2.1 3, 6, .inr (.inr (.inr (.inr (va_up (va_up (va_up (va_up (va_up (va_up (fun _ => none) 0 (some q_10)) 1 (some q_17)) 2 (some q_24)) 3 (some q_31)) 4 (some q_38)) 5 (some q_45))))))), (q_10, .inr (4, [.int 0, .int 0, .int 0, .int 0, .int 0, .int 0, .int 0, .int 0, .int 0, .int 0, .int 0, .int 0, .ref q_11, .ref q_12, .ref q_13, .ref q_14, .ref q_15])), (q_11, .inl (g.2.1 1, 5, .inl (fun _ => 0))), (q_12, .inl (g.2.1 1, 5, .inl (fun _ => 0))), (q_13, .inl (g.2.1 2, 5, .inl (fun _ => 0))), (q_14, .inl (g.2.1 1, 6, .inl (fun _ => 0))), (q_15, .inl (g.2.1 2, 6, .inl (fun _ => 0))), (q_2, .inr (5, [.ref q_1, .ref q_3, .int 0])), (q_4, .inr (3, [.ref q_5])), (q_5, .inl (g.2.1 0, 64, .inl f_52)), (q_6, .inr (2, [.ref q_7, .int 0, .int 0])), (q_7, .inl (g.2.1 1, 16, .inl (fun _ => 0)))]) [0, 1, 7, 8, 9, 10, 11, 12, 2, 13, 14, 4, 5] (by decide) rfl
  refine W.widen (k := 60) (n := 500) (Nat.le_of_ble_eq_true rfl) (Nat.le_of_ble_eq_true rfl) ?_
  exact W.vret hx hb hr (fun t ht hW => ⟨⟨[(t0, .inr (6, [.ref q_1, .ref q_2, .ref q_4, .ref q_6, .int 0, .ref q_8, .int (-1), .int 0, .int 0, .int 0, .long 0, .int 0, .int 0])), (q_1, .inl (g.2.1 3, 6, .inr (.inr (.inr (.inr (va_up (va_up (va_up (va_up (va_up (va_up (fun _ => none) 0 (some q_10)) 1 (some q_17)) 2 (some q_24)) 3 (some q_31)) 4 (some q_38)) 5 (some q_45))))))), (q_10, .inr (4, [.int 0, .int 0, .int 0, .int 0, .int 0, .int 0, .int 0, .int 0, .int 0, .int 0, .int 0, .int 0, .ref q_11, .ref q_12, .ref q_13, .ref q_14, .ref q_15])), (q_11, .inl (g.2.1 1, 5, .inl (fun _ => 0))), (q_12, .inl (g.2.1 1, 5, .inl (fun _ => 0))), (q_13, .inl (g.2.1 2, 5, .inl (fun _ => 0))), (q_14, .inl (g.2.1 1, 6, .inl (fun _ => 0))), (q_15, .inl (g.2.1 2, 6, .inl (fun _ => 0))), (q_2, .inr (5, [.ref q_1, .ref q_3, .int 0])), (q_4, .inr (3, [.ref q_5])), (q_5, .inl (g.2.1 0, 64, .inl f_52)), (q_6, .inr (2, [.ref q_7, .int 0, .int 0])), (q_7, .inl (g.2.1 1, 16, .inl (fun _ => 0)))], rfl, ⟨q_1, q_2, q_4, q_6, q_8, q_3, q_5, q_7, q_10, q_11, q_12, q_13, q_14, q_15, (va_up (va_up (va_up (va_up (va_up (va_up (fun _ => none) 0 (some q_10)) 1 (some q_17)) 2 (some q_24)) 3 (some q_31)) 4 (some q_38)) 5 (some q_45)), f_52, by simp [va_up], by assumption, rfl⟩, by rw [ht]; exact hP9, va_K.moved hW.alike hK, hD9⟩, hS.F ht⟩) hS.2.2 dX5_init_97

set_option maxHeartbeats 4000000 in
set_option maxRecDepth 100000 in
theorem c_X5_clear (l : Launch) (hfl : l.stackTraces = false) (g : GP) (t0 : Nat) (th : Nat) (ts : Nat) (tg : Nat) (td : Nat) (tr : Nat) (tw : Nat) (tc : Nat) (tv : Nat) (fc : Nat → Int32)  : CV l yX5_clear (wG yX5_clear cX5_clear 1 (Option.none : Option Jvm.ClassFile.FieldType)) (LV 3 0 0) g [.ref t0] ([(t0, .inr (6, [.ref th, .ref ts, .ref tg, .ref td, .int 0, .ref tr, .int (-1), .int 0, .int 0, .int 0, .long 0, .int 0, .int 0])), (ts, .inr (5, [.ref th, .ref tw, .int 0])), (tg, .inr (3, [.ref tc])), (tc, .inl (g.2.1 0, 64, .inl fc)), (td, .inr (2, [.ref tv, .int 0, .int 0]))]) (fun (u : va_W) => ∃ (f2 : Nat → Int32), (∀ j : Nat, j < 64 → f2 j = 46) ∧ u = [(t0, .inr (6, [.ref th, .ref ts, .ref tg, .ref td, .int 0, .ref tr, .int (-1), .int 0, .int 0, .int 0, .long 0, .int 0, .int 0])), (ts, .inr (5, [.ref th, .ref tw, .int 0])), (tg, .inr (3, [.ref tc])), (tc, .inl (g.2.1 0, 64, .inl f2)), (td, .inr (2, [.ref tv, .int 0, .int 0]))]) := by
  intro sz
  refine Met.ofW (cc := cX5_clear) (maxL := 1) (ret := (Option.none : Option Jvm.ClassFile.FieldType)) (by decide) rfl ?_
  intro p e s m args below meth c s₁ B hml hv
  obtain ⟨rfl, hsz, hP, hK, hD0, hT0⟩ := hv
  have hx := B.exec
  have hb := B.bytes
  have hr := B.returns
  have hts := atoms_spec (ws := (wG yX5_clear cX5_clear 1 (Option.none : Option Jvm.ClassFile.FieldType))) B.pre
  have htg : ∀ w ∈ G9, w.before _ s = true := fun w h => hts w (List.mem_cons_of_mem _ h)
  have hown : s.vm.findClass "HeroTable$Table" = some m.cls := findClass_of_methodNamed B.named
  have hlocks := B.notSynchronized
  subst hsz
  have hD := hD0.self (sz := s.heap.size)
  have hT := hT0
  clear hT0
  generalize hAe : va_A [(t0, .inr (6, [.ref th, .ref ts, .ref tg, .ref td, .int 0, .ref tr, .int (-1), .int 0, .int 0, .int 0, .long 0, .int 0, .int 0])), (ts, .inr (5, [.ref th, .ref tw, .int 0])), (tg, .inr (3, [.ref tc])), (tc, .inl (g.2.1 0, 64, .inl fc)), (td, .inr (2, [.ref tv, .int 0, .int 0]))] s.heap.size = A at hD hT ⊢
  have hA : ∀ q : Nat, s.heap.size ≤ q → A q := fun q h => by rw [← hAe]; exact Or.inr h
  obtain ⟨H, hH0⟩ : ∃ H, H = s.heap := ⟨_, rfl⟩
  have hS : va_S A s.heap H [] := by rw [hH0]; exact va_S.rf
  have hP : va_P g.1 CLS [(t0, .inr (6, [.ref th, .ref ts, .ref tg, .ref td, .int 0, .ref tr, .int (-1), .int 0, .int 0, .int 0, .long 0, .int 0, .int 0])), (ts, .inr (5, [.ref th, .ref tw, .int 0])), (tg, .inr (3, [.ref tc])), (tc, .inl (g.2.1 0, 64, .inl fc)), (td, .inr (2, [.ref tv, .int 0, .int 0]))] H := by rw [hH0]; exact hP
  rw [← hH0]
  have hl := lv_entry ([.ref t0]) (n := 1) (Nat.le_of_ble_eq_true rfl)
  rw [lg_entry_eq]
  generalize (lg_sl ([.ref t0]) ++ List.replicate (1 - (lg_sl ([.ref t0])).length) Slot.unset).toArray = ls at hl ⊢
  have hl : lv_has ls 1 [(0, .ref t0)] := hl
  refine lv_aload_n hx hb dX5_clear_0 rfl (lv_at hl 0 rfl) ?_
  refine lv_iconst (v := 0) hx hb dX5_clear_1 (by decide) ?_
  refine va_put (D := g.1) (ci := 6) (v := .int 0) (ty := .int) (C := RX5) (T := TX5) (N := 13) hx hb htg inG_X5 tyX5 tyX5_ok nmX5 hown hK hP hD hS 0 rfl rfl 4 (by decide) (htg _ k254) (fun _ h9 => h9) rfl (by decide +kernel) rfl rfl (Nat.le_of_ble_eq_true rfl) dX5_clear_2 (fun H locs hP hD hS => ?_)
  have hP : va_P g.1 CLS [(t0, .inr (6, [.ref th, .ref ts, .ref tg, .ref td, .int 0, .ref tr, .int (-1), .int 0, .int 0, .int 0, .long 0, .int 0, .int 0])), (ts, .inr (5, [.ref th, .ref tw, .int 0])), (tg, .inr (3, [.ref tc])), (tc, .inl (g.2.1 0, 64, .inl fc)), (td, .inr (2, [.ref tv, .int 0, .int 0]))] H := hP
  have hD : va_D A [(t0, .inr (6, [.ref th, .ref ts, .ref tg, .ref td, .int 0, .ref tr, .int (-1), .int 0, .int 0, .int 0, .long 0, .int 0, .int 0])), (ts, .inr (5, [.ref th, .ref tw, .int 0])), (tg, .inr (3, [.ref tc])), (tc, .inl (g.2.1 0, 64, .inl fc)), (td, .inr (2, [.ref tv, .int 0, .int 0]))] := hD
  refine lv_aload_n hx hb dX5_clear_5 rfl (lv_at hl 0 rfl) ?_
  refine va_get (D := g.1) (ci := 6) (v := .ref ts) (C := RX5) (T := TX5) (N := 13) hx hb htg inG_X5 hown hK hP 0 rfl rfl 1 (by decide) (htg _ k249) (fun _ h9 => h9) rfl dX5_clear_6 ?_
  have hPc := hP.sub (ws' := [(ts, .inr (5, [.ref th, .ref tw, .int 0]))]) [1] rfl
  have hDc := hD.sub (ws' := [(ts, .inr (5, [.ref th, .ref tw, .int 0]))]) [1] (by decide) rfl
  have hFc := va_free (wc := [(ts, .inr (5, [.ref th, .ref tw, .int 0]))]) hD hS hA [1] rfl
  refine q_cv (wr := [(t0, .inr (6, [.ref th, .ref ts, .ref tg, .ref td, .int 0, .ref tr, .int (-1), .int 0, .int 0, .int 0, .long 0, .int 0, .int 0])), (tg, .inr (3, [.ref tc])), (tc, .inl (g.2.1 0, 64, .inl fc)), (td, .inr (2, [.ref tv, .int 0, .int 0]))]) (va_runV (As := []) (rest := []) ⟨hx, hb, hml, hown, htg⟩ (c_X4_clear l hfl g ts th tw  H.size) ⟨(qB htg k384 k52 k381 ok_X4_clear rfl rfl ⟨Nat.le_of_ble_eq_true rfl, Nat.le_of_ble_eq_true rfl⟩), htg _ k382, htg _ k383⟩ ⟨(q_pre [.ref ts] hPc hDc hK hS hT hFc).1, va_recv hK hP (ci := 5) (q0 := 1) rfl rfl, (q_pre [.ref ts] hPc hDc hK hS hT hFc).2⟩ rfl rfl hl.1 rfl (lv_room (Nat.le_of_ble_eq_true rfl)) dX5_clear_9 ⟨Nat.le_of_ble_eq_true rfl, Nat.le_of_ble_eq_true rfl⟩) hP hD hS hFc [1] [0, 2, 3, 4] rfl rfl (by decide) (by decide) (fun u9 H locs hw hP hD hS => ?_)
  try dsimp only at hw
  rcases hw with rfl
  have hP : va_P g.1 CLS [(t0, .inr (6, [.ref th, .ref ts, .ref tg, .ref td, .int 0, .ref tr, .int (-1), .int 0, .int 0, .int 0, .long 0, .int 0, .int 0])), (tg, .inr (3, [.ref tc])), (tc, .inl (g.2.1 0, 64, .inl fc)), (td, .inr (2, [.ref tv, .int 0, .int 0])), (ts, .inr (5, [.ref th, .ref tw, .int 0]))] H := hP
  have hD : va_D A [(t0, .inr (6, [.ref th, .ref ts, .ref tg, .ref td, .int 0, .ref tr, .int (-1), .int 0, .int 0, .int 0, .long 0, .int 0, .int 0])), (tg, .inr (3, [.ref tc])), (tc, .inl (g.2.1 0, 64, .inl fc)), (td, .inr (2, [.ref tv, .int 0, .int 0])), (ts, .inr (5, [.ref th, .ref tw, .int 0]))] := hD
  refine W.widen (k := 0) (n := 0) (Nat.le_of_ble_eq_true rfl) (Nat.le_of_ble_eq_true rfl) ?_
  refine lv_aload_n hx hb dX5_clear_12 rfl (lv_at hl 0 rfl) ?_
  refine va_get (D := g.1) (ci := 6) (v := .ref tg) (C := RX5) (T := TX5) (N := 13) hx hb htg inG_X5 hown hK hP 0 rfl rfl 2 (by decide) (htg _ k251) (fun _ h9 => h9) rfl dX5_clear_13 ?_
  have hPc := hP.sub (ws' := [(tg, .inr (3, [.ref tc])), (tc, .inl (g.2.1 0, 64, .inl fc))]) [1, 2] rfl
  have hDc := hD.sub (ws' := [(tg, .inr (3, [.ref tc])), (tc, .inl (g.2.1 0, 64, .inl fc))]) [1, 2] (by decide) rfl
  have hFc := va_free (wc := [(tg, .inr (3, [.ref tc])), (tc, .inl (g.2.1 0, 64, .inl fc))]) hD hS hA [1, 2] rfl
  refine q_cv (wr := [(t0, .inr (6, [.ref th, .ref ts, .ref tg, .ref td, .int 0, .ref tr, .int (-1), .int 0, .int 0, .int 0, .long 0, .int 0, .int 0])), (td, .inr (2, [.ref tv, .int 0, .int 0])), (ts, .inr (5, [.ref th, .ref tw, .int 0]))]) (va_runV (As := []) (rest := []) ⟨hx, hb, hml, hown, htg⟩ (c_X1_level l hfl g tg tc fc  H.size) ⟨(qB htg k246 k53 k243 ok_X1_level rfl rfl ⟨Nat.le_of_ble_eq_true rfl, Nat.le_of_ble_eq_true rfl⟩), htg _ k244, htg _ k245⟩ ⟨(q_pre [.ref tg] hPc hDc hK hS hT hFc).1, va_recv hK hP (ci := 3) (q0 := 1) rfl rfl, (q_pre [.ref tg] hPc hDc hK hS hT hFc).2⟩ rfl rfl hl.1 rfl (lv_room (Nat.le_of_ble_eq_true rfl)) dX5_clear_16 ⟨Nat.le_of_ble_eq_true rfl, Nat.le_of_ble_eq_true rfl⟩) hP hD hS hFc [1, 2] [0, 3, 4] rfl rfl (by decide) (by decide) (fun u9 H locs hw hP hD hS => ?_)
  try dsimp only at hw
  rcases hw with ⟨f_1, c_2, rfl⟩
  have hP : va_P g.1 CLS [(t0, .inr (6, [.ref th, .ref ts, .ref tg, .ref td, .int 0, .ref tr, .int (-1), .int 0, .int 0, .int 0, .long 0, .int 0, .int 0])), (td, .inr (2, [.ref tv, .int 0, .int 0])), (ts, .inr (5, [.ref th, .ref tw, .int 0])), (tg, .inr (3, [.ref tc])), (tc, .inl (g.2.1 0, 64, .inl f_1))] H := hP
  have hD : va_D A [(t0, .inr (6, [.ref th, .ref ts, .ref tg, .ref td, .int 0, .ref tr, .int (-1), .int 0, .int 0, .int 0, .long 0, .int 0, .int 0])), (td, .inr (2, [.ref tv, .int 0, .int 0])), (ts, .inr (5, [.ref th, .ref tw, .int 0])), (tg, .inr (3, [.ref tc])), (tc, .inl (g.2.1 0, 64, .inl f_1))] := hD
  refine W.widen (k := 0) (n := 0) (Nat.le_of_ble_eq_true rfl) (Nat.le_of_ble_eq_true rfl) ?_
  refine lv_aload_n hx hb dX5_clear_19 rfl (lv_at hl 0 rfl) ?_
  refine va_get (D := g.1) (ci := 6) (v := .ref td) (C := RX5) (T := TX5) (N := 13) hx hb htg inG_X5 hown hK hP 0 rfl rfl 3 (by decide) (htg _ k252) (fun _ h9 => h9) rfl dX5_clear_20 ?_
  have hPc := hP.sub (ws' := [(td, .inr (2, [.ref tv, .int 0, .int 0]))]) [1] rfl
  have hDc := hD.sub (ws' := [(td, .inr (2, [.ref tv, .int 0, .int 0]))]) [1] (by decide) rfl
  have hFc := va_free (wc := [(td, .inr (2, [.ref tv, .int 0, .int 0]))]) hD hS hA [1] rfl
  refine q_cv (wr := [(t0, .inr (6, [.ref th, .ref ts, .ref tg, .ref td, .int 0, .ref tr, .int (-1), .int 0, .int 0, .int 0, .long 0, .int 0, .int 0])), (ts, .inr (5, [.ref th, .ref tw, .int 0])), (tg, .inr (3, [.ref tc])), (tc, .inl (g.2.1 0, 64, .inl f_1))]) (va_runV (As := []) (rest := []) ⟨hx, hb, hml, hown, htg⟩ (c_X0_clear l hfl g td tv 0 0  H.size) ⟨(qB htg k388 k54 k385 ok_X0_clear rfl rfl ⟨Nat.le_of_ble_eq_true rfl, Nat.le_of_ble_eq_true rfl⟩), htg _ k386, htg _ k387⟩ ⟨(q_pre [.ref td] hPc hDc hK hS hT hFc).1, va_recv hK hP (ci := 2) (q0 := 1) rfl rfl, (q_pre [.ref td] hPc hDc hK hS hT hFc).2⟩ rfl rfl hl.1 rfl (lv_room (Nat.le_of_ble_eq_true rfl)) dX5_clear_23 ⟨Nat.le_of_ble_eq_true rfl, Nat.le_of_ble_eq_true rfl⟩) hP hD hS hFc [1] [0, 2, 3, 4] rfl rfl (by decide) (by decide) (fun u9 H locs hw hP hD hS => ?_)
  try dsimp only at hw
  rcases hw with rfl
  have hP : va_P g.1 CLS [(t0, .inr (6, [.ref th, .ref ts, .ref tg, .ref td, .int 0, .ref tr, .int (-1), .int 0, .int 0, .int 0, .long 0, .int 0, .int 0])), (ts, .inr (5, [.ref th, .ref tw, .int 0])), (tg, .inr (3, [.ref tc])), (tc, .inl (g.2.1 0, 64, .inl f_1)), (td, .inr (2, [.ref tv, .int 0, .int 0]))] H := hP
  have hD : va_D A [(t0, .inr (6, [.ref th, .ref ts, .ref tg, .ref td, .int 0, .ref tr, .int (-1), .int 0, .int 0, .int 0, .long 0, .int 0, .int 0])), (ts, .inr (5, [.ref th, .ref tw, .int 0])), (tg, .inr (3, [.ref tc])), (tc, .inl (g.2.1 0, 64, .inl f_1)), (td, .inr (2, [.ref tv, .int 0, .int 0]))] := hD
  refine W.widen (k := 0) (n := 0) (Nat.le_of_ble_eq_true rfl) (Nat.le_of_ble_eq_true rfl) ?_
  refine lv_aload_n hx hb dX5_clear_26 rfl (lv_at hl 0 rfl) ?_
  refine lv_iconst (v := (-1)) hx hb dX5_clear_27 (by decide) ?_
  refine va_put (D := g.1) (ci := 6) (v := .int (-1)) (ty := .int) (C := RX5) (T := TX5) (N := 13) hx hb htg inG_X5 tyX5 tyX5_ok nmX5 hown hK hP hD hS 0 rfl rfl 6 (by decide) (htg _ k257) (fun _ h9 => h9) rfl (by decide +kernel) rfl rfl (Nat.le_of_ble_eq_true rfl) dX5_clear_28 (fun H locs hP hD hS => ?_)
  have hP : va_P g.1 CLS [(t0, .inr (6, [.ref th, .ref ts, .ref tg, .ref td, .int 0, .ref tr, .int (-1), .int 0, .int 0, .int 0, .long 0, .int 0, .int 0])), (ts, .inr (5, [.ref th, .ref tw, .int 0])), (tg, .inr (3, [.ref tc])), (tc, .inl (g.2.1 0, 64, .inl f_1)), (td, .inr (2, [.ref tv, .int 0, .int 0]))] H := hP
  have hD : va_D A [(t0, .inr (6, [.ref th, .ref ts, .ref tg, .ref td, .int 0, .ref tr, .int (-1), .int 0, .int 0, .int 0, .long 0, .int 0, .int 0])), (ts, .inr (5, [.ref th, .ref tw, .int 0])), (tg, .inr (3, [.ref tc])), (tc, .inl (g.2.1 0, 64, .inl f_1)), (td, .inr (2, [.ref tv, .int 0, .int 0]))] := hD
  refine lv_aload_n hx hb dX5_clear_31 rfl (lv_at hl 0 rfl) ?_
  refine lv_iconst (v := 0) hx hb dX5_clear_32 (by decide) ?_
  refine va_put (D := g.1) (ci := 6) (v := .int 0) (ty := .int) (C := RX5) (T := TX5) (N := 13) hx hb htg inG_X5 tyX5 tyX5_ok nmX5 hown hK hP hD hS 0 rfl rfl 7 (by decide) (htg _ k258) (fun _ h9 => h9) rfl (by decide +kernel) rfl rfl (Nat.le_of_ble_eq_true rfl) dX5_clear_33 (fun H locs hP hD hS => ?_)
  have hP : va_P g.1 CLS [(t0, .inr (6, [.ref th, .ref ts, .ref tg, .ref td, .int 0, .ref tr, .int (-1), .int 0, .int 0, .int 0, .long 0, .int 0, .int 0])), (ts, .inr (5, [.ref th, .ref tw, .int 0])), (tg, .inr (3, [.ref tc])), (tc, .inl (g.2.1 0, 64, .inl f_1)), (td, .inr (2, [.ref tv, .int 0, .int 0]))] H := hP
  have hD : va_D A [(t0, .inr (6, [.ref th, .ref ts, .ref tg, .ref td, .int 0, .ref tr, .int (-1), .int 0, .int 0, .int 0, .long 0, .int 0, .int 0])), (ts, .inr (5, [.ref th, .ref tw, .int 0])), (tg, .inr (3, [.ref tc])), (tc, .inl (g.2.1 0, 64, .inl f_1)), (td, .inr (2, [.ref tv, .int 0, .int 0]))] := hD
  refine lv_aload_n hx hb dX5_clear_36 rfl (lv_at hl 0 rfl) ?_
  refine lv_iconst (v := 0) hx hb dX5_clear_37 (by decide) ?_
  refine va_put (D := g.1) (ci := 6) (v := .int 0) (ty := .int) (C := RX5) (T := TX5) (N := 13) hx hb htg inG_X5 tyX5 tyX5_ok nmX5 hown hK hP hD hS 0 rfl rfl 8 (by decide) (htg _ k260) (fun _ h9 => h9) rfl (by decide +kernel) rfl rfl (Nat.le_of_ble_eq_true rfl) dX5_clear_38 (fun H locs hP hD hS => ?_)
  have hP : va_P g.1 CLS [(t0, .inr (6, [.ref th, .ref ts, .ref tg, .ref td, .int 0, .ref tr, .int (-1), .int 0, .int 0, .int 0, .long 0, .int 0, .int 0])), (ts, .inr (5, [.ref th, .ref tw, .int 0])), (tg, .inr (3, [.ref tc])), (tc, .inl (g.2.1 0, 64, .inl f_1)), (td, .inr (2, [.ref tv, .int 0, .int 0]))] H := hP
  have hD : va_D A [(t0, .inr (6, [.ref th, .ref ts, .ref tg, .ref td, .int 0, .ref tr, .int (-1), .int 0, .int 0, .int 0, .long 0, .int 0, .int 0])), (ts, .inr (5, [.ref th, .ref tw, .int 0])), (tg, .inr (3, [.ref tc])), (tc, .inl (g.2.1 0, 64, .inl f_1)), (td, .inr (2, [.ref tv, .int 0, .int 0]))] := hD
  refine lv_aload_n hx hb dX5_clear_41 rfl (lv_at hl 0 rfl) ?_
  refine lv_iconst (v := 0) hx hb dX5_clear_42 (by decide) ?_
  refine va_put (D := g.1) (ci := 6) (v := .int 0) (ty := .boolean) (C := RX5) (T := TX5) (N := 13) hx hb htg inG_X5 tyX5 tyX5_ok nmX5 hown hK hP hD hS 0 rfl rfl 9 (by decide) (htg _ k262) (fun _ h9 => h9) rfl (by decide +kernel) rfl rfl (Nat.le_of_ble_eq_true rfl) dX5_clear_43 (fun H locs hP hD hS => ?_)
  have hP : va_P g.1 CLS [(t0, .inr (6, [.ref th, .ref ts, .ref tg, .ref td, .int 0, .ref tr, .int (-1), .int 0, .int 0, .int 0, .long 0, .int 0, .int 0])), (ts, .inr (5, [.ref th, .ref tw, .int 0])), (tg, .inr (3, [.ref tc])), (tc, .inl (g.2.1 0, 64, .inl f_1)), (td, .inr (2, [.ref tv, .int 0, .int 0]))] H := hP
  have hD : va_D A [(t0, .inr (6, [.ref th, .ref ts, .ref tg, .ref td, .int 0, .ref tr, .int (-1), .int 0, .int 0, .int 0, .long 0, .int 0, .int 0])), (ts, .inr (5, [.ref th, .ref tw, .int 0])), (tg, .inr (3, [.ref tc])), (tc, .inl (g.2.1 0, 64, .inl f_1)), (td, .inr (2, [.ref tv, .int 0, .int 0]))] := hD
  refine lv_aload_n hx hb dX5_clear_46 rfl (lv_at hl 0 rfl) ?_
  refine lv_lconst (v := 0) hx hb dX5_clear_47 (by decide) ?_
  refine va_put (D := g.1) (ci := 6) (v := .long 0) (ty := .long) (C := RX5) (T := TX5) (N := 13) hx hb htg inG_X5 tyX5 tyX5_ok nmX5 hown hK hP hD hS 0 rfl rfl 10 (by decide) (htg _ k263) (fun _ h9 => h9) rfl (by decide +kernel) rfl rfl (Nat.le_of_ble_eq_true rfl) dX5_clear_48 (fun H locs hP hD hS => ?_)
  have hP : va_P g.1 CLS [(t0, .inr (6, [.ref th, .ref ts, .ref tg, .ref td, .int 0, .ref tr, .int (-1), .int 0, .int 0, .int 0, .long 0, .int 0, .int 0])), (ts, .inr (5, [.ref th, .ref tw, .int 0])), (tg, .inr (3, [.ref tc])), (tc, .inl (g.2.1 0, 64, .inl f_1)), (td, .inr (2, [.ref tv, .int 0, .int 0]))] H := hP
  have hD : va_D A [(t0, .inr (6, [.ref th, .ref ts, .ref tg, .ref td, .int 0, .ref tr, .int (-1), .int 0, .int 0, .int 0, .long 0, .int 0, .int 0])), (ts, .inr (5, [.ref th, .ref tw, .int 0])), (tg, .inr (3, [.ref tc])), (tc, .inl (g.2.1 0, 64, .inl f_1)), (td, .inr (2, [.ref tv, .int 0, .int 0]))] := hD
  refine lv_aload_n hx hb dX5_clear_51 rfl (lv_at hl 0 rfl) ?_
  refine lv_iconst (v := 0) hx hb dX5_clear_52 (by decide) ?_
  refine va_put (D := g.1) (ci := 6) (v := .int 0) (ty := .int) (C := RX5) (T := TX5) (N := 13) hx hb htg inG_X5 tyX5 tyX5_ok nmX5 hown hK hP hD hS 0 rfl rfl 11 (by decide) (htg _ k265) (fun _ h9 => h9) rfl (by decide +kernel) rfl rfl (Nat.le_of_ble_eq_true rfl) dX5_clear_53 (fun H locs hP hD hS => ?_)
  have hP : va_P g.1 CLS [(t0, .inr (6, [.ref th, .ref ts, .ref tg, .ref td, .int 0, .ref tr, .int (-1), .int 0, .int 0, .int 0, .long 0, .int 0, .int 0])), (ts, .inr (5, [.ref th, .ref tw, .int 0])), (tg, .inr (3, [.ref tc])), (tc, .inl (g.2.1 0, 64, .inl f_1)), (td, .inr (2, [.ref tv, .int 0, .int 0]))] H := hP
  have hD : va_D A [(t0, .inr (6, [.ref th, .ref ts, .ref tg, .ref td, .int 0, .ref tr, .int (-1), .int 0, .int 0, .int 0, .long 0, .int 0, .int 0])), (ts, .inr (5, [.ref th, .ref tw, .int 0])), (tg, .inr (3, [.ref tc])), (tc, .inl (g.2.1 0, 64, .inl f_1)), (td, .inr (2, [.ref tv, .int 0, .int 0]))] := hD
  refine lv_aload_n hx hb dX5_clear_56 rfl (lv_at hl 0 rfl) ?_
  refine lv_iconst (v := 0) hx hb dX5_clear_57 (by decide) ?_
  refine va_put (D := g.1) (ci := 6) (v := .int 0) (ty := .int) (C := RX5) (T := TX5) (N := 13) hx hb htg inG_X5 tyX5 tyX5_ok nmX5 hown hK hP hD hS 0 rfl rfl 12 (by decide) (htg _ k267) (fun _ h9 => h9) rfl (by decide +kernel) rfl rfl (Nat.le_of_ble_eq_true rfl) dX5_clear_58 (fun H locs hP hD hS => ?_)
  have hP : va_P g.1 CLS [(t0, .inr (6, [.ref th, .ref ts, .ref tg, .ref td, .int 0, .ref tr, .int (-1), .int 0, .int 0, .int 0, .long 0, .int 0, .int 0])), (ts, .inr (5, [.ref th, .ref tw, .int 0])), (tg, .inr (3, [.ref tc])), (tc, .inl (g.2.1 0, 64, .inl f_1)), (td, .inr (2, [.ref tv, .int 0, .int 0]))] H := hP
  have hD : va_D A [(t0, .inr (6, [.ref th, .ref ts, .ref tg, .ref td, .int 0, .ref tr, .int (-1), .int 0, .int 0, .int 0, .long 0, .int 0, .int 0])), (ts, .inr (5, [.ref th, .ref tw, .int 0])), (tg, .inr (3, [.ref tc])), (tc, .inl (g.2.1 0, 64, .inl f_1)), (td, .inr (2, [.ref tv, .int 0, .int 0]))] := hD
  have hP9 := hP.sub (ws' := [(t0, .inr (6, [.ref th, .ref ts, .ref tg, .ref td, .int 0, .ref tr, .int (-1), .int 0, .int 0, .int 0, .long 0, .int 0, .int 0])), (ts, .inr (5, [.ref th, .ref tw, .int 0])), (tg, .inr (3, [.ref tc])), (tc, .inl (g.2.1 0, 64, .inl f_1)), (td, .inr (2, [.ref tv, .int 0, .int 0]))]) [0, 1, 2, 3, 4] rfl
  have hD9 := hD.sub (ws' := [(t0, .inr (6, [.ref th, .ref ts, .ref tg, .ref td, .int 0, .ref tr, .int (-1), .int 0, .int 0, .int 0, .long 0, .int 0, .int 0])), (ts, .inr (5, [.ref th, .ref tw, .int 0])), (tg, .inr (3, [.ref tc])), (tc, .inl (g.2.1 0, 64, .inl f_1)), (td, .inr (2, [.ref tv, .int 0, .int 0]))]) [0, 1, 2, 3, 4] (by decide) rfl
  refine W.widen (k := 0) (n := 0) (Nat.le_of_ble_eq_true rfl) (Nat.le_of_ble_eq_true rfl) ?_
  exact W.vret hx hb hr (fun t ht hW => ⟨⟨[(t0, .inr (6, [.ref th, .ref ts, .ref tg, .ref td, .int 0, .ref tr, .int (-1), .int 0, .int 0, .int 0, .long 0, .int 0, .int 0])), (ts, .inr (5, [.ref th, .ref tw, .int 0])), (tg, .inr (3, [.ref tc])), (tc, .inl (g.2.1 0, 64, .inl f_1)), (td, .inr (2, [.ref tv, .int 0, .int 0]))], rfl, ⟨f_1, by assumption, rfl⟩, by rw [ht]; exact hP9, va_K.moved hW.alike hK, hD9⟩, hS.F ht⟩) hS.2.2 dX5_clear_61

set_option maxHeartbeats 4000000 in
set_option maxRecDepth 100000 in
theorem c_X5_isHero (l : Launch) (hfl : l.stackTraces = false) (g : GP) (t0 : Nat) (th : Nat) (ts : Nat) (tg : Nat) (td : Nat) (tr : Nat) (n1 : Int32)  : CI l yX5_isHero (wG yX5_isHero cX5_isHero 2 (Option.some Jvm.ClassFile.FieldType.boolean)) (LV 1 0 0) g [.ref t0, .int n1] ([(t0, .inr (6, [.ref th, .ref ts, .ref tg, .ref td, .int 0, .ref tr, .int (-1), .int 0, .int 0, .int 0, .long 0, .int 0, .int 0]))]) (fun (r : Int32) (u : va_W) => r = 0 ∧ u = [(t0, .inr (6, [.ref th, .ref ts, .ref tg, .ref td, .int 0, .ref tr, .int (-1), .int 0, .int 0, .int 0, .long 0, .int 0, .int 0]))]) := by
  intro sz
  refine Met.ofW (cc := cX5_isHero) (maxL := 2) (ret := (Option.some Jvm.ClassFile.FieldType.boolean)) (by decide) rfl ?_
  intro p e s m args below meth c s₁ B hml hv
  obtain ⟨rfl, hsz, hP, hK, hD0, hT0⟩ := hv
  have hx := B.exec
  have hb := B.bytes
  have hr := B.returns
  have hts := atoms_spec (ws := (wG yX5_isHero cX5_isHero 2 (Option.some Jvm.ClassFile.FieldType.boolean))) B.pre
  have htg : ∀ w ∈ G9, w.before _ s = true := fun w h => hts w (List.mem_cons_of_mem _ h)
  have hown : s.vm.findClass "HeroTable$Table" = some m.cls := findClass_of_methodNamed B.named
  have hlocks := B.notSynchronized
  subst hsz
  have hD := hD0.self (sz := s.heap.size)
  have hT := hT0
  clear hT0
  generalize hAe : va_A [(t0, .inr (6, [.ref th, .ref ts, .ref tg, .ref td, .int 0, .ref tr, .int (-1), .int 0, .int 0, .int 0, .long 0, .int 0, .int 0]))] s.heap.size = A at hD hT ⊢
  have hA : ∀ q : Nat, s.heap.size ≤ q → A q := fun q h => by rw [← hAe]; exact Or.inr h
  obtain ⟨H, hH0⟩ : ∃ H, H = s.heap := ⟨_, rfl⟩
  have hS : va_S A s.heap H [] := by rw [hH0]; exact va_S.rf
  have hP : va_P g.1 CLS [(t0, .inr (6, [.ref th, .ref ts, .ref tg, .ref td, .int 0, .ref tr, .int (-1), .int 0, .int 0, .int 0, .long 0, .int 0, .int 0]))] H := by rw [hH0]; exact hP
  rw [← hH0]
  have hl := lv_entry ([.ref t0, .int n1]) (n := 2) (Nat.le_of_ble_eq_true rfl)
  rw [lg_entry_eq]
  generalize (lg_sl ([.ref t0, .int n1]) ++ List.replicate (2 - (lg_sl ([.ref t0, .int n1])).length) Slot.unset).toArray = ls at hl ⊢
  have hl : lv_has ls 2 [(0, .ref t0), (1, .int n1)] := hl
  refine lv_iload_n hx hb dX5_isHero_0 rfl (lv_at hl 1 rfl) ?_
  refine lv_if_lt (tgt := 16) hx hb dX5_isHero_1 (by decide) (fun c_1 => ?_) (fun c_1 => ?_)
  · refine lv_iconst (v := 0) hx hb dX5_isHero_16 (by decide) ?_
    have hP9 := hP.sub (ws' := [(t0, .inr (6, [.ref th, .ref ts, .ref tg, .ref td, .int 0, .ref tr, .int (-1), .int 0, .int 0, .int 0, .long 0, .int 0, .int 0]))]) [0] rfl
    have hD9 := hD.sub (ws' := [(t0, .inr (6, [.ref th, .ref ts, .ref tg, .ref td, .int 0, .ref tr, .int (-1), .int 0, .int 0, .int 0, .long 0, .int 0, .int 0]))]) [0] (by decide) rfl
    refine W.widen (k := 0) (n := 0) (Nat.le_of_ble_eq_true rfl) (Nat.le_of_ble_eq_true rfl) ?_
    exact W.zret (v := 0) hx hb hr rfl (fun t ht hW => ⟨⟨0, [(t0, .inr (6, [.ref th, .ref ts, .ref tg, .ref td, .int 0, .ref tr, .int (-1), .int 0, .int 0, .int 0, .long 0, .int 0, .int 0]))], rfl, ⟨rfl, rfl⟩, by rw [ht]; exact hP9, va_K.moved hW.alike hK, hD9⟩, hS.F ht⟩) hS.2.2 dX5_isHero_17
  · refine lv_iload_n hx hb dX5_isHero_4 rfl (lv_at hl 1 rfl) ?_
    refine lv_aload_n hx hb dX5_isHero_5 rfl (lv_at hl 0 rfl) ?_
    refine va_get (D := g.1) (ci := 6) (v := .int 0) (C := RX5) (T := TX5) (N := 13) hx hb htg inG_X5 hown hK hP 0 rfl rfl 4 (by decide) (htg _ k254) (fun _ h9 => h9) rfl dX5_isHero_6 ?_
    refine lv_icmp_ge (tgt := 16) hx hb dX5_isHero_9 (by decide) (fun c_2 => ?_) (fun c_2 => absurd (by simp only [fa_lt, fa_le, fa_eq, li0, li1, li5, li7, li8, li9, li20, li30, li40, li50, li97, li99, li103, li109, li115, li120, li255, lin1, lin20] at c_1 ⊢; omega) c_2)
    refine lv_iconst (v := 0) hx hb dX5_isHero_16 (by decide) ?_
    have hP9 := hP.sub (ws' := [(t0, .inr (6, [.ref th, .ref ts, .ref tg, .ref td, .int 0, .ref tr, .int (-1), .int 0, .int 0, .int 0, .long 0, .int 0, .int 0]))]) [0] rfl
    have hD9 := hD.sub (ws' := [(t0, .inr (6, [.ref th, .ref ts, .ref tg, .ref td, .int 0, .ref tr, .int (-1), .int 0, .int 0, .int 0, .long 0, .int 0, .int 0]))]) [0] (by decide) rfl
    refine W.widen (k := 0) (n := 0) (Nat.le_of_ble_eq_true rfl) (Nat.le_of_ble_eq_true rfl) ?_
    exact W.zret (v := 0) hx hb hr rfl (fun t ht hW => ⟨⟨0, [(t0, .inr (6, [.ref th, .ref ts, .ref tg, .ref td, .int 0, .ref tr, .int (-1), .int 0, .int 0, .int 0, .long 0, .int 0, .int 0]))], rfl, ⟨rfl, rfl⟩, by rw [ht]; exact hP9, va_K.moved hW.alike hK, hD9⟩, hS.F ht⟩) hS.2.2 dX5_isHero_17

set_option maxHeartbeats 4000000 in
set_option maxRecDepth 100000 in
theorem c_X5_isTurnOn (l : Launch) (hfl : l.stackTraces = false) (g : GP) (t0 : Nat) (th : Nat) (ts : Nat) (tg : Nat) (td : Nat) (tr : Nat)  : CI l yX5_isTurnOn (wG yX5_isTurnOn cX5_isTurnOn 1 (Option.some Jvm.ClassFile.FieldType.boolean)) (LV 1 0 0) g [.ref t0] ([(t0, .inr (6, [.ref th, .ref ts, .ref tg, .ref td, .int 0, .ref tr, .int (-1), .int 0, .int 0, .int 0, .long 0, .int 0, .int 0]))]) (fun (r : Int32) (u : va_W) => r = 0 ∧ u = [(t0, .inr (6, [.ref th, .ref ts, .ref tg, .ref td, .int 0, .ref tr, .int (-1), .int 0, .int 0, .int 0, .long 0, .int 0, .int 0]))]) := by
  intro sz
  refine Met.ofW (cc := cX5_isTurnOn) (maxL := 1) (ret := (Option.some Jvm.ClassFile.FieldType.boolean)) (by decide) rfl ?_
  intro p e s m args below meth c s₁ B hml hv
  obtain ⟨rfl, hsz, hP, hK, hD0, hT0⟩ := hv
  have hx := B.exec
  have hb := B.bytes
  have hr := B.returns
  have hts := atoms_spec (ws := (wG yX5_isTurnOn cX5_isTurnOn 1 (Option.some Jvm.ClassFile.FieldType.boolean))) B.pre
  have htg : ∀ w ∈ G9, w.before _ s = true := fun w h => hts w (List.mem_cons_of_mem _ h)
  have hown : s.vm.findClass "HeroTable$Table" = some m.cls := findClass_of_methodNamed B.named
  have hlocks := B.notSynchronized
  subst hsz
  have hD := hD0.self (sz := s.heap.size)
  have hT := hT0
  clear hT0
  generalize hAe : va_A [(t0, .inr (6, [.ref th, .ref ts, .ref tg, .ref td, .int 0, .ref tr, .int (-1), .int 0, .int 0, .int 0, .long 0, .int 0, .int 0]))] s.heap.size = A at hD hT ⊢
  have hA : ∀ q : Nat, s.heap.size ≤ q → A q := fun q h => by rw [← hAe]; exact Or.inr h
  obtain ⟨H, hH0⟩ : ∃ H, H = s.heap := ⟨_, rfl⟩
  have hS : va_S A s.heap H [] := by rw [hH0]; exact va_S.rf
  have hP : va_P g.1 CLS [(t0, .inr (6, [.ref th, .ref ts, .ref tg, .ref td, .int 0, .ref tr, .int (-1), .int 0, .int 0, .int 0, .long 0, .int 0, .int 0]))] H := by rw [hH0]; exact hP
  rw [← hH0]
  have hl := lv_entry ([.ref t0]) (n := 1) (Nat.le_of_ble_eq_true rfl)
  rw [lg_entry_eq]
  generalize (lg_sl ([.ref t0]) ++ List.replicate (1 - (lg_sl ([.ref t0])).length) Slot.unset).toArray = ls at hl ⊢
  have hl : lv_has ls 1 [(0, .ref t0)] := hl
  refine lv_aload_n hx hb dX5_isTurnOn_0 rfl (lv_at hl 0 rfl) ?_
  refine va_get (D := g.1) (ci := 6) (v := .int (-1)) (C := RX5) (T := TX5) (N := 13) hx hb htg inG_X5 hown hK hP 0 rfl rfl 6 (by decide) (htg _ k257) (fun _ h9 => h9) rfl dX5_isTurnOn_1 ?_
  refine lv_iconst (v := (-1)) hx hb dX5_isTurnOn_4 (by decide) ?_
  refine lv_icmp_eq (tgt := 12) hx hb dX5_isTurnOn_5 (by decide) (fun c_1 => ?_) (fun c_1 => absurd (by decide) c_1)
  refine lv_iconst (v := 0) hx hb dX5_isTurnOn_12 (by decide) ?_
  have hP9 := hP.sub (ws' := [(t0, .inr (6, [.ref th, .ref ts, .ref tg, .ref td, .int 0, .ref tr, .int (-1), .int 0, .int 0, .int 0, .long 0, .int 0, .int 0]))]) [0] rfl
  have hD9 := hD.sub (ws' := [(t0, .inr (6, [.ref th, .ref ts, .ref tg, .ref td, .int 0, .ref tr, .int (-1), .int 0, .int 0, .int 0, .long 0, .int 0, .int 0]))]) [0] (by decide) rfl
  refine W.widen (k := 0) (n := 0) (Nat.le_of_ble_eq_true rfl) (Nat.le_of_ble_eq_true rfl) ?_
  exact W.zret (v := 0) hx hb hr rfl (fun t ht hW => ⟨⟨0, [(t0, .inr (6, [.ref th, .ref ts, .ref tg, .ref td, .int 0, .ref tr, .int (-1), .int 0, .int 0, .int 0, .long 0, .int 0, .int 0]))], rfl, ⟨rfl, rfl⟩, by rw [ht]; exact hP9, va_K.moved hW.alike hK, hD9⟩, hS.F ht⟩) hS.2.2 dX5_isTurnOn_13

set_option maxHeartbeats 4000000 in
set_option maxRecDepth 100000 in
theorem c_X5_heroAt (l : Launch) (hfl : l.stackTraces = false) (g : GP) (t0 : Nat) (th : Nat) (ts : Nat) (tg : Nat) (td : Nat) (tr : Nat) (n1 : Int32) (n2 : Int32)  : CI l yX5_heroAt (wG yX5_heroAt cX5_heroAt 4 (Option.some Jvm.ClassFile.FieldType.int)) (LV 1 0 0) g [.ref t0, .int n1, .int n2] ([(t0, .inr (6, [.ref th, .ref ts, .ref tg, .ref td, .int 0, .ref tr, .int (-1), .int 0, .int 0, .int 0, .long 0, .int 0, .int 0]))]) (fun (r : Int32) (u : va_W) => r = (-1) ∧ u = [(t0, .inr (6, [.ref th, .ref ts, .ref tg, .ref td, .int 0, .ref tr, .int (-1), .int 0, .int 0, .int 0, .long 0, .int 0, .int 0]))]) := by
  intro sz
  refine Met.ofW (cc := cX5_heroAt) (maxL := 4) (ret := (Option.some Jvm.ClassFile.FieldType.int)) (by decide) rfl ?_
  intro p e s m args below meth c s₁ B hml hv
  obtain ⟨rfl, hsz, hP, hK, hD0, hT0⟩ := hv
  have hx := B.exec
  have hb := B.bytes
  have hr := B.returns
  have hts := atoms_spec (ws := (wG yX5_heroAt cX5_heroAt 4 (Option.some Jvm.ClassFile.FieldType.int))) B.pre
  have htg : ∀ w ∈ G9, w.before _ s = true := fun w h => hts w (List.mem_cons_of_mem _ h)
  have hown : s.vm.findClass "HeroTable$Table" = some m.cls := findClass_of_methodNamed B.named
  have hlocks := B.notSynchronized
  subst hsz
  have hD := hD0.self (sz := s.heap.size)
  have hT := hT0
  clear hT0
  generalize hAe : va_A [(t0, .inr (6, [.ref th, .ref ts, .ref tg, .ref td, .int 0, .ref tr, .int (-1), .int 0, .int 0, .int 0, .long 0, .int 0, .int 0]))] s.heap.size = A at hD hT ⊢
  have hA : ∀ q : Nat, s.heap.size ≤ q → A q := fun q h => by rw [← hAe]; exact Or.inr h
  obtain ⟨H, hH0⟩ : ∃ H, H = s.heap := ⟨_, rfl⟩
  have hS : va_S A s.heap H [] := by rw [hH0]; exact va_S.rf
  have hP : va_P g.1 CLS [(t0, .inr (6, [.ref th, .ref ts, .ref tg, .ref td, .int 0, .ref tr, .int (-1), .int 0, .int 0, .int 0, .long 0, .int 0, .int 0]))] H := by rw [hH0]; exact hP
  rw [← hH0]
  have hl := lv_entry ([.ref t0, .int n1, .int n2]) (n := 4) (Nat.le_of_ble_eq_true rfl)
  rw [lg_entry_eq]
  generalize (lg_sl ([.ref t0, .int n1, .int n2]) ++ List.replicate (4 - (lg_sl ([.ref t0, .int n1, .int n2])).length) Slot.unset).toArray = ls at hl ⊢
  have hl : lv_has ls 4 [(0, .ref t0), (1, .int n1), (2, .int n2)] := hl
  refine lv_iconst (v := 0) hx hb dX5_heroAt_0 (by decide) ?_
  refine lv_istore_n (lv' := [(3, .int 0), (0, .ref t0), (1, .int n1), (2, .int n2)]) hx hb dX5_heroAt_1 rfl hl (by decide) rfl (fun ls hl => ?_)
  refine lv_iload_n hx hb dX5_heroAt_2 rfl (lv_at hl 0 rfl) ?_
  refine lv_aload_n hx hb dX5_heroAt_3 rfl (lv_at hl 1 rfl) ?_
  refine va_get (D := g.1) (ci := 6) (v := .int 0) (C := RX5) (T := TX5) (N := 13) hx hb htg inG_X5 hown hK hP 0 rfl rfl 4 (by decide) (htg _ k254) (fun _ h9 => h9) rfl dX5_heroAt_4 ?_
  refine lv_icmp_ge (tgt := 44) hx hb dX5_heroAt_7 (by decide) (fun c_1 => ?_) (fun c_1 => absurd (by decide) c_1)
  refine lv_iconst (v := (-1)) hx hb dX5_heroAt_44 (by decide) ?_
  have hP9 := hP.sub (ws' := [(t0, .inr (6, [.ref th, .ref ts, .ref tg, .ref td, .int 0, .ref tr, .int (-1), .int 0, .int 0, .int 0, .long 0, .int 0, .int 0]))]) [0] rfl
  have hD9 := hD.sub (ws' := [(t0, .inr (6, [.ref th, .ref ts, .ref tg, .ref td, .int 0, .ref tr, .int (-1), .int 0, .int 0, .int 0, .long 0, .int 0, .int 0]))]) [0] (by decide) rfl
  refine W.widen (k := 0) (n := 0) (Nat.le_of_ble_eq_true rfl) (Nat.le_of_ble_eq_true rfl) ?_
  exact W.iret (v := (-1)) hx hb hr (fun t ht hW => ⟨⟨(-1), [(t0, .inr (6, [.ref th, .ref ts, .ref tg, .ref td, .int 0, .ref tr, .int (-1), .int 0, .int 0, .int 0, .long 0, .int 0, .int 0]))], rfl, ⟨rfl, rfl⟩, by rw [ht]; exact hP9, va_K.moved hW.alike hK, hD9⟩, hS.F ht⟩) hS.2.2 dX5_heroAt_45

set_option maxHeartbeats 4000000 in
set_option maxRecDepth 100000 in
theorem c_X5_enrol (l : Launch) (hfl : l.stackTraces = false) (g : GP) (t0 : Nat) (th : Nat) (ts : Nat) (tg : Nat) (td : Nat) (tr : Nat) (tc : Nat) (fc : Nat → Int32) (fh : Nat → Option Nat) (z0 : Nat) (z1 : Nat) (z2 : Nat) (z3 : Nat) (z4 : Nat) (z5 : Nat) (f1 : Nat → Int32) (f2 : Nat → Int32) (f3 : Nat → Int32) (f4 : Nat → Int32) (f5 : Nat → Int32) (n1 : Int32) (n2 : Int32) (n3 : Int32) (n4 : Int32) (n5 : Int32) (hfh : fh 0 = some z0) (hfc : ∀ j : Nat, j < 64 → fc j = 46) : CI l yX5_enrol (wG yX5_enrol cX5_enrol 6 (Option.some Jvm.ClassFile.FieldType.int)) (LV 4 0 0) g [.ref t0, .int n1, .int n2, .int n3, .int n4, .int n5] ([(t0, .inr (6, [.ref th, .ref ts, .ref tg, .ref td, .int 0, .ref tr, .int (-1), .int 0, .int 0, .int 0, .long 0, .int 0, .int 0])), (th, .inl (g.2.1 3, 6, .inr (.inr (.inr (.inr fh))))), (z0, .inr (4, [.int 0, .int 0, .int 0, .int 0, .int 0, .int 0, .int 0, .int 0, .int 0, .int 0, .int 0, .int 0, .ref z1, .ref z2, .ref z3, .ref z4, .ref z5])), (z1, .inl (g.2.1 1, 5, .inl f1)), (z2, .inl (g.2.1 1, 5, .inl f2)), (z3, .inl (g.2.1 2, 5, .inl f3)), (z4, .inl (g.2.1 1, 6, .inl f4)), (z5, .inl (g.2.1 2, 6, .inl f5)), (tg, .inr (3, [.ref tc])), (tc, .inl (g.2.1 0, 64, .inl fc))]) (fun (r : Int32) (u : va_W) => ((okAdd n1 n2 n3 n4 n5) ∧ r = 0 ∧ u = [(t0, .inr (6, [.ref th, .ref ts, .ref tg, .ref td, .int 1, .ref tr, .int (-1), .int 0, .int 0, .int 0, .long 0, .int 0, .int 0])), (tg, .inr (3, [.ref tc])), (tc, .inl (g.2.1 0, 64, .inl fc))]) ∨ ((¬ okAdd n1 n2 n3 n4 n5) ∧ r = (-1000002) ∧ u = [(t0, .inr (6, [.ref th, .ref ts, .ref tg, .ref td, .int 0, .ref tr, .int (-1), .int 0, .int 0, .int 0, .long 0, .int 0, .int 0])), (tg, .inr (3, [.ref tc])), (tc, .inl (g.2.1 0, 64, .inl fc))])) := by
  intro sz
  refine Met.ofW (cc := cX5_enrol) (maxL := 6) (ret := (Option.some Jvm.ClassFile.FieldType.int)) (by decide) rfl ?_
  intro p e s m args below meth c s₁ B hml hv
  obtain ⟨rfl, hsz, hP, hK, hD0, hT0⟩ := hv
  have hx := B.exec
  have hb := B.bytes
  have hr := B.returns
  have hts := atoms_spec (ws := (wG yX5_enrol cX5_enrol 6 (Option.some Jvm.ClassFile.FieldType.int))) B.pre
  have htg : ∀ w ∈ G9, w.before _ s = true := fun w h => hts w (List.mem_cons_of_mem _ h)
  have hown : s.vm.findClass "HeroTable$Table" = some m.cls := findClass_of_methodNamed B.named
  have hlocks := B.notSynchronized
  subst hsz
  have hD := hD0.self (sz := s.heap.size)
  have hT := hT0
  clear hT0
  generalize hAe : va_A [(t0, .inr (6, [.ref th, .ref ts, .ref tg, .ref td, .int 0, .ref tr, .int (-1), .int 0, .int 0, .int 0, .long 0, .int 0, .int 0])), (th, .inl (g.2.1 3, 6, .inr (.inr (.inr (.inr fh))))), (z0, .inr (4, [.int 0, .int 0, .int 0, .int 0, .int 0, .int 0, .int 0, .int 0, .int 0, .int 0, .int 0, .int 0, .ref z1, .ref z2, .ref z3, .ref z4, .ref z5])), (z1, .inl (g.2.1 1, 5, .inl f1)), (z2, .inl (g.2.1 1, 5, .inl f2)), (z3, .inl (g.2.1 2, 5, .inl f3)), (z4, .inl (g.2.1 1, 6, .inl f4)), (z5, .inl (g.2.1 2, 6, .inl f5)), (tg, .inr (3, [.ref tc])), (tc, .inl (g.2.1 0, 64, .inl fc))] s.heap.size = A at hD hT ⊢
  have hA : ∀ q : Nat, s.heap.size ≤ q → A q := fun q h => by rw [← hAe]; exact Or.inr h
  obtain ⟨H, hH0⟩ : ∃ H, H = s.heap := ⟨_, rfl⟩
  have hS : va_S A s.heap H [] := by rw [hH0]; exact va_S.rf
  have hP : va_P g.1 CLS [(t0, .inr (6, [.ref th, .ref ts, .ref tg, .ref td, .int 0, .ref tr, .int (-1), .int 0, .int 0, .int 0, .long 0, .int 0, .int 0])), (th, .inl (g.2.1 3, 6, .inr (.inr (.inr (.inr fh))))), (z0, .inr (4, [.int 0, .int 0, .int 0, .int 0, .int 0, .int 0, .int 0, .int 0, .int 0, .int 0, .int 0, .int 0, .ref z1, .ref z2, .ref z3, .ref z4, .ref z5])), (z1, .inl (g.2.1 1, 5, .inl f1)), (z2, .inl (g.2.1 1, 5, .inl f2)), (z3, .inl (g.2.1 2, 5, .inl f3)), (z4, .inl (g.2.1 1, 6, .inl f4)), (z5, .inl (g.2.1 2, 6, .inl f5)), (tg, .inr (3, [.ref tc])), (tc, .inl (g.2.1 0, 64, .inl fc))] H := by rw [hH0]; exact hP
  rw [← hH0]
  have hl := lv_entry ([.ref t0, .int n1, .int n2, .int n3, .int n4, .int n5]) (n := 6) (Nat.le_of_ble_eq_true rfl)
  rw [lg_entry_eq]
  generalize (lg_sl ([.ref t0, .int n1, .int n2, .int n3, .int n4, .int n5]) ++ List.replicate (6 - (lg_sl ([.ref t0, .int n1, .int n2, .int n3, .int n4, .int n5])).length) Slot.unset).toArray = ls at hl ⊢
  have hl : lv_has ls 6 [(0, .ref t0), (1, .int n1), (2, .int n2), (3, .int n3), (4, .int n4), (5, .int n5)] := hl
  refine lv_iload_n hx hb dX5_enrol_0 rfl (lv_at hl 1 rfl) ?_
  refine lv_if_lt (tgt := 40) hx hb dX5_enrol_1 (by decide) (fun c_1 => ?_) (fun c_1 => ?_)
  · refine lv_ldc (own := "HeroTable$Table") (index := 83) (v := (-1000002)) hx hb hown (htg _ k396) dX5_enrol_40 ?_
    have hP9 := hP.sub (ws' := [(t0, .inr (6, [.ref th, .ref ts, .ref tg, .ref td, .int 0, .ref tr, .int (-1), .int 0, .int 0, .int 0, .long 0, .int 0, .int 0])), (tg, .inr (3, [.ref tc])), (tc, .inl (g.2.1 0, 64, .inl fc))]) [0, 8, 9] rfl
    have hD9 := hD.sub (ws' := [(t0, .inr (6, [.ref th, .ref ts, .ref tg, .ref td, .int 0, .ref tr, .int (-1), .int 0, .int 0, .int 0, .long 0, .int 0, .int 0])), (tg, .inr (3, [.ref tc])), (tc, .inl (g.2.1 0, 64, .inl fc))]) [0, 8, 9] (by decide) rfl
    refine W.widen (k := 0) (n := 0) (Nat.le_of_ble_eq_true rfl) (Nat.le_of_ble_eq_true rfl) ?_
    exact W.iret (v := (-1000002)) hx hb hr (fun t ht hW => ⟨⟨(-1000002), [(t0, .inr (6, [.ref th, .ref ts, .ref tg, .ref td, .int 0, .ref tr, .int (-1), .int 0, .int 0, .int 0, .long 0, .int 0, .int 0])), (tg, .inr (3, [.ref tc])), (tc, .inl (g.2.1 0, 64, .inl fc))], rfl, Or.inr (⟨fun hh => absurd (by simp only [fa_lt, fa_le, fa_eq, li0, li1, li5, li7, li8, li9, li20, li30, li40, li50, li97, li99, li103, li109, li115, li120, li255, lin1, lin20] at c_1 ⊢; omega : ¬ ((0 ≤ n1.toInt ∧ n1.toInt ≤ 1) ∧ (1 ≤ n2.toInt ∧ n2.toInt ≤ 99) ∧ (0 ≤ n3.toInt ∧ n3.toInt ≤ 30))) (fun k => k ⟨hh.1, hh.2.1, hh.2.2.1⟩), rfl, rfl⟩), by rw [ht]; exact hP9, va_K.moved hW.alike hK, hD9⟩, hS.F ht⟩) hS.2.2 dX5_enrol_42
  · refine lv_iload_n hx hb dX5_enrol_4 rfl (lv_at hl 1 rfl) ?_
    refine lv_iconst (v := 1) hx hb dX5_enrol_5 (by decide) ?_
    refine lv_icmp_gt (tgt := 40) hx hb dX5_enrol_6 (by decide) (fun c_2 => ?_) (fun c_2 => ?_)
    · refine lv_ldc (own := "HeroTable$Table") (index := 83) (v := (-1000002)) hx hb hown (htg _ k396) dX5_enrol_40 ?_
      have hP9 := hP.sub (ws' := [(t0, .inr (6, [.ref th, .ref ts, .ref tg, .ref td, .int 0, .ref tr, .int (-1), .int 0, .int 0, .int 0, .long 0, .int 0, .int 0])), (tg, .inr (3, [.ref tc])), (tc, .inl (g.2.1 0, 64, .inl fc))]) [0, 8, 9] rfl
      have hD9 := hD.sub (ws' := [(t0, .inr (6, [.ref th, .ref ts, .ref tg, .ref td, .int 0, .ref tr, .int (-1), .int 0, .int 0, .int 0, .long 0, .int 0, .int 0])), (tg, .inr (3, [.ref tc])), (tc, .inl (g.2.1 0, 64, .inl fc))]) [0, 8, 9] (by decide) rfl
      refine W.widen (k := 0) (n := 0) (Nat.le_of_ble_eq_true rfl) (Nat.le_of_ble_eq_true rfl) ?_
      exact W.iret (v := (-1000002)) hx hb hr (fun t ht hW => ⟨⟨(-1000002), [(t0, .inr (6, [.ref th, .ref ts, .ref tg, .ref td, .int 0, .ref tr, .int (-1), .int 0, .int 0, .int 0, .long 0, .int 0, .int 0])), (tg, .inr (3, [.ref tc])), (tc, .inl (g.2.1 0, 64, .inl fc))], rfl, Or.inr (⟨fun hh => absurd (by simp only [fa_lt, fa_le, fa_eq, li0, li1, li5, li7, li8, li9, li20, li30, li40, li50, li97, li99, li103, li109, li115, li120, li255, lin1, lin20] at c_1 c_2 ⊢; omega : ¬ ((0 ≤ n1.toInt ∧ n1.toInt ≤ 1) ∧ (1 ≤ n2.toInt ∧ n2.toInt ≤ 99) ∧ (0 ≤ n3.toInt ∧ n3.toInt ≤ 30))) (fun k => k ⟨hh.1, hh.2.1, hh.2.2.1⟩), rfl, rfl⟩), by rw [ht]; exact hP9, va_K.moved hW.alike hK, hD9⟩, hS.F ht⟩) hS.2.2 dX5_enrol_42
    · refine lv_iload_n hx hb dX5_enrol_9 rfl (lv_at hl 2 rfl) ?_
      refine lv_iconst (v := 1) hx hb dX5_enrol_10 (by decide) ?_
      refine lv_icmp_lt (tgt := 40) hx hb dX5_enrol_11 (by decide) (fun c_3 => ?_) (fun c_3 => ?_)
      · refine lv_ldc (own := "HeroTable$Table") (index := 83) (v := (-1000002)) hx hb hown (htg _ k396) dX5_enrol_40 ?_
        have hP9 := hP.sub (ws' := [(t0, .inr (6, [.ref th, .ref ts, .ref tg, .ref td, .int 0, .ref tr, .int (-1), .int 0, .int 0, .int 0, .long 0, .int 0, .int 0])), (tg, .inr (3, [.ref tc])), (tc, .inl (g.2.1 0, 64, .inl fc))]) [0, 8, 9] rfl
        have hD9 := hD.sub (ws' := [(t0, .inr (6, [.ref th, .ref ts, .ref tg, .ref td, .int 0, .ref tr, .int (-1), .int 0, .int 0, .int 0, .long 0, .int 0, .int 0])), (tg, .inr (3, [.ref tc])), (tc, .inl (g.2.1 0, 64, .inl fc))]) [0, 8, 9] (by decide) rfl
        refine W.widen (k := 0) (n := 0) (Nat.le_of_ble_eq_true rfl) (Nat.le_of_ble_eq_true rfl) ?_
        exact W.iret (v := (-1000002)) hx hb hr (fun t ht hW => ⟨⟨(-1000002), [(t0, .inr (6, [.ref th, .ref ts, .ref tg, .ref td, .int 0, .ref tr, .int (-1), .int 0, .int 0, .int 0, .long 0, .int 0, .int 0])), (tg, .inr (3, [.ref tc])), (tc, .inl (g.2.1 0, 64, .inl fc))], rfl, Or.inr (⟨fun hh => absurd (by simp only [fa_lt, fa_le, fa_eq, li0, li1, li5, li7, li8, li9, li20, li30, li40, li50, li97, li99, li103, li109, li115, li120, li255, lin1, lin20] at c_1 c_2 c_3 ⊢; omega : ¬ ((0 ≤ n1.toInt ∧ n1.toInt ≤ 1) ∧ (1 ≤ n2.toInt ∧ n2.toInt ≤ 99) ∧ (0 ≤ n3.toInt ∧ n3.toInt ≤ 30))) (fun k => k ⟨hh.1, hh.2.1, hh.2.2.1⟩), rfl, rfl⟩), by rw [ht]; exact hP9, va_K.moved hW.alike hK, hD9⟩, hS.F ht⟩) hS.2.2 dX5_enrol_42
      · refine lv_iload_n hx hb dX5_enrol_14 rfl (lv_at hl 2 rfl) ?_
        refine lv_bipush (v := 99) hx hb dX5_enrol_15 (by decide) ?_
        refine lv_icmp_gt (tgt := 40) hx hb dX5_enrol_17 (by decide) (fun c_4 => ?_) (fun c_4 => ?_)
        · refine lv_ldc (own := "HeroTable$Table") (index := 83) (v := (-1000002)) hx hb hown (htg _ k396) dX5_enrol_40 ?_
          have hP9 := hP.sub (ws' := [(t0, .inr (6, [.ref th, .ref ts, .ref tg, .ref td, .int 0, .ref tr, .int (-1), .int 0, .int 0, .int 0, .long 0, .int 0, .int 0])), (tg, .inr (3, [.ref tc])), (tc, .inl (g.2.1 0, 64, .inl fc))]) [0, 8, 9] rfl
          have hD9 := hD.sub (ws' := [(t0, .inr (6, [.ref th, .ref ts, .ref tg, .ref td, .int 0, .ref tr, .int (-1), .int 0, .int 0, .int 0, .long 0, .int 0, .int 0])), (tg, .inr (3, [.ref tc])), (tc, .inl (g.2.1 0, 64, .inl fc))]) [0, 8, 9] (by decide) rfl
          refine W.widen (k := 0) (n := 0) (Nat.le_of_ble_eq_true rfl) (Nat.le_of_ble_eq_true rfl) ?_
          exact W.iret (v := (-1000002)) hx hb hr (fun t ht hW => ⟨⟨(-1000002), [(t0, .inr (6, [.ref th, .ref ts, .ref tg, .ref td, .int 0, .ref tr, .int (-1), .int 0, .int 0, .int 0, .long 0, .int 0, .int 0])), (tg, .inr (3, [.ref tc])), (tc, .inl (g.2.1 0, 64, .inl fc))], rfl, Or.inr (⟨fun hh => absurd (by simp only [fa_lt, fa_le, fa_eq, li0, li1, li5, li7, li8, li9, li20, li30, li40, li50, li97, li99, li103, li109, li115, li120, li255, lin1, lin20] at c_1 c_2 c_3 c_4 ⊢; omega : ¬ ((0 ≤ n1.toInt ∧ n1.toInt ≤ 1) ∧ (1 ≤ n2.toInt ∧ n2.toInt ≤ 99) ∧ (0 ≤ n3.toInt ∧ n3.toInt ≤ 30))) (fun k => k ⟨hh.1, hh.2.1, hh.2.2.1⟩), rfl, rfl⟩), by rw [ht]; exact hP9, va_K.moved hW.alike hK, hD9⟩, hS.F ht⟩) hS.2.2 dX5_enrol_42
        · refine lv_iload_n hx hb dX5_enrol_20 rfl (lv_at hl 3 rfl) ?_
          refine lv_if_lt (tgt := 40) hx hb dX5_enrol_21 (by decide) (fun c_5 => ?_) (fun c_5 => ?_)
          · refine lv_ldc (own := "HeroTable$Table") (index := 83) (v := (-1000002)) hx hb hown (htg _ k396) dX5_enrol_40 ?_
            have hP9 := hP.sub (ws' := [(t0, .inr (6, [.ref th, .ref ts, .ref tg, .ref td, .int 0, .ref tr, .int (-1), .int 0, .int 0, .int 0, .long 0, .int 0, .int 0])), (tg, .inr (3, [.ref tc])), (tc, .inl (g.2.1 0, 64, .inl fc))]) [0, 8, 9] rfl
            have hD9 := hD.sub (ws' := [(t0, .inr (6, [.ref th, .ref ts, .ref tg, .ref td, .int 0, .ref tr, .int (-1), .int 0, .int 0, .int 0, .long 0, .int 0, .int 0])), (tg, .inr (3, [.ref tc])), (tc, .inl (g.2.1 0, 64, .inl fc))]) [0, 8, 9] (by decide) rfl
            refine W.widen (k := 0) (n := 0) (Nat.le_of_ble_eq_true rfl) (Nat.le_of_ble_eq_true rfl) ?_
            exact W.iret (v := (-1000002)) hx hb hr (fun t ht hW => ⟨⟨(-1000002), [(t0, .inr (6, [.ref th, .ref ts, .ref tg, .ref td, .int 0, .ref tr, .int (-1), .int 0, .int 0, .int 0, .long 0, .int 0, .int 0])), (tg, .inr (3, [.ref tc])), (tc, .inl (g.2.1 0, 64, .inl fc))], rfl, Or.inr (⟨fun hh => absurd (by simp only [fa_lt, fa_le, fa_eq, li0, li1, li5, li7, li8, li9, li20, li30, li40, li50, li97, li99, li103, li109, li115, li120, li255, lin1, lin20] at c_1 c_2 c_3 c_4 c_5 ⊢; omega : ¬ ((0 ≤ n1.toInt ∧ n1.toInt ≤ 1) ∧ (1 ≤ n2.toInt ∧ n2.toInt ≤ 99) ∧ (0 ≤ n3.toInt ∧ n3.toInt ≤ 30))) (fun k => k ⟨hh.1, hh.2.1, hh.2.2.1⟩), rfl, rfl⟩), by rw [ht]; exact hP9, va_K.moved hW.alike hK, hD9⟩, hS.F ht⟩) hS.2.2 dX5_enrol_42
          · refine lv_iload_n hx hb dX5_enrol_24 rfl (lv_at hl 3 rfl) ?_
            refine lv_bipush (v := 30) hx hb dX5_enrol_25 (by decide) ?_
            refine lv_icmp_gt (tgt := 40) hx hb dX5_enrol_27 (by decide) (fun c_6 => ?_) (fun c_6 => ?_)
            · refine lv_ldc (own := "HeroTable$Table") (index := 83) (v := (-1000002)) hx hb hown (htg _ k396) dX5_enrol_40 ?_
              have hP9 := hP.sub (ws' := [(t0, .inr (6, [.ref th, .ref ts, .ref tg, .ref td, .int 0, .ref tr, .int (-1), .int 0, .int 0, .int 0, .long 0, .int 0, .int 0])), (tg, .inr (3, [.ref tc])), (tc, .inl (g.2.1 0, 64, .inl fc))]) [0, 8, 9] rfl
              have hD9 := hD.sub (ws' := [(t0, .inr (6, [.ref th, .ref ts, .ref tg, .ref td, .int 0, .ref tr, .int (-1), .int 0, .int 0, .int 0, .long 0, .int 0, .int 0])), (tg, .inr (3, [.ref tc])), (tc, .inl (g.2.1 0, 64, .inl fc))]) [0, 8, 9] (by decide) rfl
              refine W.widen (k := 0) (n := 0) (Nat.le_of_ble_eq_true rfl) (Nat.le_of_ble_eq_true rfl) ?_
              exact W.iret (v := (-1000002)) hx hb hr (fun t ht hW => ⟨⟨(-1000002), [(t0, .inr (6, [.ref th, .ref ts, .ref tg, .ref td, .int 0, .ref tr, .int (-1), .int 0, .int 0, .int 0, .long 0, .int 0, .int 0])), (tg, .inr (3, [.ref tc])), (tc, .inl (g.2.1 0, 64, .inl fc))], rfl, Or.inr (⟨fun hh => absurd (by simp only [fa_lt, fa_le, fa_eq, li0, li1, li5, li7, li8, li9, li20, li30, li40, li50, li97, li99, li103, li109, li115, li120, li255, lin1, lin20] at c_1 c_2 c_3 c_4 c_5 c_6 ⊢; omega : ¬ ((0 ≤ n1.toInt ∧ n1.toInt ≤ 1) ∧ (1 ≤ n2.toInt ∧ n2.toInt ≤ 99) ∧ (0 ≤ n3.toInt ∧ n3.toInt ≤ 30))) (fun k => k ⟨hh.1, hh.2.1, hh.2.2.1⟩), rfl, rfl⟩), by rw [ht]; exact hP9, va_K.moved hW.alike hK, hD9⟩, hS.F ht⟩) hS.2.2 dX5_enrol_42
            · refine lv_iload hx hb dX5_enrol_30 (lv_at hl 4 rfl) ?_
              refine lv_iload hx hb dX5_enrol_32 (lv_at hl 5 rfl) ?_
              have hPc := hP.sub (ws' := []) [] rfl
              have hDc := hD.sub (ws' := []) [] (by decide) rfl
              have hFc := va_free (wc := []) hD hS hA [] rfl
              refine q_ci (wr := [(t0, .inr (6, [.ref th, .ref ts, .ref tg, .ref td, .int 0, .ref tr, .int (-1), .int 0, .int 0, .int 0, .long 0, .int 0, .int 0])), (th, .inl (g.2.1 3, 6, .inr (.inr (.inr (.inr fh))))), (z0, .inr (4, [.int 0, .int 0, .int 0, .int 0, .int 0, .int 0, .int 0, .int 0, .int 0, .int 0, .int 0, .int 0, .ref z1, .ref z2, .ref z3, .ref z4, .ref z5])), (z1, .inl (g.2.1 1, 5, .inl f1)), (z2, .inl (g.2.1 1, 5, .inl f2)), (z3, .inl (g.2.1 2, 5, .inl f3)), (z4, .inl (g.2.1 1, 6, .inl f4)), (z5, .inl (g.2.1 2, 6, .inl f5)), (tg, .inr (3, [.ref tc])), (tc, .inl (g.2.1 0, 64, .inl fc))]) (va_runS (As := [.int n4, .int n5]) (rest := []) ⟨hx, hb, hml, hown, htg⟩ (c_X1_isCell l hfl g n4 n5  H.size) ⟨(qB htg k395 k53 k393 ok_X1_isCell rfl rfl ⟨Nat.le_of_ble_eq_true rfl, Nat.le_of_ble_eq_true rfl⟩), htg _ k394⟩ (q_pre [.int n4, .int n5] hPc hDc hK hS hT hFc) rfl rfl hl.1 rfl (lv_room (Nat.le_of_ble_eq_true rfl)) dX5_enrol_34 ⟨Nat.le_of_ble_eq_true rfl, Nat.le_of_ble_eq_true rfl⟩) hP hD hS hFc [] [0, 1, 2, 3, 4, 5, 6, 7, 8, 9] rfl rfl (by decide) (by decide) (fun r9 u9 H locs hw hP hD hS => ?_)
              try dsimp only at hw
              rcases hw with ⟨c_7, rfl, rfl⟩ | ⟨c_8, rfl, rfl⟩
              · have hP : va_P g.1 CLS [(t0, .inr (6, [.ref th, .ref ts, .ref tg, .ref td, .int 0, .ref tr, .int (-1), .int 0, .int 0, .int 0, .long 0, .int 0, .int 0])), (th, .inl (g.2.1 3, 6, .inr (.inr (.inr (.inr fh))))), (z0, .inr (4, [.int 0, .int 0, .int 0, .int 0, .int 0, .int 0, .int 0, .int 0, .int 0, .int 0, .int 0, .int 0, .ref z1, .ref z2, .ref z3, .ref z4, .ref z5])), (z1, .inl (g.2.1 1, 5, .inl f1)), (z2, .inl (g.2.1 1, 5, .inl f2)), (z3, .inl (g.2.1 2, 5, .inl f3)), (z4, .inl (g.2.1 1, 6, .inl f4)), (z5, .inl (g.2.1 2, 6, .inl f5)), (tg, .inr (3, [.ref tc])), (tc, .inl (g.2.1 0, 64, .inl fc))] H := hP
                have hD : va_D A [(t0, .inr (6, [.ref th, .ref ts, .ref tg, .ref td, .int 0, .ref tr, .int (-1), .int 0, .int 0, .int 0, .long 0, .int 0, .int 0])), (th, .inl (g.2.1 3, 6, .inr (.inr (.inr (.inr fh))))), (z0, .inr (4, [.int 0, .int 0, .int 0, .int 0, .int 0, .int 0, .int 0, .int 0, .int 0, .int 0, .int 0, .int 0, .ref z1, .ref z2, .ref z3, .ref z4, .ref z5])), (z1, .inl (g.2.1 1, 5, .inl f1)), (z2, .inl (g.2.1 1, 5, .inl f2)), (z3, .inl (g.2.1 2, 5, .inl f3)), (z4, .inl (g.2.1 1, 6, .inl f4)), (z5, .inl (g.2.1 2, 6, .inl f5)), (tg, .inr (3, [.ref tc])), (tc, .inl (g.2.1 0, 64, .inl fc))] := hD
                refine W.widen (k := 0) (n := 0) (Nat.le_of_ble_eq_true rfl) (Nat.le_of_ble_eq_true rfl) ?_
                refine lv_if_ne (tgt := 43) hx hb dX5_enrol_37 (by decide) (fun c_9 => ?_) (fun c_9 => absurd c_9 (by decide))
                refine lv_aload_n hx hb dX5_enrol_43 rfl (lv_at hl 0 rfl) ?_
                refine va_get (D := g.1) (ci := 6) (v := .int 0) (C := RX5) (T := TX5) (N := 13) hx hb htg inG_X5 hown hK hP 0 rfl rfl 4 (by decide) (htg _ k254) (fun _ h9 => h9) rfl dX5_enrol_44 ?_
                refine lv_bipush (v := 6) hx hb dX5_enrol_47 (by decide) ?_
                refine lv_icmp_ge (tgt := 59) hx hb dX5_enrol_49 (by decide) (fun c_10 => absurd c_10 (by decide)) (fun c_10 => ?_)
                refine lv_aload_n hx hb dX5_enrol_52 rfl (lv_at hl 0 rfl) ?_
                have hPc := hP.sub (ws' := [(t0, .inr (6, [.ref th, .ref ts, .ref tg, .ref td, .int 0, .ref tr, .int (-1), .int 0, .int 0, .int 0, .long 0, .int 0, .int 0]))]) [0] rfl
                have hDc := hD.sub (ws' := [(t0, .inr (6, [.ref th, .ref ts, .ref tg, .ref td, .int 0, .ref tr, .int (-1), .int 0, .int 0, .int 0, .long 0, .int 0, .int 0]))]) [0] (by decide) rfl
                have hFc := va_free (wc := [(t0, .inr (6, [.ref th, .ref ts, .ref tg, .ref td, .int 0, .ref tr, .int (-1), .int 0, .int 0, .int 0, .long 0, .int 0, .int 0]))]) hD hS hA [0] rfl
                refine q_ci (wr := [(th, .inl (g.2.1 3, 6, .inr (.inr (.inr (.inr fh))))), (z0, .inr (4, [.int 0, .int 0, .int 0, .int 0, .int 0, .int 0, .int 0, .int 0, .int 0, .int 0, .int 0, .int 0, .ref z1, .ref z2, .ref z3, .ref z4, .ref z5])), (z1, .inl (g.2.1 1, 5, .inl f1)), (z2, .inl (g.2.1 1, 5, .inl f2)), (z3, .inl (g.2.1 2, 5, .inl f3)), (z4, .inl (g.2.1 1, 6, .inl f4)), (z5, .inl (g.2.1 2, 6, .inl f5)), (tg, .inr (3, [.ref tc])), (tc, .inl (g.2.1 0, 64, .inl fc))]) (va_runV (As := []) (rest := []) ⟨hx, hb, hml, hown, htg⟩ (c_X5_isTurnOn l hfl g t0 th ts tg td tr  H.size) ⟨(qB htg k400 k51 k397 ok_X5_isTurnOn rfl rfl ⟨Nat.le_of_ble_eq_true rfl, Nat.le_of_ble_eq_true rfl⟩), htg _ k398, htg _ k399⟩ ⟨(q_pre [.ref t0] hPc hDc hK hS hT hFc).1, va_recv hK hP (ci := 6) (q0 := 0) rfl rfl, (q_pre [.ref t0] hPc hDc hK hS hT hFc).2⟩ rfl rfl hl.1 rfl (lv_room (Nat.le_of_ble_eq_true rfl)) dX5_enrol_53 ⟨Nat.le_of_ble_eq_true rfl, Nat.le_of_ble_eq_true rfl⟩) hP hD hS hFc [0] [1, 2, 3, 4, 5, 6, 7, 8, 9] rfl rfl (by decide) (by decide) (fun r9 u9 H locs hw hP hD hS => ?_)
                try dsimp only at hw
                rcases hw with ⟨rfl, rfl⟩
                have hP : va_P g.1 CLS [(th, .inl (g.2.1 3, 6, .inr (.inr (.inr (.inr fh))))), (z0, .inr (4, [.int 0, .int 0, .int 0, .int 0, .int 0, .int 0, .int 0, .int 0, .int 0, .int 0, .int 0, .int 0, .ref z1, .ref z2, .ref z3, .ref z4, .ref z5])), (z1, .inl (g.2.1 1, 5, .inl f1)), (z2, .inl (g.2.1 1, 5, .inl f2)), (z3, .inl (g.2.1 2, 5, .inl f3)), (z4, .inl (g.2.1 1, 6, .inl f4)), (z5, .inl (g.2.1 2, 6, .inl f5)), (tg, .inr (3, [.ref tc])), (tc, .inl (g.2.1 0, 64, .inl fc)), (t0, .inr (6, [.ref th, .ref ts, .ref tg, .ref td, .int 0, .ref tr, .int (-1), .int 0, .int 0, .int 0, .long 0, .int 0, .int 0]))] H := hP
                have hD : va_D A [(th, .inl (g.2.1 3, 6, .inr (.inr (.inr (.inr fh))))), (z0, .inr (4, [.int 0, .int 0, .int 0, .int 0, .int 0, .int 0, .int 0, .int 0, .int 0, .int 0, .int 0, .int 0, .ref z1, .ref z2, .ref z3, .ref z4, .ref z5])), (z1, .inl (g.2.1 1, 5, .inl f1)), (z2, .inl (g.2.1 1, 5, .inl f2)), (z3, .inl (g.2.1 2, 5, .inl f3)), (z4, .inl (g.2.1 1, 6, .inl f4)), (z5, .inl (g.2.1 2, 6, .inl f5)), (tg, .inr (3, [.ref tc])), (tc, .inl (g.2.1 0, 64, .inl fc)), (t0, .inr (6, [.ref th, .ref ts, .ref tg, .ref td, .int 0, .ref tr, .int (-1), .int 0, .int 0, .int 0, .long 0, .int 0, .int 0]))] := hD
                refine W.widen (k := 0) (n := 0) (Nat.le_of_ble_eq_true rfl) (Nat.le_of_ble_eq_true rfl) ?_
                refine lv_if_eq (tgt := 62) hx hb dX5_enrol_56 (by decide) (fun c_11 => ?_) (fun c_11 => absurd (by decide) c_11)
                refine lv_aload_n hx hb dX5_enrol_62 rfl (lv_at hl 0 rfl) ?_
                refine va_get (D := g.1) (ci := 6) (v := .ref tg) (C := RX5) (T := TX5) (N := 13) hx hb htg inG_X5 hown hK hP 9 rfl rfl 2 (by decide) (htg _ k251) (fun _ h9 => h9) rfl dX5_enrol_63 ?_
                refine lv_iload hx hb dX5_enrol_66 (lv_at hl 4 rfl) ?_
                refine lv_iload hx hb dX5_enrol_68 (lv_at hl 5 rfl) ?_
                have hPc := hP.sub (ws' := [(tg, .inr (3, [.ref tc])), (tc, .inl (g.2.1 0, 64, .inl fc))]) [7, 8] rfl
                have hDc := hD.sub (ws' := [(tg, .inr (3, [.ref tc])), (tc, .inl (g.2.1 0, 64, .inl fc))]) [7, 8] (by decide) rfl
                have hFc := va_free (wc := [(tg, .inr (3, [.ref tc])), (tc, .inl (g.2.1 0, 64, .inl fc))]) hD hS hA [7, 8] rfl
                refine q_ci (wr := [(th, .inl (g.2.1 3, 6, .inr (.inr (.inr (.inr fh))))), (z0, .inr (4, [.int 0, .int 0, .int 0, .int 0, .int 0, .int 0, .int 0, .int 0, .int 0, .int 0, .int 0, .int 0, .ref z1, .ref z2, .ref z3, .ref z4, .ref z5])), (z1, .inl (g.2.1 1, 5, .inl f1)), (z2, .inl (g.2.1 1, 5, .inl f2)), (z3, .inl (g.2.1 2, 5, .inl f3)), (z4, .inl (g.2.1 1, 6, .inl f4)), (z5, .inl (g.2.1 2, 6, .inl f5)), (t0, .inr (6, [.ref th, .ref ts, .ref tg, .ref td, .int 0, .ref tr, .int (-1), .int 0, .int 0, .int 0, .long 0, .int 0, .int 0]))]) (va_runV (As := [.int n4, .int n5]) (rest := []) ⟨hx, hb, hml, hown, htg⟩ (c_X1_at l hfl g tg tc fc n4 n5 (hfc) (c_7) H.size) ⟨(qB htg k405 k53 k402 ok_X1_at rfl rfl ⟨Nat.le_of_ble_eq_true rfl, Nat.le_of_ble_eq_true rfl⟩), htg _ k403, htg _ k404⟩ ⟨(q_pre [.ref tg, .int n4, .int n5] hPc hDc hK hS hT hFc).1, va_recv hK hP (ci := 3) (q0 := 7) rfl rfl, (q_pre [.ref tg, .int n4, .int n5] hPc hDc hK hS hT hFc).2⟩ rfl rfl hl.1 rfl (lv_room (Nat.le_of_ble_eq_true rfl)) dX5_enrol_70 ⟨Nat.le_of_ble_eq_true rfl, Nat.le_of_ble_eq_true rfl⟩) hP hD hS hFc [7, 8] [0, 1, 2, 3, 4, 5, 6, 9] rfl rfl (by decide) (by decide) (fun r9 u9 H locs hw hP hD hS => ?_)
                try dsimp only at hw
                rcases hw with ⟨rfl, rfl⟩
                have hP : va_P g.1 CLS [(th, .inl (g.2.1 3, 6, .inr (.inr (.inr (.inr fh))))), (z0, .inr (4, [.int 0, .int 0, .int 0, .int 0, .int 0, .int 0, .int 0, .int 0, .int 0, .int 0, .int 0, .int 0, .ref z1, .ref z2, .ref z3, .ref z4, .ref z5])), (z1, .inl (g.2.1 1, 5, .inl f1)), (z2, .inl (g.2.1 1, 5, .inl f2)), (z3, .inl (g.2.1 2, 5, .inl f3)), (z4, .inl (g.2.1 1, 6, .inl f4)), (z5, .inl (g.2.1 2, 6, .inl f5)), (t0, .inr (6, [.ref th, .ref ts, .ref tg, .ref td, .int 0, .ref tr, .int (-1), .int 0, .int 0, .int 0, .long 0, .int 0, .int 0])), (tg, .inr (3, [.ref tc])), (tc, .inl (g.2.1 0, 64, .inl fc))] H := hP
                have hD : va_D A [(th, .inl (g.2.1 3, 6, .inr (.inr (.inr (.inr fh))))), (z0, .inr (4, [.int 0, .int 0, .int 0, .int 0, .int 0, .int 0, .int 0, .int 0, .int 0, .int 0, .int 0, .int 0, .ref z1, .ref z2, .ref z3, .ref z4, .ref z5])), (z1, .inl (g.2.1 1, 5, .inl f1)), (z2, .inl (g.2.1 1, 5, .inl f2)), (z3, .inl (g.2.1 2, 5, .inl f3)), (z4, .inl (g.2.1 1, 6, .inl f4)), (z5, .inl (g.2.1 2, 6, .inl f5)), (t0, .inr (6, [.ref th, .ref ts, .ref tg, .ref td, .int 0, .ref tr, .int (-1), .int 0, .int 0, .int 0, .long 0, .int 0, .int 0])), (tg, .inr (3, [.ref tc])), (tc, .inl (g.2.1 0, 64, .inl fc))] := hD
                refine W.widen (k := 0) (n := 0) (Nat.le_of_ble_eq_true rfl) (Nat.le_of_ble_eq_true rfl) ?_
                refine lv_bipush (v := 35) hx hb dX5_enrol_73 (by decide) ?_
                refine lv_icmp_eq (tgt := 90) hx hb dX5_enrol_75 (by decide) (fun c_12 => absurd c_12 (by decide)) (fun c_12 => ?_)
                refine lv_aload_n hx hb dX5_enrol_78 rfl (lv_at hl 0 rfl) ?_
                refine lv_iload hx hb dX5_enrol_79 (lv_at hl 4 rfl) ?_
                refine lv_iload hx hb dX5_enrol_81 (lv_at hl 5 rfl) ?_
                have hPc := hP.sub (ws' := [(t0, .inr (6, [.ref th, .ref ts, .ref tg, .ref td, .int 0, .ref tr, .int (-1), .int 0, .int 0, .int 0, .long 0, .int 0, .int 0]))]) [7] rfl
                have hDc := hD.sub (ws' := [(t0, .inr (6, [.ref th, .ref ts, .ref tg, .ref td, .int 0, .ref tr, .int (-1), .int 0, .int 0, .int 0, .long 0, .int 0, .int 0]))]) [7] (by decide) rfl
                have hFc := va_free (wc := [(t0, .inr (6, [.ref th, .ref ts, .ref tg, .ref td, .int 0, .ref tr, .int (-1), .int 0, .int 0, .int 0, .long 0, .int 0, .int 0]))]) hD hS hA [7] rfl
                refine q_ci (wr := [(th, .inl (g.2.1 3, 6, .inr (.inr (.inr (.inr fh))))), (z0, .inr (4, [.int 0, .int 0, .int 0, .int 0, .int 0, .int 0, .int 0, .int 0, .int 0, .int 0, .int 0, .int 0, .ref z1, .ref z2, .ref z3, .ref z4, .ref z5])), (z1, .inl (g.2.1 1, 5, .inl f1)), (z2, .inl (g.2.1 1, 5, .inl f2)), (z3, .inl (g.2.1 2, 5, .inl f3)), (z4, .inl (g.2.1 1, 6, .inl f4)), (z5, .inl (g.2.1 2, 6, .inl f5)), (tg, .inr (3, [.ref tc])), (tc, .inl (g.2.1 0, 64, .inl fc))]) (va_runV (As := [.int n4, .int n5]) (rest := []) ⟨hx, hb, hml, hown, htg⟩ (c_X5_heroAt l hfl g t0 th ts tg td tr n4 n5  H.size) ⟨(qB htg k372 k51 k369 ok_X5_heroAt rfl rfl ⟨Nat.le_of_ble_eq_true rfl, Nat.le_of_ble_eq_true rfl⟩), htg _ k371, htg _ k0⟩ ⟨(q_pre [.ref t0, .int n4, .int n5] hPc hDc hK hS hT hFc).1, va_recv hK hP (ci := 6) (q0 := 7) rfl rfl, (q_pre [.ref t0, .int n4, .int n5] hPc hDc hK hS hT hFc).2⟩ rfl rfl hl.1 rfl (lv_room (Nat.le_of_ble_eq_true rfl)) dX5_enrol_83 ⟨Nat.le_of_ble_eq_true rfl, Nat.le_of_ble_eq_true rfl⟩) hP hD hS hFc [7] [0, 1, 2, 3, 4, 5, 6, 8, 9] rfl rfl (by decide) (by decide) (fun r9 u9 H locs hw hP hD hS => ?_)
                try dsimp only at hw
                rcases hw with ⟨rfl, rfl⟩
                have hP : va_P g.1 CLS [(th, .inl (g.2.1 3, 6, .inr (.inr (.inr (.inr fh))))), (z0, .inr (4, [.int 0, .int 0, .int 0, .int 0, .int 0, .int 0, .int 0, .int 0, .int 0, .int 0, .int 0, .int 0, .ref z1, .ref z2, .ref z3, .ref z4, .ref z5])), (z1, .inl (g.2.1 1, 5, .inl f1)), (z2, .inl (g.2.1 1, 5, .inl f2)), (z3, .inl (g.2.1 2, 5, .inl f3)), (z4, .inl (g.2.1 1, 6, .inl f4)), (z5, .inl (g.2.1 2, 6, .inl f5)), (tg, .inr (3, [.ref tc])), (tc, .inl (g.2.1 0, 64, .inl fc)), (t0, .inr (6, [.ref th, .ref ts, .ref tg, .ref td, .int 0, .ref tr, .int (-1), .int 0, .int 0, .int 0, .long 0, .int 0, .int 0]))] H := hP
                have hD : va_D A [(th, .inl (g.2.1 3, 6, .inr (.inr (.inr (.inr fh))))), (z0, .inr (4, [.int 0, .int 0, .int 0, .int 0, .int 0, .int 0, .int 0, .int 0, .int 0, .int 0, .int 0, .int 0, .ref z1, .ref z2, .ref z3, .ref z4, .ref z5])), (z1, .inl (g.2.1 1, 5, .inl f1)), (z2, .inl (g.2.1 1, 5, .inl f2)), (z3, .inl (g.2.1 2, 5, .inl f3)), (z4, .inl (g.2.1 1, 6, .inl f4)), (z5, .inl (g.2.1 2, 6, .inl f5)), (tg, .inr (3, [.ref tc])), (tc, .inl (g.2.1 0, 64, .inl fc)), (t0, .inr (6, [.ref th, .ref ts, .ref tg, .ref td, .int 0, .ref tr, .int (-1), .int 0, .int 0, .int 0, .long 0, .int 0, .int 0]))] := hD
                refine W.widen (k := 0) (n := 0) (Nat.le_of_ble_eq_true rfl) (Nat.le_of_ble_eq_true rfl) ?_
                refine lv_iconst (v := (-1)) hx hb dX5_enrol_86 (by decide) ?_
                refine lv_icmp_eq (tgt := 93) hx hb dX5_enrol_87 (by decide) (fun c_13 => ?_) (fun c_13 => absurd (by decide) c_13)
                refine lv_aload_n hx hb dX5_enrol_93 rfl (lv_at hl 0 rfl) ?_
                refine va_get (D := g.1) (ci := 6) (v := .ref th) (C := RX5) (T := TX5) (N := 13) hx hb htg inG_X5 hown hK hP 9 rfl rfl 0 (by decide) (htg _ k247) (fun _ h9 => h9) rfl dX5_enrol_94 ?_
                refine lv_aload_n hx hb dX5_enrol_97 rfl (lv_at hl 0 rfl) ?_
                refine va_get (D := g.1) (ci := 6) (v := .int 0) (C := RX5) (T := TX5) (N := 13) hx hb htg inG_X5 hown hK hP 9 rfl rfl 4 (by decide) (htg _ k254) (fun _ h9 => h9) rfl dX5_enrol_98 ?_
                refine va_aldq hx hb hK hP 0 3 rfl rfl (i := 0) (vp_in_iff.mpr (by decide)) dX5_enrol_101 ?_
                refine W.eq (g2 := F0 m 102 ls [.ref z0]) (by rw [show (fh) (0 : Int32).toNatClampNeg = some z0 from hfh]; rfl) ?_
                refine lv_iload_n hx hb dX5_enrol_102 rfl (lv_at hl 1 rfl) ?_
                refine lv_iload_n hx hb dX5_enrol_103 rfl (lv_at hl 2 rfl) ?_
                refine lv_iload_n hx hb dX5_enrol_104 rfl (lv_at hl 3 rfl) ?_
                refine lv_iload hx hb dX5_enrol_105 (lv_at hl 4 rfl) ?_
                refine lv_iload hx hb dX5_enrol_107 (lv_at hl 5 rfl) ?_
                have hPc := hP.sub (ws' := [(z0, .inr (4, [.int 0, .int 0, .int 0, .int 0, .int 0, .int 0, .int 0, .int 0, .int 0, .int 0, .int 0, .int 0, .ref z1, .ref z2, .ref z3, .ref z4, .ref z5])), (z1, .inl (g.2.1 1, 5, .inl f1)), (z2, .inl (g.2.1 1, 5, .inl f2)), (z3, .inl (g.2.1 2, 5, .inl f3)), (z4, .inl (g.2.1 1, 6, .inl f4)), (z5, .inl (g.2.1 2, 6, .inl f5))]) [1, 2, 3, 4, 5, 6] rfl
                have hDc := hD.sub (ws' := [(z0, .inr (4, [.int 0, .int 0, .int 0, .int 0, .int 0, .int 0, .int 0, .int 0, .int 0, .int 0, .int 0, .int 0, .ref z1, .ref z2, .ref z3, .ref z4, .ref z5])), (z1, .inl (g.2.1 1, 5, .inl f1)), (z2, .inl (g.2.1 1, 5, .inl f2)), (z3, .inl (g.2.1 2, 5, .inl f3)), (z4, .inl (g.2.1 1, 6, .inl f4)), (z5, .inl (g.2.1 2, 6, .inl f5))]) [1, 2, 3, 4, 5, 6] (by decide) rfl
                have hFc := va_free (wc := [(z0, .inr (4, [.int 0, .int 0, .int 0, .int 0, .int 0, .int 0, .int 0, .int 0, .int 0, .int 0, .int 0, .int 0, .ref z1, .ref z2, .ref z3, .ref z4, .ref z5])), (z1, .inl (g.2.1 1, 5, .inl f1)), (z2, .inl (g.2.1 1, 5, .inl f2)), (z3, .inl (g.2.1 2, 5, .inl f3)), (z4, .inl (g.2.1 1, 6, .inl f4)), (z5, .inl (g.2.1 2, 6, .inl f5))]) hD hS hA [1, 2, 3, 4, 5, 6] rfl
                refine q_cv (wr := [(th, .inl (g.2.1 3, 6, .inr (.inr (.inr (.inr fh))))), (tg, .inr (3, [.ref tc])), (tc, .inl (g.2.1 0, 64, .inl fc)), (t0, .inr (6, [.ref th, .ref ts, .ref tg, .ref td, .int 0, .ref tr, .int (-1), .int 0, .int 0, .int 0, .long 0, .int 0, .int 0]))]) (va_runV (As := [.int n1, .int n2, .int n3, .int n4, .int n5]) (rest := []) ⟨hx, hb, hml, hown, htg⟩ (c_X2_start l hfl g z0 z1 z2 z3 z4 z5 f1 f2 f3 f4 f5 n1 n2 n3 n4 n5  H.size) ⟨(qB htg k411 k55 k408 ok_X2_start rfl rfl ⟨Nat.le_of_ble_eq_true rfl, Nat.le_of_ble_eq_true rfl⟩), htg _ k409, htg _ k410⟩ ⟨(q_pre [.ref z0, .int n1, .int n2, .int n3, .int n4, .int n5] hPc hDc hK hS hT hFc).1, va_recv hK hP (ci := 4) (q0 := 1) rfl rfl, (q_pre [.ref z0, .int n1, .int n2, .int n3, .int n4, .int n5] hPc hDc hK hS hT hFc).2⟩ rfl rfl hl.1 rfl (lv_room (Nat.le_of_ble_eq_true rfl)) dX5_enrol_109 ⟨Nat.le_of_ble_eq_true rfl, Nat.le_of_ble_eq_true rfl⟩) hP hD hS hFc [1, 2, 3, 4, 5, 6] [0, 7, 8, 9] rfl rfl (by decide) (by decide) (fun u9 H locs hw hP hD hS => ?_)
                try dsimp only at hw
                rcases hw with ⟨a_14, a_15, a_16, a_17, a_18, rfl⟩
                have hP : va_P g.1 CLS [(th, .inl (g.2.1 3, 6, .inr (.inr (.inr (.inr fh))))), (tg, .inr (3, [.ref tc])), (tc, .inl (g.2.1 0, 64, .inl fc)), (t0, .inr (6, [.ref th, .ref ts, .ref tg, .ref td, .int 0, .ref tr, .int (-1), .int 0, .int 0, .int 0, .long 0, .int 0, .int 0])), (z0, .inr (4, [.int n1, .int n2, .int n2, .int n3, .int n4, .int n5, .int 0, .int 3, .int 0, .int 0, .int 32, .int 32, .ref z1, .ref z2, .ref z3, .ref z4, .ref z5])), (z1, .inl (g.2.1 1, 5, .inl a_14)), (z2, .inl (g.2.1 1, 5, .inl a_15)), (z3, .inl (g.2.1 2, 5, .inl a_16)), (z4, .inl (g.2.1 1, 6, .inl a_17)), (z5, .inl (g.2.1 2, 6, .inl a_18))] H := hP
                have hD : va_D A [(th, .inl (g.2.1 3, 6, .inr (.inr (.inr (.inr fh))))), (tg, .inr (3, [.ref tc])), (tc, .inl (g.2.1 0, 64, .inl fc)), (t0, .inr (6, [.ref th, .ref ts, .ref tg, .ref td, .int 0, .ref tr, .int (-1), .int 0, .int 0, .int 0, .long 0, .int 0, .int 0])), (z0, .inr (4, [.int n1, .int n2, .int n2, .int n3, .int n4, .int n5, .int 0, .int 3, .int 0, .int 0, .int 32, .int 32, .ref z1, .ref z2, .ref z3, .ref z4, .ref z5])), (z1, .inl (g.2.1 1, 5, .inl a_14)), (z2, .inl (g.2.1 1, 5, .inl a_15)), (z3, .inl (g.2.1 2, 5, .inl a_16)), (z4, .inl (g.2.1 1, 6, .inl a_17)), (z5, .inl (g.2.1 2, 6, .inl a_18))] := hD
                refine W.widen (k := 0) (n := 0) (Nat.le_of_ble_eq_true rfl) (Nat.le_of_ble_eq_true rfl) ?_
                refine lv_aload_n hx hb dX5_enrol_112 rfl (lv_at hl 0 rfl) ?_
                refine lv_dup hx hb dX5_enrol_113 rfl ?_
                refine va_get (D := g.1) (ci := 6) (v := .int 0) (C := RX5) (T := TX5) (N := 13) hx hb htg inG_X5 hown hK hP 3 rfl rfl 4 (by decide) (htg _ k254) (fun _ h9 => h9) rfl dX5_enrol_114 ?_
                refine lv_iconst (v := 1) hx hb dX5_enrol_117 (by decide) ?_
                refine lv_iadd hx hb dX5_enrol_118 ?_
                refine lv_topi (fun x_19 ex_19 => ?_)
                obtain rfl : x_19 = 1 := ex_19.trans (by decide)
                refine va_put (D := g.1) (ci := 6) (v := .int 1) (ty := .int) (C := RX5) (T := TX5) (N := 13) hx hb htg inG_X5 tyX5 tyX5_ok nmX5 hown hK hP hD hS 3 rfl rfl 4 (by decide) (htg _ k254) (fun _ h9 => h9) rfl (by decide +kernel) rfl rfl (Nat.le_of_ble_eq_true rfl) dX5_enrol_119 (fun H locs hP hD hS => ?_)
                have hP : va_P g.1 CLS [(th, .inl (g.2.1 3, 6, .inr (.inr (.inr (.inr fh))))), (tg, .inr (3, [.ref tc])), (tc, .inl (g.2.1 0, 64, .inl fc)), (t0, .inr (6, [.ref th, .ref ts, .ref tg, .ref td, .int 1, .ref tr, .int (-1), .int 0, .int 0, .int 0, .long 0, .int 0, .int 0])), (z0, .inr (4, [.int n1, .int n2, .int n2, .int n3, .int n4, .int n5, .int 0, .int 3, .int 0, .int 0, .int 32, .int 32, .ref z1, .ref z2, .ref z3, .ref z4, .ref z5])), (z1, .inl (g.2.1 1, 5, .inl a_14)), (z2, .inl (g.2.1 1, 5, .inl a_15)), (z3, .inl (g.2.1 2, 5, .inl a_16)), (z4, .inl (g.2.1 1, 6, .inl a_17)), (z5, .inl (g.2.1 2, 6, .inl a_18))] H := hP
                have hD : va_D A [(th, .inl (g.2.1 3, 6, .inr (.inr (.inr (.inr fh))))), (tg, .inr (3, [.ref tc])), (tc, .inl (g.2.1 0, 64, .inl fc)), (t0, .inr (6, [.ref th, .ref ts, .ref tg, .ref td, .int 1, .ref tr, .int (-1), .int 0, .int 0, .int 0, .long 0, .int 0, .int 0])), (z0, .inr (4, [.int n1, .int n2, .int n2, .int n3, .int n4, .int n5, .int 0, .int 3, .int 0, .int 0, .int 32, .int 32, .ref z1, .ref z2, .ref z3, .ref z4, .ref z5])), (z1, .inl (g.2.1 1, 5, .inl a_14)), (z2, .inl (g.2.1 1, 5, .inl a_15)), (z3, .inl (g.2.1 2, 5, .inl a_16)), (z4, .inl (g.2.1 1, 6, .inl a_17)), (z5, .inl (g.2.1 2, 6, .inl a_18))] := hD
                refine lv_aload_n hx hb dX5_enrol_122 rfl (lv_at hl 0 rfl) ?_
                refine va_get (D := g.1) (ci := 6) (v := .int 1) (C := RX5) (T := TX5) (N := 13) hx hb htg inG_X5 hown hK hP 3 rfl rfl 4 (by decide) (htg _ k254) (fun _ h9 => h9) rfl dX5_enrol_123 ?_
                refine lv_iconst (v := 1) hx hb dX5_enrol_126 (by decide) ?_
                refine lv_isub hx hb dX5_enrol_127 ?_
                refine lv_topi (fun x_20 ex_20 => ?_)
                obtain rfl : x_20 = 0 := ex_20.trans (by decide)
                have hP9 := hP.sub (ws' := [(t0, .inr (6, [.ref th, .ref ts, .ref tg, .ref td, .int 1, .ref tr, .int (-1), .int 0, .int 0, .int 0, .long 0, .int 0, .int 0])), (tg, .inr (3, [.ref tc])), (tc, .inl (g.2.1 0, 64, .inl fc))]) [3, 1, 2] rfl
                have hD9 := hD.sub (ws' := [(t0, .inr (6, [.ref th, .ref ts, .ref tg, .ref td, .int 1, .ref tr, .int (-1), .int 0, .int 0, .int 0, .long 0, .int 0, .int 0])), (tg, .inr (3, [.ref tc])), (tc, .inl (g.2.1 0, 64, .inl fc))]) [3, 1, 2] (by decide) rfl
                refine W.widen (k := 0) (n := 0) (Nat.le_of_ble_eq_true rfl) (Nat.le_of_ble_eq_true rfl) ?_
                exact W.iret (v := 0) hx hb hr (fun t ht hW => ⟨⟨0, [(t0, .inr (6, [.ref th, .ref ts, .ref tg, .ref td, .int 1, .ref tr, .int (-1), .int 0, .int 0, .int 0, .long 0, .int 0, .int 0])), (tg, .inr (3, [.ref tc])), (tc, .inl (g.2.1 0, 64, .inl fc))], rfl, Or.inl ⟨⟨⟨by simp only [fa_lt, fa_le, fa_eq, li0, li1, li5, li7, li8, li9, li20, li30, li40, li50, li97, li99, li103, li109, li115, li120, li255, lin1, lin20] at c_1 c_2 c_3 c_4 c_5 c_6 ⊢; omega, by simp only [fa_lt, fa_le, fa_eq, li0, li1, li5, li7, li8, li9, li20, li30, li40, li50, li97, li99, li103, li109, li115, li120, li255, lin1, lin20] at c_1 c_2 c_3 c_4 c_5 c_6 ⊢; omega⟩, ⟨by simp only [fa_lt, fa_le, fa_eq, li0, li1, li5, li7, li8, li9, li20, li30, li40, li50, li97, li99, li103, li109, li115, li120, li255, lin1, lin20] at c_1 c_2 c_3 c_4 c_5 c_6 ⊢; omega, by simp only [fa_lt, fa_le, fa_eq, li0, li1, li5, li7, li8, li9, li20, li30, li40, li50, li97, li99, li103, li109, li115, li120, li255, lin1, lin20] at c_1 c_2 c_3 c_4 c_5 c_6 ⊢; omega⟩, ⟨by simp only [fa_lt, fa_le, fa_eq, li0, li1, li5, li7, li8, li9, li20, li30, li40, li50, li97, li99, li103, li109, li115, li120, li255, lin1, lin20] at c_1 c_2 c_3 c_4 c_5 c_6 ⊢; omega, by simp only [fa_lt, fa_le, fa_eq, li0, li1, li5, li7, li8, li9, li20, li30, li40, li50, li97, li99, li103, li109, li115, li120, li255, lin1, lin20] at c_1 c_2 c_3 c_4 c_5 c_6 ⊢; omega⟩, c_7⟩, rfl, rfl⟩, by rw [ht]; exact hP9, va_K.moved hW.alike hK, hD9⟩, hS.F ht⟩) hS.2.2 dX5_enrol_128
              · have hP : va_P g.1 CLS [(t0, .inr (6, [.ref th, .ref ts, .ref tg, .ref td, .int 0, .ref tr, .int (-1), .int 0, .int 0, .int 0, .long 0, .int 0, .int 0])), (th, .inl (g.2.1 3, 6, .inr (.inr (.inr (.inr fh))))), (z0, .inr (4, [.int 0, .int 0, .int 0, .int 0, .int 0, .int 0, .int 0, .int 0, .int 0, .int 0, .int 0, .int 0, .ref z1, .ref z2, .ref z3, .ref z4, .ref z5])), (z1, .inl (g.2.1 1, 5, .inl f1)), (z2, .inl (g.2.1 1, 5, .inl f2)), (z3, .inl (g.2.1 2, 5, .inl f3)), (z4, .inl (g.2.1 1, 6, .inl f4)), (z5, .inl (g.2.1 2, 6, .inl f5)), (tg, .inr (3, [.ref tc])), (tc, .inl (g.2.1 0, 64, .inl fc))] H := hP
                have hD : va_D A [(t0, .inr (6, [.ref th, .ref ts, .ref tg, .ref td, .int 0, .ref tr, .int (-1), .int 0, .int 0, .int 0, .long 0, .int 0, .int 0])), (th, .inl (g.2.1 3, 6, .inr (.inr (.inr (.inr fh))))), (z0, .inr (4, [.int 0, .int 0, .int 0, .int 0, .int 0, .int 0, .int 0, .int 0, .int 0, .int 0, .int 0, .int 0, .ref z1, .ref z2, .ref z3, .ref z4, .ref z5])), (z1, .inl (g.2.1 1, 5, .inl f1)), (z2, .inl (g.2.1 1, 5, .inl f2)), (z3, .inl (g.2.1 2, 5, .inl f3)), (z4, .inl (g.2.1 1, 6, .inl f4)), (z5, .inl (g.2.1 2, 6, .inl f5)), (tg, .inr (3, [.ref tc])), (tc, .inl (g.2.1 0, 64, .inl fc))] := hD
                refine W.widen (k := 0) (n := 0) (Nat.le_of_ble_eq_true rfl) (Nat.le_of_ble_eq_true rfl) ?_
                refine lv_if_ne (tgt := 43) hx hb dX5_enrol_37 (by decide) (fun c_21 => absurd (by decide) c_21) (fun c_21 => ?_)
                refine lv_ldc (own := "HeroTable$Table") (index := 83) (v := (-1000002)) hx hb hown (htg _ k396) dX5_enrol_40 ?_
                have hP9 := hP.sub (ws' := [(t0, .inr (6, [.ref th, .ref ts, .ref tg, .ref td, .int 0, .ref tr, .int (-1), .int 0, .int 0, .int 0, .long 0, .int 0, .int 0])), (tg, .inr (3, [.ref tc])), (tc, .inl (g.2.1 0, 64, .inl fc))]) [0, 8, 9] rfl
                have hD9 := hD.sub (ws' := [(t0, .inr (6, [.ref th, .ref ts, .ref tg, .ref td, .int 0, .ref tr, .int (-1), .int 0, .int 0, .int 0, .long 0, .int 0, .int 0])), (tg, .inr (3, [.ref tc])), (tc, .inl (g.2.1 0, 64, .inl fc))]) [0, 8, 9] (by decide) rfl
                refine W.widen (k := 0) (n := 0) (Nat.le_of_ble_eq_true rfl) (Nat.le_of_ble_eq_true rfl) ?_
                exact W.iret (v := (-1000002)) hx hb hr (fun t ht hW => ⟨⟨(-1000002), [(t0, .inr (6, [.ref th, .ref ts, .ref tg, .ref td, .int 0, .ref tr, .int (-1), .int 0, .int 0, .int 0, .long 0, .int 0, .int 0])), (tg, .inr (3, [.ref tc])), (tc, .inl (g.2.1 0, 64, .inl fc))], rfl, Or.inr (⟨fun hh => absurd hh.2.2.2 c_8, rfl, rfl⟩), by rw [ht]; exact hP9, va_K.moved hW.alike hK, hD9⟩, hS.F ht⟩) hS.2.2 dX5_enrol_42

set_option maxHeartbeats 4000000 in
set_option maxRecDepth 100000 in
theorem c_X5_layGround (l : Launch) (hfl : l.stackTraces = false) (g : GP) (t0 : Nat) (th : Nat) (ts : Nat) (tg : Nat) (td : Nat) (tr : Nat) (tc : Nat) (fc : Nat → Int32) (n1 : Int32) (n2 : Int32) (n3 : Int32) (hfc : ∀ j : Nat, j < 64 → fc j = 46) : CI l yX5_layGround (wG yX5_layGround cX5_layGround 5 (Option.some Jvm.ClassFile.FieldType.int)) (LV 5 0 0) g [.ref t0, .int n1, .int n2, .int n3] ([(t0, .inr (6, [.ref th, .ref ts, .ref tg, .ref td, .int 0, .ref tr, .int (-1), .int 0, .int 0, .int 0, .long 0, .int 0, .int 0])), (tg, .inr (3, [.ref tc])), (tc, .inl (g.2.1 0, 64, .inl fc))]) (fun (r : Int32) (u : va_W) => (∃ (f2 : Nat → Int32), (okGr n1 n2 n3) ∧ r = 46 ∧ u = [(t0, .inr (6, [.ref th, .ref ts, .ref tg, .ref td, .int 0, .ref tr, .int (-1), .int 0, .int 0, .int 0, .long 0, .int 0, .int 0])), (tg, .inr (3, [.ref tc])), (tc, .inl (g.2.1 0, 64, .inl f2))]) ∨ ((¬ okGr n1 n2 n3) ∧ r = (-1000002) ∧ u = [(t0, .inr (6, [.ref th, .ref ts, .ref tg, .ref td, .int 0, .ref tr, .int (-1), .int 0, .int 0, .int 0, .long 0, .int 0, .int 0])), (tg, .inr (3, [.ref tc])), (tc, .inl (g.2.1 0, 64, .inl fc))])) := by
  intro sz
  refine Met.ofW (cc := cX5_layGround) (maxL := 5) (ret := (Option.some Jvm.ClassFile.FieldType.int)) (by decide) rfl ?_
  intro p e s m args below meth c s₁ B hml hv
  obtain ⟨rfl, hsz, hP, hK, hD0, hT0⟩ := hv
  have hx := B.exec
  have hb := B.bytes
  have hr := B.returns
  have hts := atoms_spec (ws := (wG yX5_layGround cX5_layGround 5 (Option.some Jvm.ClassFile.FieldType.int))) B.pre
  have htg : ∀ w ∈ G9, w.before _ s = true := fun w h => hts w (List.mem_cons_of_mem _ h)
  have hown : s.vm.findClass "HeroTable$Table" = some m.cls := findClass_of_methodNamed B.named
  have hlocks := B.notSynchronized
  subst hsz
  have hD := hD0.self (sz := s.heap.size)
  have hT := hT0
  clear hT0
  generalize hAe : va_A [(t0, .inr (6, [.ref th, .ref ts, .ref tg, .ref td, .int 0, .ref tr, .int (-1), .int 0, .int 0, .int 0, .long 0, .int 0, .int 0])), (tg, .inr (3, [.ref tc])), (tc, .inl (g.2.1 0, 64, .inl fc))] s.heap.size = A at hD hT ⊢
  have hA : ∀ q : Nat, s.heap.size ≤ q → A q := fun q h => by rw [← hAe]; exact Or.inr h
  obtain ⟨H, hH0⟩ : ∃ H, H = s.heap := ⟨_, rfl⟩
  have hS : va_S A s.heap H [] := by rw [hH0]; exact va_S.rf
  have hP : va_P g.1 CLS [(t0, .inr (6, [.ref th, .ref ts, .ref tg, .ref td, .int 0, .ref tr, .int (-1), .int 0, .int 0, .int 0, .long 0, .int 0, .int 0])), (tg, .inr (3, [.ref tc])), (tc, .inl (g.2.1 0, 64, .inl fc))] H := by rw [hH0]; exact hP
  rw [← hH0]
  have hl := lv_entry ([.ref t0, .int n1, .int n2, .int n3]) (n := 5) (Nat.le_of_ble_eq_true rfl)
  rw [lg_entry_eq]
  generalize (lg_sl ([.ref t0, .int n1, .int n2, .int n3]) ++ List.replicate (5 - (lg_sl ([.ref t0, .int n1, .int n2, .int n3])).length) Slot.unset).toArray = ls at hl ⊢
  have hl : lv_has ls 5 [(0, .ref t0), (1, .int n1), (2, .int n2), (3, .int n3)] := hl
  refine lv_iload_n hx hb dX5_layGround_0 rfl (lv_at hl 1 rfl) ?_
  refine lv_iload_n hx hb dX5_layGround_1 rfl (lv_at hl 2 rfl) ?_
  have hPc := hP.sub (ws' := []) [] rfl
  have hDc := hD.sub (ws' := []) [] (by decide) rfl
  have hFc := va_free (wc := []) hD hS hA [] rfl
  refine q_ci (wr := [(t0, .inr (6, [.ref th, .ref ts, .ref tg, .ref td, .int 0, .ref tr, .int (-1), .int 0, .int 0, .int 0, .long 0, .int 0, .int 0])), (tg, .inr (3, [.ref tc])), (tc, .inl (g.2.1 0, 64, .inl fc))]) (va_runS (As := [.int n1, .int n2]) (rest := []) ⟨hx, hb, hml, hown, htg⟩ (c_X1_isCell l hfl g n1 n2  H.size) ⟨(qB htg k395 k53 k393 ok_X1_isCell rfl rfl ⟨Nat.le_of_ble_eq_true rfl, Nat.le_of_ble_eq_true rfl⟩), htg _ k394⟩ (q_pre [.int n1, .int n2] hPc hDc hK hS hT hFc) rfl rfl hl.1 rfl (lv_room (Nat.le_of_ble_eq_true rfl)) dX5_layGround_2 ⟨Nat.le_of_ble_eq_true rfl, Nat.le_of_ble_eq_true rfl⟩) hP hD hS hFc [] [0, 1, 2] rfl rfl (by decide) (by decide) (fun r9 u9 H locs hw hP hD hS => ?_)
  try dsimp only at hw
  rcases hw with ⟨c_1, rfl, rfl⟩ | ⟨c_2, rfl, rfl⟩
  · have hP : va_P g.1 CLS [(t0, .inr (6, [.ref th, .ref ts, .ref tg, .ref td, .int 0, .ref tr, .int (-1), .int 0, .int 0, .int 0, .long 0, .int 0, .int 0])), (tg, .inr (3, [.ref tc])), (tc, .inl (g.2.1 0, 64, .inl fc))] H := hP
    have hD : va_D A [(t0, .inr (6, [.ref th, .ref ts, .ref tg, .ref td, .int 0, .ref tr, .int (-1), .int 0, .int 0, .int 0, .long 0, .int 0, .int 0])), (tg, .inr (3, [.ref tc])), (tc, .inl (g.2.1 0, 64, .inl fc))] := hD
    refine W.widen (k := 0) (n := 0) (Nat.le_of_ble_eq_true rfl) (Nat.le_of_ble_eq_true rfl) ?_
    refine lv_if_eq (tgt := 17) hx hb dX5_layGround_5 (by decide) (fun c_3 => absurd c_3 (by decide)) (fun c_3 => ?_)
    refine va_ldcS hx hb hown (hT.2.1 _ (List.mem_of_getElem? (i := 0) rfl)) dX5_layGround_8 ?_
    refine lv_iload_n hx hb dX5_layGround_10 rfl (lv_at hl 3 rfl) ?_
    have hPc := hP.sub (ws' := []) [] rfl
    have hDc := hD.sub (ws' := []) [] (by decide) rfl
    have hFc := va_free (wc := []) hD hS hA [] rfl
    refine q_ci (wr := [(t0, .inr (6, [.ref th, .ref ts, .ref tg, .ref td, .int 0, .ref tr, .int (-1), .int 0, .int 0, .int 0, .long 0, .int 0, .int 0])), (tg, .inr (3, [.ref tc])), (tc, .inl (g.2.1 0, 64, .inl fc))]) (va_runV (As := [.int n3]) (rest := []) ⟨hx, hb, hml, hown, htg⟩ (c_J0_indexOf_0 l hfl g n3  H.size) ⟨(qB htg k428 k77 k425 ok_J0_indexOf_0f7a4 rfl rfl ⟨Nat.le_of_ble_eq_true rfl, Nat.le_of_ble_eq_true rfl⟩), htg _ k426, htg _ k427⟩ ⟨(q_pre [.ref (g.2.2 10), .int n3] hPc hDc hK hS hT hFc).1, q_recvS hT hS (i := 0) (by decide), (q_pre [.ref (g.2.2 10), .int n3] hPc hDc hK hS hT hFc).2⟩ rfl rfl hl.1 rfl (lv_room (Nat.le_of_ble_eq_true rfl)) dX5_layGround_11 ⟨Nat.le_of_ble_eq_true rfl, Nat.le_of_ble_eq_true rfl⟩) hP hD hS hFc [] [0, 1, 2] rfl rfl (by decide) (by decide) (fun r9 u9 H locs hw hP hD hS => ?_)
    try dsimp only at hw
    rcases hw with ⟨c_4, rfl, rfl⟩ | ⟨c_5, rfl, rfl⟩
    · have hP : va_P g.1 CLS [(t0, .inr (6, [.ref th, .ref ts, .ref tg, .ref td, .int 0, .ref tr, .int (-1), .int 0, .int 0, .int 0, .long 0, .int 0, .int 0])), (tg, .inr (3, [.ref tc])), (tc, .inl (g.2.1 0, 64, .inl fc))] H := hP
      have hD : va_D A [(t0, .inr (6, [.ref th, .ref ts, .ref tg, .ref td, .int 0, .ref tr, .int (-1), .int 0, .int 0, .int 0, .long 0, .int 0, .int 0])), (tg, .inr (3, [.ref tc])), (tc, .inl (g.2.1 0, 64, .inl fc))] := hD
      refine W.widen (k := 0) (n := 0) (Nat.le_of_ble_eq_true rfl) (Nat.le_of_ble_eq_true rfl) ?_
      refine lv_if_ge (tgt := 20) hx hb dX5_layGround_14 (by decide) (fun c_6 => ?_) (fun c_6 => ?_)
      · refine lv_iload_n hx hb dX5_layGround_20 rfl (lv_at hl 3 rfl) ?_
        refine lv_bipush (v := 35) hx hb dX5_layGround_21 (by decide) ?_
        refine lv_icmp_ne (tgt := 39) hx hb dX5_layGround_23 (by decide) (fun c_7 => ?_) (fun c_7 => ?_)
        · refine lv_aload_n hx hb dX5_layGround_39 rfl (lv_at hl 0 rfl) ?_
          refine va_get (D := g.1) (ci := 6) (v := .ref tg) (C := RX5) (T := TX5) (N := 13) hx hb htg inG_X5 hown hK hP 0 rfl rfl 2 (by decide) (htg _ k251) (fun _ h9 => h9) rfl dX5_layGround_40 ?_
          refine lv_iload_n hx hb dX5_layGround_43 rfl (lv_at hl 1 rfl) ?_
          refine lv_iload_n hx hb dX5_layGround_44 rfl (lv_at hl 2 rfl) ?_
          have hPc := hP.sub (ws' := [(tg, .inr (3, [.ref tc])), (tc, .inl (g.2.1 0, 64, .inl fc))]) [1, 2] rfl
          have hDc := hD.sub (ws' := [(tg, .inr (3, [.ref tc])), (tc, .inl (g.2.1 0, 64, .inl fc))]) [1, 2] (by decide) rfl
          have hFc := va_free (wc := [(tg, .inr (3, [.ref tc])), (tc, .inl (g.2.1 0, 64, .inl fc))]) hD hS hA [1, 2] rfl
          refine q_ci (wr := [(t0, .inr (6, [.ref th, .ref ts, .ref tg, .ref td, .int 0, .ref tr, .int (-1), .int 0, .int 0, .int 0, .long 0, .int 0, .int 0]))]) (va_runV (As := [.int n1, .int n2]) (rest := []) ⟨hx, hb, hml, hown, htg⟩ (c_X1_at l hfl g tg tc fc n1 n2 (hfc) (c_1) H.size) ⟨(qB htg k405 k53 k402 ok_X1_at rfl rfl ⟨Nat.le_of_ble_eq_true rfl, Nat.le_of_ble_eq_true rfl⟩), htg _ k403, htg _ k404⟩ ⟨(q_pre [.ref tg, .int n1, .int n2] hPc hDc hK hS hT hFc).1, va_recv hK hP (ci := 3) (q0 := 1) rfl rfl, (q_pre [.ref tg, .int n1, .int n2] hPc hDc hK hS hT hFc).2⟩ rfl rfl hl.1 rfl (lv_room (Nat.le_of_ble_eq_true rfl)) dX5_layGround_45 ⟨Nat.le_of_ble_eq_true rfl, Nat.le_of_ble_eq_true rfl⟩) hP hD hS hFc [1, 2] [0] rfl rfl (by decide) (by decide) (fun r9 u9 H locs hw hP hD hS => ?_)
          try dsimp only at hw
          rcases hw with ⟨rfl, rfl⟩
          have hP : va_P g.1 CLS [(t0, .inr (6, [.ref th, .ref ts, .ref tg, .ref td, .int 0, .ref tr, .int (-1), .int 0, .int 0, .int 0, .long 0, .int 0, .int 0])), (tg, .inr (3, [.ref tc])), (tc, .inl (g.2.1 0, 64, .inl fc))] H := hP
          have hD : va_D A [(t0, .inr (6, [.ref th, .ref ts, .ref tg, .ref td, .int 0, .ref tr, .int (-1), .int 0, .int 0, .int 0, .long 0, .int 0, .int 0])), (tg, .inr (3, [.ref tc])), (tc, .inl (g.2.1 0, 64, .inl fc))] := hD
          refine W.widen (k := 0) (n := 0) (Nat.le_of_ble_eq_true rfl) (Nat.le_of_ble_eq_true rfl) ?_
          refine lv_istore (lv' := [(4, .int 46), (0, .ref t0), (1, .int n1), (2, .int n2), (3, .int n3)]) hx hb dX5_layGround_48 hl (by decide) rfl (fun ls hl => ?_)
          refine lv_aload_n hx hb dX5_layGround_50 rfl (lv_at hl 1 rfl) ?_
          refine va_get (D := g.1) (ci := 6) (v := .ref tg) (C := RX5) (T := TX5) (N := 13) hx hb htg inG_X5 hown hK hP 0 rfl rfl 2 (by decide) (htg _ k251) (fun _ h9 => h9) rfl dX5_layGround_51 ?_
          refine lv_iload_n hx hb dX5_layGround_54 rfl (lv_at hl 2 rfl) ?_
          refine lv_iload_n hx hb dX5_layGround_55 rfl (lv_at hl 3 rfl) ?_
          refine lv_iload_n hx hb dX5_layGround_56 rfl (lv_at hl 4 rfl) ?_
          have hPc := hP.sub (ws' := [(tg, .inr (3, [.ref tc])), (tc, .inl (g.2.1 0, 64, .inl fc))]) [1, 2] rfl
          have hDc := hD.sub (ws' := [(tg, .inr (3, [.ref tc])), (tc, .inl (g.2.1 0, 64, .inl fc))]) [1, 2] (by decide) rfl
          have hFc := va_free (wc := [(tg, .inr (3, [.ref tc])), (tc, .inl (g.2.1 0, 64, .inl fc))]) hD hS hA [1, 2] rfl
          refine q_cv (wr := [(t0, .inr (6, [.ref th, .ref ts, .ref tg, .ref td, .int 0, .ref tr, .int (-1), .int 0, .int 0, .int 0, .long 0, .int 0, .int 0]))]) (va_runV (As := [.int n1, .int n2, .int n3]) (rest := []) ⟨hx, hb, hml, hown, htg⟩ (c_X1_lay l hfl g tg tc fc n1 n2 n3 (c_1) H.size) ⟨(qB htg k514 k53 k511 ok_X1_lay rfl rfl ⟨Nat.le_of_ble_eq_true rfl, Nat.le_of_ble_eq_true rfl⟩), htg _ k512, htg _ k513⟩ ⟨(q_pre [.ref tg, .int n1, .int n2, .int n3] hPc hDc hK hS hT hFc).1, va_recv hK hP (ci := 3) (q0 := 1) rfl rfl, (q_pre [.ref tg, .int n1, .int n2, .int n3] hPc hDc hK hS hT hFc).2⟩ rfl rfl hl.1 rfl (lv_room (Nat.le_of_ble_eq_true rfl)) dX5_layGround_57 ⟨Nat.le_of_ble_eq_true rfl, Nat.le_of_ble_eq_true rfl⟩) hP hD hS hFc [1, 2] [0] rfl rfl (by decide) (by decide) (fun u9 H locs hw hP hD hS => ?_)
          try dsimp only at hw
          rcases hw with ⟨f_8, rfl⟩
          have hP : va_P g.1 CLS [(t0, .inr (6, [.ref th, .ref ts, .ref tg, .ref td, .int 0, .ref tr, .int (-1), .int 0, .int 0, .int 0, .long 0, .int 0, .int 0])), (tg, .inr (3, [.ref tc])), (tc, .inl (g.2.1 0, 64, .inl f_8))] H := hP
          have hD : va_D A [(t0, .inr (6, [.ref th, .ref ts, .ref tg, .ref td, .int 0, .ref tr, .int (-1), .int 0, .int 0, .int 0, .long 0, .int 0, .int 0])), (tg, .inr (3, [.ref tc])), (tc, .inl (g.2.1 0, 64, .inl f_8))] := hD
          refine W.widen (k := 0) (n := 0) (Nat.le_of_ble_eq_true rfl) (Nat.le_of_ble_eq_true rfl) ?_
          refine lv_iload hx hb dX5_layGround_60 (lv_at hl 0 rfl) ?_
          have hP9 := hP.sub (ws' := [(t0, .inr (6, [.ref th, .ref ts, .ref tg, .ref td, .int 0, .ref tr, .int (-1), .int 0, .int 0, .int 0, .long 0, .int 0, .int 0])), (tg, .inr (3, [.ref tc])), (tc, .inl (g.2.1 0, 64, .inl f_8))]) [0, 1, 2] rfl
          have hD9 := hD.sub (ws' := [(t0, .inr (6, [.ref th, .ref ts, .ref tg, .ref td, .int 0, .ref tr, .int (-1), .int 0, .int 0, .int 0, .long 0, .int 0, .int 0])), (tg, .inr (3, [.ref tc])), (tc, .inl (g.2.1 0, 64, .inl f_8))]) [0, 1, 2] (by decide) rfl
          refine W.widen (k := 0) (n := 0) (Nat.le_of_ble_eq_true rfl) (Nat.le_of_ble_eq_true rfl) ?_
          exact W.iret (v := 46) hx hb hr (fun t ht hW => ⟨⟨46, [(t0, .inr (6, [.ref th, .ref ts, .ref tg, .ref td, .int 0, .ref tr, .int (-1), .int 0, .int 0, .int 0, .long 0, .int 0, .int 0])), (tg, .inr (3, [.ref tc])), (tc, .inl (g.2.1 0, 64, .inl f_8))], rfl, Or.inl ⟨f_8, ⟨c_1, c_4, by simp only [fa_lt, fa_le, fa_eq, li0, li1, li5, li7, li8, li9, li20, li30, li40, li50, li97, li99, li103, li109, li115, li120, li255, lin1, lin20] at c_6 c_7 ⊢; omega⟩, rfl, rfl⟩, by rw [ht]; exact hP9, va_K.moved hW.alike hK, hD9⟩, hS.F ht⟩) hS.2.2 dX5_layGround_62
        · refine lv_aload_n hx hb dX5_layGround_26 rfl (lv_at hl 0 rfl) ?_
          refine lv_iload_n hx hb dX5_layGround_27 rfl (lv_at hl 1 rfl) ?_
          refine lv_iload_n hx hb dX5_layGround_28 rfl (lv_at hl 2 rfl) ?_
          have hPc := hP.sub (ws' := [(t0, .inr (6, [.ref th, .ref ts, .ref tg, .ref td, .int 0, .ref tr, .int (-1), .int 0, .int 0, .int 0, .long 0, .int 0, .int 0]))]) [0] rfl
          have hDc := hD.sub (ws' := [(t0, .inr (6, [.ref th, .ref ts, .ref tg, .ref td, .int 0, .ref tr, .int (-1), .int 0, .int 0, .int 0, .long 0, .int 0, .int 0]))]) [0] (by decide) rfl
          have hFc := va_free (wc := [(t0, .inr (6, [.ref th, .ref ts, .ref tg, .ref td, .int 0, .ref tr, .int (-1), .int 0, .int 0, .int 0, .long 0, .int 0, .int 0]))]) hD hS hA [0] rfl
          refine q_ci (wr := [(tg, .inr (3, [.ref tc])), (tc, .inl (g.2.1 0, 64, .inl fc))]) (va_runV (As := [.int n1, .int n2]) (rest := []) ⟨hx, hb, hml, hown, htg⟩ (c_X5_heroAt l hfl g t0 th ts tg td tr n1 n2  H.size) ⟨(qB htg k372 k51 k369 ok_X5_heroAt rfl rfl ⟨Nat.le_of_ble_eq_true rfl, Nat.le_of_ble_eq_true rfl⟩), htg _ k371, htg _ k0⟩ ⟨(q_pre [.ref t0, .int n1, .int n2] hPc hDc hK hS hT hFc).1, va_recv hK hP (ci := 6) (q0 := 0) rfl rfl, (q_pre [.ref t0, .int n1, .int n2] hPc hDc hK hS hT hFc).2⟩ rfl rfl hl.1 rfl (lv_room (Nat.le_of_ble_eq_true rfl)) dX5_layGround_29 ⟨Nat.le_of_ble_eq_true rfl, Nat.le_of_ble_eq_true rfl⟩) hP hD hS hFc [0] [1, 2] rfl rfl (by decide) (by decide) (fun r9 u9 H locs hw hP hD hS => ?_)
          try dsimp only at hw
          rcases hw with ⟨rfl, rfl⟩
          have hP : va_P g.1 CLS [(tg, .inr (3, [.ref tc])), (tc, .inl (g.2.1 0, 64, .inl fc)), (t0, .inr (6, [.ref th, .ref ts, .ref tg, .ref td, .int 0, .ref tr, .int (-1), .int 0, .int 0, .int 0, .long 0, .int 0, .int 0]))] H := hP
          have hD : va_D A [(tg, .inr (3, [.ref tc])), (tc, .inl (g.2.1 0, 64, .inl fc)), (t0, .inr (6, [.ref th, .ref ts, .ref tg, .ref td, .int 0, .ref tr, .int (-1), .int 0, .int 0, .int 0, .long 0, .int 0, .int 0]))] := hD
          refine W.widen (k := 0) (n := 0) (Nat.le_of_ble_eq_true rfl) (Nat.le_of_ble_eq_true rfl) ?_
          refine lv_iconst (v := (-1)) hx hb dX5_layGround_32 (by decide) ?_
          refine lv_icmp_eq (tgt := 39) hx hb dX5_layGround_33 (by decide) (fun c_9 => ?_) (fun c_9 => absurd (by decide) c_9)
          refine lv_aload_n hx hb dX5_layGround_39 rfl (lv_at hl 0 rfl) ?_
          refine va_get (D := g.1) (ci := 6) (v := .ref tg) (C := RX5) (T := TX5) (N := 13) hx hb htg inG_X5 hown hK hP 2 rfl rfl 2 (by decide) (htg _ k251) (fun _ h9 => h9) rfl dX5_layGround_40 ?_
          refine lv_iload_n hx hb dX5_layGround_43 rfl (lv_at hl 1 rfl) ?_
          refine lv_iload_n hx hb dX5_layGround_44 rfl (lv_at hl 2 rfl) ?_
          have hPc := hP.sub (ws' := [(tg, .inr (3, [.ref tc])), (tc, .inl (g.2.1 0, 64, .inl fc))]) [0, 1] rfl
          have hDc := hD.sub (ws' := [(tg, .inr (3, [.ref tc])), (tc, .inl (g.2.1 0, 64, .inl fc))]) [0, 1] (by decide) rfl
          have hFc := va_free (wc := [(tg, .inr (3, [.ref tc])), (tc, .inl (g.2.1 0, 64, .inl fc))]) hD hS hA [0, 1] rfl
          refine q_ci (wr := [(t0, .inr (6, [.ref th, .ref ts, .ref tg, .ref td, .int 0, .ref tr, .int (-1), .int 0, .int 0, .int 0, .long 0, .int 0, .int 0]))]) (va_runV (As := [.int n1, .int n2]) (rest := []) ⟨hx, hb, hml, hown, htg⟩ (c_X1_at l hfl g tg tc fc n1 n2 (hfc) (c_1) H.size) ⟨(qB htg k405 k53 k402 ok_X1_at rfl rfl ⟨Nat.le_of_ble_eq_true rfl, Nat.le_of_ble_eq_true rfl⟩), htg _ k403, htg _ k404⟩ ⟨(q_pre [.ref tg, .int n1, .int n2] hPc hDc hK hS hT hFc).1, va_recv hK hP (ci := 3) (q0 := 0) rfl rfl, (q_pre [.ref tg, .int n1, .int n2] hPc hDc hK hS hT hFc).2⟩ rfl rfl hl.1 rfl (lv_room (Nat.le_of_ble_eq_true rfl)) dX5_layGround_45 ⟨Nat.le_of_ble_eq_true rfl, Nat.le_of_ble_eq_true rfl⟩) hP hD hS hFc [0, 1] [2] rfl rfl (by decide) (by decide) (fun r9 u9 H locs hw hP hD hS => ?_)
          try dsimp only at hw
          rcases hw with ⟨rfl, rfl⟩
          have hP : va_P g.1 CLS [(t0, .inr (6, [.ref th, .ref ts, .ref tg, .ref td, .int 0, .ref tr, .int (-1), .int 0, .int 0, .int 0, .long 0, .int 0, .int 0])), (tg, .inr (3, [.ref tc])), (tc, .inl (g.2.1 0, 64, .inl fc))] H := hP
          have hD : va_D A [(t0, .inr (6, [.ref th, .ref ts, .ref tg, .ref td, .int 0, .ref tr, .int (-1), .int 0, .int 0, .int 0, .long 0, .int 0, .int 0])), (tg, .inr (3, [.ref tc])), (tc, .inl (g.2.1 0, 64, .inl fc))] := hD
          refine W.widen (k := 0) (n := 0) (Nat.le_of_ble_eq_true rfl) (Nat.le_of_ble_eq_true rfl) ?_
          refine lv_istore (lv' := [(4, .int 46), (0, .ref t0), (1, .int n1), (2, .int n2), (3, .int n3)]) hx hb dX5_layGround_48 hl (by decide) rfl (fun ls hl => ?_)
          refine lv_aload_n hx hb dX5_layGround_50 rfl (lv_at hl 1 rfl) ?_
          refine va_get (D := g.1) (ci := 6) (v := .ref tg) (C := RX5) (T := TX5) (N := 13) hx hb htg inG_X5 hown hK hP 0 rfl rfl 2 (by decide) (htg _ k251) (fun _ h9 => h9) rfl dX5_layGround_51 ?_
          refine lv_iload_n hx hb dX5_layGround_54 rfl (lv_at hl 2 rfl) ?_
          refine lv_iload_n hx hb dX5_layGround_55 rfl (lv_at hl 3 rfl) ?_
          refine lv_iload_n hx hb dX5_layGround_56 rfl (lv_at hl 4 rfl) ?_
          have hPc := hP.sub (ws' := [(tg, .inr (3, [.ref tc])), (tc, .inl (g.2.1 0, 64, .inl fc))]) [1, 2] rfl
          have hDc := hD.sub (ws' := [(tg, .inr (3, [.ref tc])), (tc, .inl (g.2.1 0, 64, .inl fc))]) [1, 2] (by decide) rfl
          have hFc := va_free (wc := [(tg, .inr (3, [.ref tc])), (tc, .inl (g.2.1 0, 64, .inl fc))]) hD hS hA [1, 2] rfl
          refine q_cv (wr := [(t0, .inr (6, [.ref th, .ref ts, .ref tg, .ref td, .int 0, .ref tr, .int (-1), .int 0, .int 0, .int 0, .long 0, .int 0, .int 0]))]) (va_runV (As := [.int n1, .int n2, .int n3]) (rest := []) ⟨hx, hb, hml, hown, htg⟩ (c_X1_lay l hfl g tg tc fc n1 n2 n3 (c_1) H.size) ⟨(qB htg k514 k53 k511 ok_X1_lay rfl rfl ⟨Nat.le_of_ble_eq_true rfl, Nat.le_of_ble_eq_true rfl⟩), htg _ k512, htg _ k513⟩ ⟨(q_pre [.ref tg, .int n1, .int n2, .int n3] hPc hDc hK hS hT hFc).1, va_recv hK hP (ci := 3) (q0 := 1) rfl rfl, (q_pre [.ref tg, .int n1, .int n2, .int n3] hPc hDc hK hS hT hFc).2⟩ rfl rfl hl.1 rfl (lv_room (Nat.le_of_ble_eq_true rfl)) dX5_layGround_57 ⟨Nat.le_of_ble_eq_true rfl, Nat.le_of_ble_eq_true rfl⟩) hP hD hS hFc [1, 2] [0] rfl rfl (by decide) (by decide) (fun u9 H locs hw hP hD hS => ?_)
          try dsimp only at hw
          rcases hw with ⟨f_10, rfl⟩
          have hP : va_P g.1 CLS [(t0, .inr (6, [.ref th, .ref ts, .ref tg, .ref td, .int 0, .ref tr, .int (-1), .int 0, .int 0, .int 0, .long 0, .int 0, .int 0])), (tg, .inr (3, [.ref tc])), (tc, .inl (g.2.1 0, 64, .inl f_10))] H := hP
          have hD : va_D A [(t0, .inr (6, [.ref th, .ref ts, .ref tg, .ref td, .int 0, .ref tr, .int (-1), .int 0, .int 0, .int 0, .long 0, .int 0, .int 0])), (tg, .inr (3, [.ref tc])), (tc, .inl (g.2.1 0, 64, .inl f_10))] := hD
          refine W.widen (k := 0) (n := 0) (Nat.le_of_ble_eq_true rfl) (Nat.le_of_ble_eq_true rfl) ?_
          refine lv_iload hx hb dX5_layGround_60 (lv_at hl 0 rfl) ?_
          have hP9 := hP.sub (ws' := [(t0, .inr (6, [.ref th, .ref ts, .ref tg, .ref td, .int 0, .ref tr, .int (-1), .int 0, .int 0, .int 0, .long 0, .int 0, .int 0])), (tg, .inr (3, [.ref tc])), (tc, .inl (g.2.1 0, 64, .inl f_10))]) [0, 1, 2] rfl
          have hD9 := hD.sub (ws' := [(t0, .inr (6, [.ref th, .ref ts, .ref tg, .ref td, .int 0, .ref tr, .int (-1), .int 0, .int 0, .int 0, .long 0, .int 0, .int 0])), (tg, .inr (3, [.ref tc])), (tc, .inl (g.2.1 0, 64, .inl f_10))]) [0, 1, 2] (by decide) rfl
          refine W.widen (k := 0) (n := 0) (Nat.le_of_ble_eq_true rfl) (Nat.le_of_ble_eq_true rfl) ?_
          exact W.iret (v := 46) hx hb hr (fun t ht hW => ⟨⟨46, [(t0, .inr (6, [.ref th, .ref ts, .ref tg, .ref td, .int 0, .ref tr, .int (-1), .int 0, .int 0, .int 0, .long 0, .int 0, .int 0])), (tg, .inr (3, [.ref tc])), (tc, .inl (g.2.1 0, 64, .inl f_10))], rfl, Or.inl ⟨f_10, ⟨c_1, c_4, by simp only [fa_lt, fa_le, fa_eq, li0, li1, li5, li7, li8, li9, li20, li30, li40, li50, li97, li99, li103, li109, li115, li120, li255, lin1, lin20] at c_6 c_7 ⊢; omega⟩, rfl, rfl⟩, by rw [ht]; exact hP9, va_K.moved hW.alike hK, hD9⟩, hS.F ht⟩) hS.2.2 dX5_layGround_62
      · refine lv_ldc (own := "HeroTable$Table") (index := 83) (v := (-1000002)) hx hb hown (htg _ k396) dX5_layGround_17 ?_
        have hP9 := hP.sub (ws' := [(t0, .inr (6, [.ref th, .ref ts, .ref tg, .ref td, .int 0, .ref tr, .int (-1), .int 0, .int 0, .int 0, .long 0, .int 0, .int 0])), (tg, .inr (3, [.ref tc])), (tc, .inl (g.2.1 0, 64, .inl fc))]) [0, 1, 2] rfl
        have hD9 := hD.sub (ws' := [(t0, .inr (6, [.ref th, .ref ts, .ref tg, .ref td, .int 0, .ref tr, .int (-1), .int 0, .int 0, .int 0, .long 0, .int 0, .int 0])), (tg, .inr (3, [.ref tc])), (tc, .inl (g.2.1 0, 64, .inl fc))]) [0, 1, 2] (by decide) rfl
        refine W.widen (k := 0) (n := 0) (Nat.le_of_ble_eq_true rfl) (Nat.le_of_ble_eq_true rfl) ?_
        exact W.iret (v := (-1000002)) hx hb hr (fun t ht hW => ⟨⟨(-1000002), [(t0, .inr (6, [.ref th, .ref ts, .ref tg, .ref td, .int 0, .ref tr, .int (-1), .int 0, .int 0, .int 0, .long 0, .int 0, .int 0])), (tg, .inr (3, [.ref tc])), (tc, .inl (g.2.1 0, 64, .inl fc))], rfl, Or.inr (⟨fun hh => absurd (by simp only [fa_lt, fa_le, fa_eq, li0, li1, li5, li7, li8, li9, li20, li30, li40, li50, li97, li99, li103, li109, li115, li120, li255, lin1, lin20] at c_6 ⊢; omega : ixf n3.toInt8.toInt32 [46, 35, 126] 0 < 0) hh.2.2, rfl, rfl⟩), by rw [ht]; exact hP9, va_K.moved hW.alike hK, hD9⟩, hS.F ht⟩) hS.2.2 dX5_layGround_19
    · have hP : va_P g.1 CLS [(t0, .inr (6, [.ref th, .ref ts, .ref tg, .ref td, .int 0, .ref tr, .int (-1), .int 0, .int 0, .int 0, .long 0, .int 0, .int 0])), (tg, .inr (3, [.ref tc])), (tc, .inl (g.2.1 0, 64, .inl fc))] H := hP
      have hD : va_D A [(t0, .inr (6, [.ref th, .ref ts, .ref tg, .ref td, .int 0, .ref tr, .int (-1), .int 0, .int 0, .int 0, .long 0, .int 0, .int 0])), (tg, .inr (3, [.ref tc])), (tc, .inl (g.2.1 0, 64, .inl fc))] := hD
      refine W.widen (k := 0) (n := 0) (Nat.le_of_ble_eq_true rfl) (Nat.le_of_ble_eq_true rfl) ?_
      refine lv_if_ge (tgt := 20) hx hb dX5_layGround_14 (by decide) (fun c_11 => absurd c_11 (by decide)) (fun c_11 => ?_)
      refine lv_ldc (own := "HeroTable$Table") (index := 83) (v := (-1000002)) hx hb hown (htg _ k396) dX5_layGround_17 ?_
      have hP9 := hP.sub (ws' := [(t0, .inr (6, [.ref th, .ref ts, .ref tg, .ref td, .int 0, .ref tr, .int (-1), .int 0, .int 0, .int 0, .long 0, .int 0, .int 0])), (tg, .inr (3, [.ref tc])), (tc, .inl (g.2.1 0, 64, .inl fc))]) [0, 1, 2] rfl
      have hD9 := hD.sub (ws' := [(t0, .inr (6, [.ref th, .ref ts, .ref tg, .ref td, .int 0, .ref tr, .int (-1), .int 0, .int 0, .int 0, .long 0, .int 0, .int 0])), (tg, .inr (3, [.ref tc])), (tc, .inl (g.2.1 0, 64, .inl fc))]) [0, 1, 2] (by decide) rfl
      refine W.widen (k := 0) (n := 0) (Nat.le_of_ble_eq_true rfl) (Nat.le_of_ble_eq_true rfl) ?_
      exact W.iret (v := (-1000002)) hx hb hr (fun t ht hW => ⟨⟨(-1000002), [(t0, .inr (6, [.ref th, .ref ts, .ref tg, .ref td, .int 0, .ref tr, .int (-1), .int 0, .int 0, .int 0, .long 0, .int 0, .int 0])), (tg, .inr (3, [.ref tc])), (tc, .inl (g.2.1 0, 64, .inl fc))], rfl, Or.inr (⟨fun hh => absurd hh.2.1 c_5, rfl, rfl⟩), by rw [ht]; exact hP9, va_K.moved hW.alike hK, hD9⟩, hS.F ht⟩) hS.2.2 dX5_layGround_19
  · have hP : va_P g.1 CLS [(t0, .inr (6, [.ref th, .ref ts, .ref tg, .ref td, .int 0, .ref tr, .int (-1), .int 0, .int 0, .int 0, .long 0, .int 0, .int 0])), (tg, .inr (3, [.ref tc])), (tc, .inl (g.2.1 0, 64, .inl fc))] H := hP
    have hD : va_D A [(t0, .inr (6, [.ref th, .ref ts, .ref tg, .ref td, .int 0, .ref tr, .int (-1), .int 0, .int 0, .int 0, .long 0, .int 0, .int 0])), (tg, .inr (3, [.ref tc])), (tc, .inl (g.2.1 0, 64, .inl fc))] := hD
    refine W.widen (k := 0) (n := 0) (Nat.le_of_ble_eq_true rfl) (Nat.le_of_ble_eq_true rfl) ?_
    refine lv_if_eq (tgt := 17) hx hb dX5_layGround_5 (by decide) (fun c_12 => ?_) (fun c_12 => absurd (by decide) c_12)
    refine lv_ldc (own := "HeroTable$Table") (index := 83) (v := (-1000002)) hx hb hown (htg _ k396) dX5_layGround_17 ?_
    have hP9 := hP.sub (ws' := [(t0, .inr (6, [.ref th, .ref ts, .ref tg, .ref td, .int 0, .ref tr, .int (-1), .int 0, .int 0, .int 0, .long 0, .int 0, .int 0])), (tg, .inr (3, [.ref tc])), (tc, .inl (g.2.1 0, 64, .inl fc))]) [0, 1, 2] rfl
    have hD9 := hD.sub (ws' := [(t0, .inr (6, [.ref th, .ref ts, .ref tg, .ref td, .int 0, .ref tr, .int (-1), .int 0, .int 0, .int 0, .long 0, .int 0, .int 0])), (tg, .inr (3, [.ref tc])), (tc, .inl (g.2.1 0, 64, .inl fc))]) [0, 1, 2] (by decide) rfl
    refine W.widen (k := 0) (n := 0) (Nat.le_of_ble_eq_true rfl) (Nat.le_of_ble_eq_true rfl) ?_
    exact W.iret (v := (-1000002)) hx hb hr (fun t ht hW => ⟨⟨(-1000002), [(t0, .inr (6, [.ref th, .ref ts, .ref tg, .ref td, .int 0, .ref tr, .int (-1), .int 0, .int 0, .int 0, .long 0, .int 0, .int 0])), (tg, .inr (3, [.ref tc])), (tc, .inl (g.2.1 0, 64, .inl fc))], rfl, Or.inr (⟨fun hh => absurd hh.1 c_2, rfl, rfl⟩), by rw [ht]; exact hP9, va_K.moved hW.alike hK, hD9⟩, hS.F ht⟩) hS.2.2 dX5_layGround_19

set_option maxHeartbeats 4000000 in
set_option maxRecDepth 100000 in
theorem c_X5_changeBase (l : Launch) (hfl : l.stackTraces = false) (g : GP) (t0 : Nat) (th : Nat) (ts : Nat) (tg : Nat) (td : Nat) (tr : Nat) (n1 : Int32) (n2 : Int32) (n3 : Int32)  : CI l yX5_changeBase (wG yX5_changeBase cX5_changeBase 7 (Option.some Jvm.ClassFile.FieldType.int)) (LV 3 0 0) g [.ref t0, .int n1, .int n2, .int n3] ([(t0, .inr (6, [.ref th, .ref ts, .ref tg, .ref td, .int 0, .ref tr, .int (-1), .int 0, .int 0, .int 0, .long 0, .int 0, .int 0]))]) (fun (r : Int32) (u : va_W) => r = (-1000001) ∧ u = [(t0, .inr (6, [.ref th, .ref ts, .ref tg, .ref td, .int 0, .ref tr, .int (-1), .int 0, .int 0, .int 0, .long 0, .int 0, .int 0]))]) := by
  intro sz
  refine Met.ofW (cc := cX5_changeBase) (maxL := 7) (ret := (Option.some Jvm.ClassFile.FieldType.int)) (by decide) rfl ?_
  intro p e s m args below meth c s₁ B hml hv
  obtain ⟨rfl, hsz, hP, hK, hD0, hT0⟩ := hv
  have hx := B.exec
  have hb := B.bytes
  have hr := B.returns
  have hts := atoms_spec (ws := (wG yX5_changeBase cX5_changeBase 7 (Option.some Jvm.ClassFile.FieldType.int))) B.pre
  have htg : ∀ w ∈ G9, w.before _ s = true := fun w h => hts w (List.mem_cons_of_mem _ h)
  have hown : s.vm.findClass "HeroTable$Table" = some m.cls := findClass_of_methodNamed B.named
  have hlocks := B.notSynchronized
  subst hsz
  have hD := hD0.self (sz := s.heap.size)
  have hT := hT0
  clear hT0
  generalize hAe : va_A [(t0, .inr (6, [.ref th, .ref ts, .ref tg, .ref td, .int 0, .ref tr, .int (-1), .int 0, .int 0, .int 0, .long 0, .int 0, .int 0]))] s.heap.size = A at hD hT ⊢
  have hA : ∀ q : Nat, s.heap.size ≤ q → A q := fun q h => by rw [← hAe]; exact Or.inr h
  obtain ⟨H, hH0⟩ : ∃ H, H = s.heap := ⟨_, rfl⟩
  have hS : va_S A s.heap H [] := by rw [hH0]; exact va_S.rf
  have hP : va_P g.1 CLS [(t0, .inr (6, [.ref th, .ref ts, .ref tg, .ref td, .int 0, .ref tr, .int (-1), .int 0, .int 0, .int 0, .long 0, .int 0, .int 0]))] H := by rw [hH0]; exact hP
  rw [← hH0]
  have hl := lv_entry ([.ref t0, .int n1, .int n2, .int n3]) (n := 7) (Nat.le_of_ble_eq_true rfl)
  rw [lg_entry_eq]
  generalize (lg_sl ([.ref t0, .int n1, .int n2, .int n3]) ++ List.replicate (7 - (lg_sl ([.ref t0, .int n1, .int n2, .int n3])).length) Slot.unset).toArray = ls at hl ⊢
  have hl : lv_has ls 7 [(0, .ref t0), (1, .int n1), (2, .int n2), (3, .int n3)] := hl
  refine lv_aload_n hx hb dX5_changeBase_0 rfl (lv_at hl 0 rfl) ?_
  refine lv_iload_n hx hb dX5_changeBase_1 rfl (lv_at hl 1 rfl) ?_
  have hPc := hP.sub (ws' := [(t0, .inr (6, [.ref th, .ref ts, .ref tg, .ref td, .int 0, .ref tr, .int (-1), .int 0, .int 0, .int 0, .long 0, .int 0, .int 0]))]) [0] rfl
  have hDc := hD.sub (ws' := [(t0, .inr (6, [.ref th, .ref ts, .ref tg, .ref td, .int 0, .ref tr, .int (-1), .int 0, .int 0, .int 0, .long 0, .int 0, .int 0]))]) [0] (by decide) rfl
  have hFc := va_free (wc := [(t0, .inr (6, [.ref th, .ref ts, .ref tg, .ref td, .int 0, .ref tr, .int (-1), .int 0, .int 0, .int 0, .long 0, .int 0, .int 0]))]) hD hS hA [0] rfl
  refine q_ci (wr := []) (va_runV (As := [.int n1]) (rest := []) ⟨hx, hb, hml, hown, htg⟩ (c_X5_isHero l hfl g t0 th ts tg td tr n1  H.size) ⟨(qB htg k522 k51 k519 ok_X5_isHero rfl rfl ⟨Nat.le_of_ble_eq_true rfl, Nat.le_of_ble_eq_true rfl⟩), htg _ k520, htg _ k521⟩ ⟨(q_pre [.ref t0, .int n1] hPc hDc hK hS hT hFc).1, va_recv hK hP (ci := 6) (q0 := 0) rfl rfl, (q_pre [.ref t0, .int n1] hPc hDc hK hS hT hFc).2⟩ rfl rfl hl.1 rfl (lv_room (Nat.le_of_ble_eq_true rfl)) dX5_changeBase_2 ⟨Nat.le_of_ble_eq_true rfl, Nat.le_of_ble_eq_true rfl⟩) hP hD hS hFc [0] [] rfl rfl (by decide) (by decide) (fun r9 u9 H locs hw hP hD hS => ?_)
  try dsimp only at hw
  rcases hw with ⟨rfl, rfl⟩
  have hP : va_P g.1 CLS [(t0, .inr (6, [.ref th, .ref ts, .ref tg, .ref td, .int 0, .ref tr, .int (-1), .int 0, .int 0, .int 0, .long 0, .int 0, .int 0]))] H := hP
  have hD : va_D A [(t0, .inr (6, [.ref th, .ref ts, .ref tg, .ref td, .int 0, .ref tr, .int (-1), .int 0, .int 0, .int 0, .long 0, .int 0, .int 0]))] := hD
  refine W.widen (k := 0) (n := 0) (Nat.le_of_ble_eq_true rfl) (Nat.le_of_ble_eq_true rfl) ?_
  refine lv_if_ne (tgt := 11) hx hb dX5_changeBase_5 (by decide) (fun c_1 => absurd (by decide) c_1) (fun c_1 => ?_)
  refine lv_ldc (own := "HeroTable$Table") (index := 124) (v := (-1000001)) hx hb hown (htg _ k523) dX5_changeBase_8 ?_
  have hP9 := hP.sub (ws' := [(t0, .inr (6, [.ref th, .ref ts, .ref tg, .ref td, .int 0, .ref tr, .int (-1), .int 0, .int 0, .int 0, .long 0, .int 0, .int 0]))]) [0] rfl
  have hD9 := hD.sub (ws' := [(t0, .inr (6, [.ref th, .ref ts, .ref tg, .ref td, .int 0, .ref tr, .int (-1), .int 0, .int 0, .int 0, .long 0, .int 0, .int 0]))]) [0] (by decide) rfl
  refine W.widen (k := 0) (n := 0) (Nat.le_of_ble_eq_true rfl) (Nat.le_of_ble_eq_true rfl) ?_
  exact W.iret (v := (-1000001)) hx hb hr (fun t ht hW => ⟨⟨(-1000001), [(t0, .inr (6, [.ref th, .ref ts, .ref tg, .ref td, .int 0, .ref tr, .int (-1), .int 0, .int 0, .int 0, .long 0, .int 0, .int 0]))], rfl, ⟨rfl, rfl⟩, by rw [ht]; exact hP9, va_K.moved hW.alike hK, hD9⟩, hS.F ht⟩) hS.2.2 dX5_changeBase_10

set_option maxHeartbeats 4000000 in
set_option maxRecDepth 100000 in
theorem c_X5_changeSpare (l : Launch) (hfl : l.stackTraces = false) (g : GP) (t0 : Nat) (th : Nat) (ts : Nat) (tg : Nat) (td : Nat) (tr : Nat) (n1 : Int32) (n2 : Int32)  : CI l yX5_changeSpare (wG yX5_changeSpare cX5_changeSpare 4 (Option.some Jvm.ClassFile.FieldType.int)) (LV 3 0 0) g [.ref t0, .int n1, .int n2] ([(t0, .inr (6, [.ref th, .ref ts, .ref tg, .ref td, .int 0, .ref tr, .int (-1), .int 0, .int 0, .int 0, .long 0, .int 0, .int 0]))]) (fun (r : Int32) (u : va_W) => r = (-1000001) ∧ u = [(t0, .inr (6, [.ref th, .ref ts, .ref tg, .ref td, .int 0, .ref tr, .int (-1), .int 0, .int 0, .int 0, .long 0, .int 0, .int 0]))]) := by
  intro sz
  refine Met.ofW (cc := cX5_changeSpare) (maxL := 4) (ret := (Option.some Jvm.ClassFile.FieldType.int)) (by decide) rfl ?_
  intro p e s m args below meth c s₁ B hml hv
  obtain ⟨rfl, hsz, hP, hK, hD0, hT0⟩ := hv
  have hx := B.exec
  have hb := B.bytes
  have hr := B.returns
  have hts := atoms_spec (ws := (wG yX5_changeSpare cX5_changeSpare 4 (Option.some Jvm.ClassFile.FieldType.int))) B.pre
  have htg : ∀ w ∈ G9, w.before _ s = true := fun w h => hts w (List.mem_cons_of_mem _ h)
  have hown : s.vm.findClass "HeroTable$Table" = some m.cls := findClass_of_methodNamed B.named
  have hlocks := B.notSynchronized
  subst hsz
  have hD := hD0.self (sz := s.heap.size)
  have hT := hT0
  clear hT0
  generalize hAe : va_A [(t0, .inr (6, [.ref th, .ref ts, .ref tg, .ref td, .int 0, .ref tr, .int (-1), .int 0, .int 0, .int 0, .long 0, .int 0, .int 0]))] s.heap.size = A at hD hT ⊢
  have hA : ∀ q : Nat, s.heap.size ≤ q → A q := fun q h => by rw [← hAe]; exact Or.inr h
  obtain ⟨H, hH0⟩ : ∃ H, H = s.heap := ⟨_, rfl⟩
  have hS : va_S A s.heap H [] := by rw [hH0]; exact va_S.rf
  have hP : va_P g.1 CLS [(t0, .inr (6, [.ref th, .ref ts, .ref tg, .ref td, .int 0, .ref tr, .int (-1), .int 0, .int 0, .int 0, .long 0, .int 0, .int 0]))] H := by rw [hH0]; exact hP
  rw [← hH0]
  have hl := lv_entry ([.ref t0, .int n1, .int n2]) (n := 4) (Nat.le_of_ble_eq_true rfl)
  rw [lg_entry_eq]
  generalize (lg_sl ([.ref t0, .int n1, .int n2]) ++ List.replicate (4 - (lg_sl ([.ref t0, .int n1, .int n2])).length) Slot.unset).toArray = ls at hl ⊢
  have hl : lv_has ls 4 [(0, .ref t0), (1, .int n1), (2, .int n2)] := hl
  refine lv_aload_n hx hb dX5_changeSpare_0 rfl (lv_at hl 0 rfl) ?_
  refine lv_iload_n hx hb dX5_changeSpare_1 rfl (lv_at hl 1 rfl) ?_
  have hPc := hP.sub (ws' := [(t0, .inr (6, [.ref th, .ref ts, .ref tg, .ref td, .int 0, .ref tr, .int (-1), .int 0, .int 0, .int 0, .long 0, .int 0, .int 0]))]) [0] rfl
  have hDc := hD.sub (ws' := [(t0, .inr (6, [.ref th, .ref ts, .ref tg, .ref td, .int 0, .ref tr, .int (-1), .int 0, .int 0, .int 0, .long 0, .int 0, .int 0]))]) [0] (by decide) rfl
  have hFc := va_free (wc := [(t0, .inr (6, [.ref th, .ref ts, .ref tg, .ref td, .int 0, .ref tr, .int (-1), .int 0, .int 0, .int 0, .long 0, .int 0, .int 0]))]) hD hS hA [0] rfl
  refine q_ci (wr := []) (va_runV (As := [.int n1]) (rest := []) ⟨hx, hb, hml, hown, htg⟩ (c_X5_isHero l hfl g t0 th ts tg td tr n1  H.size) ⟨(qB htg k522 k51 k519 ok_X5_isHero rfl rfl ⟨Nat.le_of_ble_eq_true rfl, Nat.le_of_ble_eq_true rfl⟩), htg _ k520, htg _ k521⟩ ⟨(q_pre [.ref t0, .int n1] hPc hDc hK hS hT hFc).1, va_recv hK hP (ci := 6) (q0 := 0) rfl rfl, (q_pre [.ref t0, .int n1] hPc hDc hK hS hT hFc).2⟩ rfl rfl hl.1 rfl (lv_room (Nat.le_of_ble_eq_true rfl)) dX5_changeSpare_2 ⟨Nat.le_of_ble_eq_true rfl, Nat.le_of_ble_eq_true rfl⟩) hP hD hS hFc [0] [] rfl rfl (by decide) (by decide) (fun r9 u9 H locs hw hP hD hS => ?_)
  try dsimp only at hw
  rcases hw with ⟨rfl, rfl⟩
  have hP : va_P g.1 CLS [(t0, .inr (6, [.ref th, .ref ts, .ref tg, .ref td, .int 0, .ref tr, .int (-1), .int 0, .int 0, .int 0, .long 0, .int 0, .int 0]))] H := hP
  have hD : va_D A [(t0, .inr (6, [.ref th, .ref ts, .ref tg, .ref td, .int 0, .ref tr, .int (-1), .int 0, .int 0, .int 0, .long 0, .int 0, .int 0]))] := hD
  refine W.widen (k := 0) (n := 0) (Nat.le_of_ble_eq_true rfl) (Nat.le_of_ble_eq_true rfl) ?_
  refine lv_if_ne (tgt := 11) hx hb dX5_changeSpare_5 (by decide) (fun c_1 => absurd (by decide) c_1) (fun c_1 => ?_)
  refine lv_ldc (own := "HeroTable$Table") (index := 124) (v := (-1000001)) hx hb hown (htg _ k523) dX5_changeSpare_8 ?_
  have hP9 := hP.sub (ws' := [(t0, .inr (6, [.ref th, .ref ts, .ref tg, .ref td, .int 0, .ref tr, .int (-1), .int 0, .int 0, .int 0, .long 0, .int 0, .int 0]))]) [0] rfl
  have hD9 := hD.sub (ws' := [(t0, .inr (6, [.ref th, .ref ts, .ref tg, .ref td, .int 0, .ref tr, .int (-1), .int 0, .int 0, .int 0, .long 0, .int 0, .int 0]))]) [0] (by decide) rfl
  refine W.widen (k := 0) (n := 0) (Nat.le_of_ble_eq_true rfl) (Nat.le_of_ble_eq_true rfl) ?_
  exact W.iret (v := (-1000001)) hx hb hr (fun t ht hW => ⟨⟨(-1000001), [(t0, .inr (6, [.ref th, .ref ts, .ref tg, .ref td, .int 0, .ref tr, .int (-1), .int 0, .int 0, .int 0, .long 0, .int 0, .int 0]))], rfl, ⟨rfl, rfl⟩, by rw [ht]; exact hP9, va_K.moved hW.alike hK, hD9⟩, hS.F ht⟩) hS.2.2 dX5_changeSpare_10

set_option maxHeartbeats 4000000 in
set_option maxRecDepth 100000 in
theorem c_X5_mend (l : Launch) (hfl : l.stackTraces = false) (g : GP) (t0 : Nat) (th : Nat) (ts : Nat) (tg : Nat) (td : Nat) (tr : Nat) (n1 : Int32) (n2 : Int32)  : CI l yX5_mend (wG yX5_mend cX5_mend 4 (Option.some Jvm.ClassFile.FieldType.int)) (LV 3 0 0) g [.ref t0, .int n1, .int n2] ([(t0, .inr (6, [.ref th, .ref ts, .ref tg, .ref td, .int 0, .ref tr, .int (-1), .int 0, .int 0, .int 0, .long 0, .int 0, .int 0]))]) (fun (r : Int32) (u : va_W) => r = (-1000001) ∧ u = [(t0, .inr (6, [.ref th, .ref ts, .ref tg, .ref td, .int 0, .ref tr, .int (-1), .int 0, .int 0, .int 0, .long 0, .int 0, .int 0]))]) := by
  intro sz
  refine Met.ofW (cc := cX5_mend) (maxL := 4) (ret := (Option.some Jvm.ClassFile.FieldType.int)) (by decide) rfl ?_
  intro p e s m args below meth c s₁ B hml hv
  obtain ⟨rfl, hsz, hP, hK, hD0, hT0⟩ := hv
  have hx := B.exec
  have hb := B.bytes
  have hr := B.returns
  have hts := atoms_spec (ws := (wG yX5_mend cX5_mend 4 (Option.some Jvm.ClassFile.FieldType.int))) B.pre
  have htg : ∀ w ∈ G9, w.before _ s = true := fun w h => hts w (List.mem_cons_of_mem _ h)
  have hown : s.vm.findClass "HeroTable$Table" = some m.cls := findClass_of_methodNamed B.named
  have hlocks := B.notSynchronized
  subst hsz
  have hD := hD0.self (sz := s.heap.size)
  have hT := hT0
  clear hT0
  generalize hAe : va_A [(t0, .inr (6, [.ref th, .ref ts, .ref tg, .ref td, .int 0, .ref tr, .int (-1), .int 0, .int 0, .int 0, .long 0, .int 0, .int 0]))] s.heap.size = A at hD hT ⊢
  have hA : ∀ q : Nat, s.heap.size ≤ q → A q := fun q h => by rw [← hAe]; exact Or.inr h
  obtain ⟨H, hH0⟩ : ∃ H, H = s.heap := ⟨_, rfl⟩
  have hS : va_S A s.heap H [] := by rw [hH0]; exact va_S.rf
  have hP : va_P g.1 CLS [(t0, .inr (6, [.ref th, .ref ts, .ref tg, .ref td, .int 0, .ref tr, .int (-1), .int 0, .int 0, .int 0, .long 0, .int 0, .int 0]))] H := by rw [hH0]; exact hP
  rw [← hH0]
  have hl := lv_entry ([.ref t0, .int n1, .int n2]) (n := 4) (Nat.le_of_ble_eq_true rfl)
  rw [lg_entry_eq]
  generalize (lg_sl ([.ref t0, .int n1, .int n2]) ++ List.replicate (4 - (lg_sl ([.ref t0, .int n1, .int n2])).length) Slot.unset).toArray = ls at hl ⊢
  have hl : lv_has ls 4 [(0, .ref t0), (1, .int n1), (2, .int n2)] := hl
  refine lv_aload_n hx hb dX5_mend_0 rfl (lv_at hl 0 rfl) ?_
  refine lv_iload_n hx hb dX5_mend_1 rfl (lv_at hl 1 rfl) ?_
  have hPc := hP.sub (ws' := [(t0, .inr (6, [.ref th, .ref ts, .ref tg, .ref td, .int 0, .ref tr, .int (-1), .int 0, .int 0, .int 0, .long 0, .int 0, .int 0]))]) [0] rfl
  have hDc := hD.sub (ws' := [(t0, .inr (6, [.ref th, .ref ts, .ref tg, .ref td, .int 0, .ref tr, .int (-1), .int 0, .int 0, .int 0, .long 0, .int 0, .int 0]))]) [0] (by decide) rfl
  have hFc := va_free (wc := [(t0, .inr (6, [.ref th, .ref ts, .ref tg, .ref td, .int 0, .ref tr, .int (-1), .int 0, .int 0, .int 0, .long 0, .int 0, .int 0]))]) hD hS hA [0] rfl
  refine q_ci (wr := []) (va_runV (As := [.int n1]) (rest := []) ⟨hx, hb, hml, hown, htg⟩ (c_X5_isHero l hfl g t0 th ts tg td tr n1  H.size) ⟨(qB htg k522 k51 k519 ok_X5_isHero rfl rfl ⟨Nat.le_of_ble_eq_true rfl, Nat.le_of_ble_eq_true rfl⟩), htg _ k520, htg _ k521⟩ ⟨(q_pre [.ref t0, .int n1] hPc hDc hK hS hT hFc).1, va_recv hK hP (ci := 6) (q0 := 0) rfl rfl, (q_pre [.ref t0, .int n1] hPc hDc hK hS hT hFc).2⟩ rfl rfl hl.1 rfl (lv_room (Nat.le_of_ble_eq_true rfl)) dX5_mend_2 ⟨Nat.le_of_ble_eq_true rfl, Nat.le_of_ble_eq_true rfl⟩) hP hD hS hFc [0] [] rfl rfl (by decide) (by decide) (fun r9 u9 H locs hw hP hD hS => ?_)
  try dsimp only at hw
  rcases hw with ⟨rfl, rfl⟩
  have hP : va_P g.1 CLS [(t0, .inr (6, [.ref th, .ref ts, .ref tg, .ref td, .int 0, .ref tr, .int (-1), .int 0, .int 0, .int 0, .long 0, .int 0, .int 0]))] H := hP
  have hD : va_D A [(t0, .inr (6, [.ref th, .ref ts, .ref tg, .ref td, .int 0, .ref tr, .int (-1), .int 0, .int 0, .int 0, .long 0, .int 0, .int 0]))] := hD
  refine W.widen (k := 0) (n := 0) (Nat.le_of_ble_eq_true rfl) (Nat.le_of_ble_eq_true rfl) ?_
  refine lv_if_ne (tgt := 11) hx hb dX5_mend_5 (by decide) (fun c_1 => absurd (by decide) c_1) (fun c_1 => ?_)
  refine lv_ldc (own := "HeroTable$Table") (index := 124) (v := (-1000001)) hx hb hown (htg _ k523) dX5_mend_8 ?_
  have hP9 := hP.sub (ws' := [(t0, .inr (6, [.ref th, .ref ts, .ref tg, .ref td, .int 0, .ref tr, .int (-1), .int 0, .int 0, .int 0, .long 0, .int 0, .int 0]))]) [0] rfl
  have hD9 := hD.sub (ws' := [(t0, .inr (6, [.ref th, .ref ts, .ref tg, .ref td, .int 0, .ref tr, .int (-1), .int 0, .int 0, .int 0, .long 0, .int 0, .int 0]))]) [0] (by decide) rfl
  refine W.widen (k := 0) (n := 0) (Nat.le_of_ble_eq_true rfl) (Nat.le_of_ble_eq_true rfl) ?_
  exact W.iret (v := (-1000001)) hx hb hr (fun t ht hW => ⟨⟨(-1000001), [(t0, .inr (6, [.ref th, .ref ts, .ref tg, .ref td, .int 0, .ref tr, .int (-1), .int 0, .int 0, .int 0, .long 0, .int 0, .int 0]))], rfl, ⟨rfl, rfl⟩, by rw [ht]; exact hP9, va_K.moved hW.alike hK, hD9⟩, hS.F ht⟩) hS.2.2 dX5_mend_10

set_option maxHeartbeats 4000000 in
set_option maxRecDepth 100000 in
theorem c_X5_tellBonus (l : Launch) (hfl : l.stackTraces = false) (g : GP) (t0 : Nat) (th : Nat) (ts : Nat) (tg : Nat) (td : Nat) (tr : Nat) (n1 : Int32) (n2 : Int32) (n3 : Int32) (n4 : Int32) (n5 : Int32) (n6 : Int32)  : CI l yX5_tellBonus (wG yX5_tellBonus cX5_tellBonus 10 (Option.some Jvm.ClassFile.FieldType.int)) (LV 3 0 0) g [.ref t0, .int n1, .int n2, .int n3, .int n4, .int n5, .int n6] ([(t0, .inr (6, [.ref th, .ref ts, .ref tg, .ref td, .int 0, .ref tr, .int (-1), .int 0, .int 0, .int 0, .long 0, .int 0, .int 0]))]) (fun (r : Int32) (u : va_W) => r = (-1000001) ∧ u = [(t0, .inr (6, [.ref th, .ref ts, .ref tg, .ref td, .int 0, .ref tr, .int (-1), .int 0, .int 0, .int 0, .long 0, .int 0, .int 0]))]) := by
  intro sz
  refine Met.ofW (cc := cX5_tellBonus) (maxL := 10) (ret := (Option.some Jvm.ClassFile.FieldType.int)) (by decide) rfl ?_
  intro p e s m args below meth c s₁ B hml hv
  obtain ⟨rfl, hsz, hP, hK, hD0, hT0⟩ := hv
  have hx := B.exec
  have hb := B.bytes
  have hr := B.returns
  have hts := atoms_spec (ws := (wG yX5_tellBonus cX5_tellBonus 10 (Option.some Jvm.ClassFile.FieldType.int))) B.pre
  have htg : ∀ w ∈ G9, w.before _ s = true := fun w h => hts w (List.mem_cons_of_mem _ h)
  have hown : s.vm.findClass "HeroTable$Table" = some m.cls := findClass_of_methodNamed B.named
  have hlocks := B.notSynchronized
  subst hsz
  have hD := hD0.self (sz := s.heap.size)
  have hT := hT0
  clear hT0
  generalize hAe : va_A [(t0, .inr (6, [.ref th, .ref ts, .ref tg, .ref td, .int 0, .ref tr, .int (-1), .int 0, .int 0, .int 0, .long 0, .int 0, .int 0]))] s.heap.size = A at hD hT ⊢
  have hA : ∀ q : Nat, s.heap.size ≤ q → A q := fun q h => by rw [← hAe]; exact Or.inr h
  obtain ⟨H, hH0⟩ : ∃ H, H = s.heap := ⟨_, rfl⟩
  have hS : va_S A s.heap H [] := by rw [hH0]; exact va_S.rf
  have hP : va_P g.1 CLS [(t0, .inr (6, [.ref th, .ref ts, .ref tg, .ref td, .int 0, .ref tr, .int (-1), .int 0, .int 0, .int 0, .long 0, .int 0, .int 0]))] H := by rw [hH0]; exact hP
  rw [← hH0]
  have hl := lv_entry ([.ref t0, .int n1, .int n2, .int n3, .int n4, .int n5, .int n6]) (n := 10) (Nat.le_of_ble_eq_true rfl)
  rw [lg_entry_eq]
  generalize (lg_sl ([.ref t0, .int n1, .int n2, .int n3, .int n4, .int n5, .int n6]) ++ List.replicate (10 - (lg_sl ([.ref t0, .int n1, .int n2, .int n3, .int n4, .int n5, .int n6])).length) Slot.unset).toArray = ls at hl ⊢
  have hl : lv_has ls 10 [(0, .ref t0), (1, .int n1), (2, .int n2), (3, .int n3), (4, .int n4), (5, .int n5), (6, .int n6)] := hl
  refine lv_aload_n hx hb dX5_tellBonus_0 rfl (lv_at hl 0 rfl) ?_
  refine lv_iload_n hx hb dX5_tellBonus_1 rfl (lv_at hl 1 rfl) ?_
  have hPc := hP.sub (ws' := [(t0, .inr (6, [.ref th, .ref ts, .ref tg, .ref td, .int 0, .ref tr, .int (-1), .int 0, .int 0, .int 0, .long 0, .int 0, .int 0]))]) [0] rfl
  have hDc := hD.sub (ws' := [(t0, .inr (6, [.ref th, .ref ts, .ref tg, .ref td, .int 0, .ref tr, .int (-1), .int 0, .int 0, .int 0, .long 0, .int 0, .int 0]))]) [0] (by decide) rfl
  have hFc := va_free (wc := [(t0, .inr (6, [.ref th, .ref ts, .ref tg, .ref td, .int 0, .ref tr, .int (-1), .int 0, .int 0, .int 0, .long 0, .int 0, .int 0]))]) hD hS hA [0] rfl
  refine q_ci (wr := []) (va_runV (As := [.int n1]) (rest := []) ⟨hx, hb, hml, hown, htg⟩ (c_X5_isHero l hfl g t0 th ts tg td tr n1  H.size) ⟨(qB htg k522 k51 k519 ok_X5_isHero rfl rfl ⟨Nat.le_of_ble_eq_true rfl, Nat.le_of_ble_eq_true rfl⟩), htg _ k520, htg _ k521⟩ ⟨(q_pre [.ref t0, .int n1] hPc hDc hK hS hT hFc).1, va_recv hK hP (ci := 6) (q0 := 0) rfl rfl, (q_pre [.ref t0, .int n1] hPc hDc hK hS hT hFc).2⟩ rfl rfl hl.1 rfl (lv_room (Nat.le_of_ble_eq_true rfl)) dX5_tellBonus_2 ⟨Nat.le_of_ble_eq_true rfl, Nat.le_of_ble_eq_true rfl⟩) hP hD hS hFc [0] [] rfl rfl (by decide) (by decide) (fun r9 u9 H locs hw hP hD hS => ?_)
  try dsimp only at hw
  rcases hw with ⟨rfl, rfl⟩
  have hP : va_P g.1 CLS [(t0, .inr (6, [.ref th, .ref ts, .ref tg, .ref td, .int 0, .ref tr, .int (-1), .int 0, .int 0, .int 0, .long 0, .int 0, .int 0]))] H := hP
  have hD : va_D A [(t0, .inr (6, [.ref th, .ref ts, .ref tg, .ref td, .int 0, .ref tr, .int (-1), .int 0, .int 0, .int 0, .long 0, .int 0, .int 0]))] := hD
  refine W.widen (k := 0) (n := 0) (Nat.le_of_ble_eq_true rfl) (Nat.le_of_ble_eq_true rfl) ?_
  refine lv_if_eq (tgt := 17) hx hb dX5_tellBonus_5 (by decide) (fun c_1 => ?_) (fun c_1 => absurd (by decide) c_1)
  refine lv_ldc (own := "HeroTable$Table") (index := 124) (v := (-1000001)) hx hb hown (htg _ k523) dX5_tellBonus_17 ?_
  have hP9 := hP.sub (ws' := [(t0, .inr (6, [.ref th, .ref ts, .ref tg, .ref td, .int 0, .ref tr, .int (-1), .int 0, .int 0, .int 0, .long 0, .int 0, .int 0]))]) [0] rfl
  have hD9 := hD.sub (ws' := [(t0, .inr (6, [.ref th, .ref ts, .ref tg, .ref td, .int 0, .ref tr, .int (-1), .int 0, .int 0, .int 0, .long 0, .int 0, .int 0]))]) [0] (by decide) rfl
  refine W.widen (k := 0) (n := 0) (Nat.le_of_ble_eq_true rfl) (Nat.le_of_ble_eq_true rfl) ?_
  exact W.iret (v := (-1000001)) hx hb hr (fun t ht hW => ⟨⟨(-1000001), [(t0, .inr (6, [.ref th, .ref ts, .ref tg, .ref td, .int 0, .ref tr, .int (-1), .int 0, .int 0, .int 0, .long 0, .int 0, .int 0]))], rfl, ⟨rfl, rfl⟩, by rw [ht]; exact hP9, va_K.moved hW.alike hK, hD9⟩, hS.F ht⟩) hS.2.2 dX5_tellBonus_19

set_option maxHeartbeats 4000000 in
set_option maxRecDepth 100000 in
theorem c_X5_tellCondition (l : Launch) (hfl : l.stackTraces = false) (g : GP) (t0 : Nat) (th : Nat) (ts : Nat) (tg : Nat) (td : Nat) (tr : Nat) (n1 : Int32) (n2 : Int32) (n3 : Int32) (n4 : Int32) (n5 : Int32)  : CI l yX5_tellCondition (wG yX5_tellCondition cX5_tellCondition 7 (Option.some Jvm.ClassFile.FieldType.int)) (LV 3 0 0) g [.ref t0, .int n1, .int n2, .int n3, .int n4, .int n5] ([(t0, .inr (6, [.ref th, .ref ts, .ref tg, .ref td, .int 0, .ref tr, .int (-1), .int 0, .int 0, .int 0, .long 0, .int 0, .int 0]))]) (fun (r : Int32) (u : va_W) => r = (-1000001) ∧ u = [(t0, .inr (6, [.ref th, .ref ts, .ref tg, .ref td, .int 0, .ref tr, .int (-1), .int 0, .int 0, .int 0, .long 0, .int 0, .int 0]))]) := by
  intro sz
  refine Met.ofW (cc := cX5_tellCondition) (maxL := 7) (ret := (Option.some Jvm.ClassFile.FieldType.int)) (by decide) rfl ?_
  intro p e s m args below meth c s₁ B hml hv
  obtain ⟨rfl, hsz, hP, hK, hD0, hT0⟩ := hv
  have hx := B.exec
  have hb := B.bytes
  have hr := B.returns
  have hts := atoms_spec (ws := (wG yX5_tellCondition cX5_tellCondition 7 (Option.some Jvm.ClassFile.FieldType.int))) B.pre
  have htg : ∀ w ∈ G9, w.before _ s = true := fun w h => hts w (List.mem_cons_of_mem _ h)
  have hown : s.vm.findClass "HeroTable$Table" = some m.cls := findClass_of_methodNamed B.named
  have hlocks := B.notSynchronized
  subst hsz
  have hD := hD0.self (sz := s.heap.size)
  have hT := hT0
  clear hT0
  generalize hAe : va_A [(t0, .inr (6, [.ref th, .ref ts, .ref tg, .ref td, .int 0, .ref tr, .int (-1), .int 0, .int 0, .int 0, .long 0, .int 0, .int 0]))] s.heap.size = A at hD hT ⊢
  have hA : ∀ q : Nat, s.heap.size ≤ q → A q := fun q h => by rw [← hAe]; exact Or.inr h
  obtain ⟨H, hH0⟩ : ∃ H, H = s.heap := ⟨_, rfl⟩
  have hS : va_S A s.heap H [] := by rw [hH0]; exact va_S.rf
  have hP : va_P g.1 CLS [(t0, .inr (6, [.ref th, .ref ts, .ref tg, .ref td, .int 0, .ref tr, .int (-1), .int 0, .int 0, .int 0, .long 0, .int 0, .int 0]))] H := by rw [hH0]; exact hP
  rw [← hH0]
  have hl := lv_entry ([.ref t0, .int n1, .int n2, .int n3, .int n4, .int n5]) (n := 7) (Nat.le_of_ble_eq_true rfl)
  rw [lg_entry_eq]
  generalize (lg_sl ([.ref t0, .int n1, .int n2, .int n3, .int n4, .int n5]) ++ List.replicate (7 - (lg_sl ([.ref t0, .int n1, .int n2, .int n3, .int n4, .int n5])).length) Slot.unset).toArray = ls at hl ⊢
  have hl : lv_has ls 7 [(0, .ref t0), (1, .int n1), (2, .int n2), (3, .int n3), (4, .int n4), (5, .int n5)] := hl
  refine lv_aload_n hx hb dX5_tellCondition_0 rfl (lv_at hl 0 rfl) ?_
  refine lv_iload_n hx hb dX5_tellCondition_1 rfl (lv_at hl 1 rfl) ?_
  have hPc := hP.sub (ws' := [(t0, .inr (6, [.ref th, .ref ts, .ref tg, .ref td, .int 0, .ref tr, .int (-1), .int 0, .int 0, .int 0, .long 0, .int 0, .int 0]))]) [0] rfl
  have hDc := hD.sub (ws' := [(t0, .inr (6, [.ref th, .ref ts, .ref tg, .ref td, .int 0, .ref tr, .int (-1), .int 0, .int 0, .int 0, .long 0, .int 0, .int 0]))]) [0] (by decide) rfl
  have hFc := va_free (wc := [(t0, .inr (6, [.ref th, .ref ts, .ref tg, .ref td, .int 0, .ref tr, .int (-1), .int 0, .int 0, .int 0, .long 0, .int 0, .int 0]))]) hD hS hA [0] rfl
  refine q_ci (wr := []) (va_runV (As := [.int n1]) (rest := []) ⟨hx, hb, hml, hown, htg⟩ (c_X5_isHero l hfl g t0 th ts tg td tr n1  H.size) ⟨(qB htg k522 k51 k519 ok_X5_isHero rfl rfl ⟨Nat.le_of_ble_eq_true rfl, Nat.le_of_ble_eq_true rfl⟩), htg _ k520, htg _ k521⟩ ⟨(q_pre [.ref t0, .int n1] hPc hDc hK hS hT hFc).1, va_recv hK hP (ci := 6) (q0 := 0) rfl rfl, (q_pre [.ref t0, .int n1] hPc hDc hK hS hT hFc).2⟩ rfl rfl hl.1 rfl (lv_room (Nat.le_of_ble_eq_true rfl)) dX5_tellCondition_2 ⟨Nat.le_of_ble_eq_true rfl, Nat.le_of_ble_eq_true rfl⟩) hP hD hS hFc [0] [] rfl rfl (by decide) (by decide) (fun r9 u9 H locs hw hP hD hS => ?_)
  try dsimp only at hw
  rcases hw with ⟨rfl, rfl⟩
  have hP : va_P g.1 CLS [(t0, .inr (6, [.ref th, .ref ts, .ref tg, .ref td, .int 0, .ref tr, .int (-1), .int 0, .int 0, .int 0, .long 0, .int 0, .int 0]))] H := hP
  have hD : va_D A [(t0, .inr (6, [.ref th, .ref ts, .ref tg, .ref td, .int 0, .ref tr, .int (-1), .int 0, .int 0, .int 0, .long 0, .int 0, .int 0]))] := hD
  refine W.widen (k := 0) (n := 0) (Nat.le_of_ble_eq_true rfl) (Nat.le_of_ble_eq_true rfl) ?_
  refine lv_if_eq (tgt := 17) hx hb dX5_tellCondition_5 (by decide) (fun c_1 => ?_) (fun c_1 => absurd (by decide) c_1)
  refine lv_ldc (own := "HeroTable$Table") (index := 124) (v := (-1000001)) hx hb hown (htg _ k523) dX5_tellCondition_17 ?_
  have hP9 := hP.sub (ws' := [(t0, .inr (6, [.ref th, .ref ts, .ref tg, .ref td, .int 0, .ref tr, .int (-1), .int 0, .int 0, .int 0, .long 0, .int 0, .int 0]))]) [0] rfl
  have hD9 := hD.sub (ws' := [(t0, .inr (6, [.ref th, .ref ts, .ref tg, .ref td, .int 0, .ref tr, .int (-1), .int 0, .int 0, .int 0, .long 0, .int 0, .int 0]))]) [0] (by decide) rfl
  refine W.widen (k := 0) (n := 0) (Nat.le_of_ble_eq_true rfl) (Nat.le_of_ble_eq_true rfl) ?_
  exact W.iret (v := (-1000001)) hx hb hr (fun t ht hW => ⟨⟨(-1000001), [(t0, .inr (6, [.ref th, .ref ts, .ref tg, .ref td, .int 0, .ref tr, .int (-1), .int 0, .int 0, .int 0, .long 0, .int 0, .int 0]))], rfl, ⟨rfl, rfl⟩, by rw [ht]; exact hP9, va_K.moved hW.alike hK, hD9⟩, hS.F ht⟩) hS.2.2 dX5_tellCondition_19

set_option maxHeartbeats 4000000 in
set_option maxRecDepth 100000 in
theorem c_X5_changeImmunity (l : Launch) (hfl : l.stackTraces = false) (g : GP) (t0 : Nat) (th : Nat) (ts : Nat) (tg : Nat) (td : Nat) (tr : Nat) (n1 : Int32) (n2 : Int32) (n3 : Int32)  : CI l yX5_changeImmunity (wG yX5_changeImmunity cX5_changeImmunity 6 (Option.some Jvm.ClassFile.FieldType.int)) (LV 3 0 0) g [.ref t0, .int n1, .int n2, .int n3] ([(t0, .inr (6, [.ref th, .ref ts, .ref tg, .ref td, .int 0, .ref tr, .int (-1), .int 0, .int 0, .int 0, .long 0, .int 0, .int 0]))]) (fun (r : Int32) (u : va_W) => r = (-1000001) ∧ u = [(t0, .inr (6, [.ref th, .ref ts, .ref tg, .ref td, .int 0, .ref tr, .int (-1), .int 0, .int 0, .int 0, .long 0, .int 0, .int 0]))]) := by
  intro sz
  refine Met.ofW (cc := cX5_changeImmunity) (maxL := 6) (ret := (Option.some Jvm.ClassFile.FieldType.int)) (by decide) rfl ?_
  intro p e s m args below meth c s₁ B hml hv
  obtain ⟨rfl, hsz, hP, hK, hD0, hT0⟩ := hv
  have hx := B.exec
  have hb := B.bytes
  have hr := B.returns
  have hts := atoms_spec (ws := (wG yX5_changeImmunity cX5_changeImmunity 6 (Option.some Jvm.ClassFile.FieldType.int))) B.pre
  have htg : ∀ w ∈ G9, w.before _ s = true := fun w h => hts w (List.mem_cons_of_mem _ h)
  have hown : s.vm.findClass "HeroTable$Table" = some m.cls := findClass_of_methodNamed B.named
  have hlocks := B.notSynchronized
  subst hsz
  have hD := hD0.self (sz := s.heap.size)
  have hT := hT0
  clear hT0
  generalize hAe : va_A [(t0, .inr (6, [.ref th, .ref ts, .ref tg, .ref td, .int 0, .ref tr, .int (-1), .int 0, .int 0, .int 0, .long 0, .int 0, .int 0]))] s.heap.size = A at hD hT ⊢
  have hA : ∀ q : Nat, s.heap.size ≤ q → A q := fun q h => by rw [← hAe]; exact Or.inr h
  obtain ⟨H, hH0⟩ : ∃ H, H = s.heap := ⟨_, rfl⟩
  have hS : va_S A s.heap H [] := by rw [hH0]; exact va_S.rf
  have hP : va_P g.1 CLS [(t0, .inr (6, [.ref th, .ref ts, .ref tg, .ref td, .int 0, .ref tr, .int (-1), .int 0, .int 0, .int 0, .long 0, .int 0, .int 0]))] H := by rw [hH0]; exact hP
  rw [← hH0]
  have hl := lv_entry ([.ref t0, .int n1, .int n2, .int n3]) (n := 6) (Nat.le_of_ble_eq_true rfl)
  rw [lg_entry_eq]
  generalize (lg_sl ([.ref t0, .int n1, .int n2, .int n3]) ++ List.replicate (6 - (lg_sl ([.ref t0, .int n1, .int n2, .int n3])).length) Slot.unset).toArray = ls at hl ⊢
  have hl : lv_has ls 6 [(0, .ref t0), (1, .int n1), (2, .int n2), (3, .int n3)] := hl
  refine lv_aload_n hx hb dX5_changeImmunity_0 rfl (lv_at hl 0 rfl) ?_
  refine lv_iload_n hx hb dX5_changeImmunity_1 rfl (lv_at hl 1 rfl) ?_
  have hPc := hP.sub (ws' := [(t0, .inr (6, [.ref th, .ref ts, .ref tg, .ref td, .int 0, .ref tr, .int (-1), .int 0, .int 0, .int 0, .long 0, .int 0, .int 0]))]) [0] rfl
  have hDc := hD.sub (ws' := [(t0, .inr (6, [.ref th, .ref ts, .ref tg, .ref td, .int 0, .ref tr, .int (-1), .int 0, .int 0, .int 0, .long 0, .int 0, .int 0]))]) [0] (by decide) rfl
  have hFc := va_free (wc := [(t0, .inr (6, [.ref th, .ref ts, .ref tg, .ref td, .int 0, .ref tr, .int (-1), .int 0, .int 0, .int 0, .long 0, .int 0, .int 0]))]) hD hS hA [0] rfl
  refine q_ci (wr := []) (va_runV (As := [.int n1]) (rest := []) ⟨hx, hb, hml, hown, htg⟩ (c_X5_isHero l hfl g t0 th ts tg td tr n1  H.size) ⟨(qB htg k522 k51 k519 ok_X5_isHero rfl rfl ⟨Nat.le_of_ble_eq_true rfl, Nat.le_of_ble_eq_true rfl⟩), htg _ k520, htg _ k521⟩ ⟨(q_pre [.ref t0, .int n1] hPc hDc hK hS hT hFc).1, va_recv hK hP (ci := 6) (q0 := 0) rfl rfl, (q_pre [.ref t0, .int n1] hPc hDc hK hS hT hFc).2⟩ rfl rfl hl.1 rfl (lv_room (Nat.le_of_ble_eq_true rfl)) dX5_changeImmunity_2 ⟨Nat.le_of_ble_eq_true rfl, Nat.le_of_ble_eq_true rfl⟩) hP hD hS hFc [0] [] rfl rfl (by decide) (by decide) (fun r9 u9 H locs hw hP hD hS => ?_)
  try dsimp only at hw
  rcases hw with ⟨rfl, rfl⟩
  have hP : va_P g.1 CLS [(t0, .inr (6, [.ref th, .ref ts, .ref tg, .ref td, .int 0, .ref tr, .int (-1), .int 0, .int 0, .int 0, .long 0, .int 0, .int 0]))] H := hP
  have hD : va_D A [(t0, .inr (6, [.ref th, .ref ts, .ref tg, .ref td, .int 0, .ref tr, .int (-1), .int 0, .int 0, .int 0, .long 0, .int 0, .int 0]))] := hD
  refine W.widen (k := 0) (n := 0) (Nat.le_of_ble_eq_true rfl) (Nat.le_of_ble_eq_true rfl) ?_
  refine lv_if_ne (tgt := 11) hx hb dX5_changeImmunity_5 (by decide) (fun c_1 => absurd (by decide) c_1) (fun c_1 => ?_)
  refine lv_ldc (own := "HeroTable$Table") (index := 124) (v := (-1000001)) hx hb hown (htg _ k523) dX5_changeImmunity_8 ?_
  have hP9 := hP.sub (ws' := [(t0, .inr (6, [.ref th, .ref ts, .ref tg, .ref td, .int 0, .ref tr, .int (-1), .int 0, .int 0, .int 0, .long 0, .int 0, .int 0]))]) [0] rfl
  have hD9 := hD.sub (ws' := [(t0, .inr (6, [.ref th, .ref ts, .ref tg, .ref td, .int 0, .ref tr, .int (-1), .int 0, .int 0, .int 0, .long 0, .int 0, .int 0]))]) [0] (by decide) rfl
  refine W.widen (k := 0) (n := 0) (Nat.le_of_ble_eq_true rfl) (Nat.le_of_ble_eq_true rfl) ?_
  exact W.iret (v := (-1000001)) hx hb hr (fun t ht hW => ⟨⟨(-1000001), [(t0, .inr (6, [.ref th, .ref ts, .ref tg, .ref td, .int 0, .ref tr, .int (-1), .int 0, .int 0, .int 0, .long 0, .int 0, .int 0]))], rfl, ⟨rfl, rfl⟩, by rw [ht]; exact hP9, va_K.moved hW.alike hK, hD9⟩, hS.F ht⟩) hS.2.2 dX5_changeImmunity_10

set_option maxHeartbeats 4000000 in
set_option maxRecDepth 100000 in
theorem c_X5_quench (l : Launch) (hfl : l.stackTraces = false) (g : GP) (t0 : Nat) (th : Nat) (ts : Nat) (tg : Nat) (td : Nat) (tr : Nat) (tw : Nat) (n1 : Int32)  : CI l yX5_quench (wG yX5_quench cX5_quench 2 (Option.some Jvm.ClassFile.FieldType.int)) (LV 3 0 0) g [.ref t0, .int n1] ([(t0, .inr (6, [.ref th, .ref ts, .ref tg, .ref td, .int 0, .ref tr, .int (-1), .int 0, .int 0, .int 0, .long 0, .int 0, .int 0])), (ts, .inr (5, [.ref th, .ref tw, .int 0]))]) (fun (r : Int32) (u : va_W) => r = (-1000001) ∧ u = [(t0, .inr (6, [.ref th, .ref ts, .ref tg, .ref td, .int 0, .ref tr, .int (-1), .int 0, .int 0, .int 0, .long 0, .int 0, .int 0])), (ts, .inr (5, [.ref th, .ref tw, .int 0]))]) := by
  intro sz
  refine Met.ofW (cc := cX5_quench) (maxL := 2) (ret := (Option.some Jvm.ClassFile.FieldType.int)) (by decide) rfl ?_
  intro p e s m args below meth c s₁ B hml hv
  obtain ⟨rfl, hsz, hP, hK, hD0, hT0⟩ := hv
  have hx := B.exec
  have hb := B.bytes
  have hr := B.returns
  have hts := atoms_spec (ws := (wG yX5_quench cX5_quench 2 (Option.some Jvm.ClassFile.FieldType.int))) B.pre
  have htg : ∀ w ∈ G9, w.before _ s = true := fun w h => hts w (List.mem_cons_of_mem _ h)
  have hown : s.vm.findClass "HeroTable$Table" = some m.cls := findClass_of_methodNamed B.named
  have hlocks := B.notSynchronized
  subst hsz
  have hD := hD0.self (sz := s.heap.size)
  have hT := hT0
  clear hT0
  generalize hAe : va_A [(t0, .inr (6, [.ref th, .ref ts, .ref tg, .ref td, .int 0, .ref tr, .int (-1), .int 0, .int 0, .int 0, .long 0, .int 0, .int 0])), (ts, .inr (5, [.ref th, .ref tw, .int 0]))] s.heap.size = A at hD hT ⊢
  have hA : ∀ q : Nat, s.heap.size ≤ q → A q := fun q h => by rw [← hAe]; exact Or.inr h
  obtain ⟨H, hH0⟩ : ∃ H, H = s.heap := ⟨_, rfl⟩
  have hS : va_S A s.heap H [] := by rw [hH0]; exact va_S.rf
  have hP : va_P g.1 CLS [(t0, .inr (6, [.ref th, .ref ts, .ref tg, .ref td, .int 0, .ref tr, .int (-1), .int 0, .int 0, .int 0, .long 0, .int 0, .int 0])), (ts, .inr (5, [.ref th, .ref tw, .int 0]))] H := by rw [hH0]; exact hP
  rw [← hH0]
  have hl := lv_entry ([.ref t0, .int n1]) (n := 2) (Nat.le_of_ble_eq_true rfl)
  rw [lg_entry_eq]
  generalize (lg_sl ([.ref t0, .int n1]) ++ List.replicate (2 - (lg_sl ([.ref t0, .int n1])).length) Slot.unset).toArray = ls at hl ⊢
  have hl : lv_has ls 2 [(0, .ref t0), (1, .int n1)] := hl
  refine lv_aload_n hx hb dX5_quench_0 rfl (lv_at hl 0 rfl) ?_
  refine va_get (D := g.1) (ci := 6) (v := .ref ts) (C := RX5) (T := TX5) (N := 13) hx hb htg inG_X5 hown hK hP 0 rfl rfl 1 (by decide) (htg _ k249) (fun _ h9 => h9) rfl dX5_quench_1 ?_
  refine lv_iload_n hx hb dX5_quench_4 rfl (lv_at hl 1 rfl) ?_
  have hPc := hP.sub (ws' := [(ts, .inr (5, [.ref th, .ref tw, .int 0]))]) [1] rfl
  have hDc := hD.sub (ws' := [(ts, .inr (5, [.ref th, .ref tw, .int 0]))]) [1] (by decide) rfl
  have hFc := va_free (wc := [(ts, .inr (5, [.ref th, .ref tw, .int 0]))]) hD hS hA [1] rfl
  refine q_ci (wr := [(t0, .inr (6, [.ref th, .ref ts, .ref tg, .ref td, .int 0, .ref tr, .int (-1), .int 0, .int 0, .int 0, .long 0, .int 0, .int 0]))]) (va_runV (As := [.int n1]) (rest := []) ⟨hx, hb, hml, hown, htg⟩ (c_X4_isSource l hfl g ts th tw n1  H.size) ⟨(qB htg k609 k52 k606 ok_X4_isSource rfl rfl ⟨Nat.le_of_ble_eq_true rfl, Nat.le_of_ble_eq_true rfl⟩), htg _ k607, htg _ k608⟩ ⟨(q_pre [.ref ts, .int n1] hPc hDc hK hS hT hFc).1, va_recv hK hP (ci := 5) (q0 := 1) rfl rfl, (q_pre [.ref ts, .int n1] hPc hDc hK hS hT hFc).2⟩ rfl rfl hl.1 rfl (lv_room (Nat.le_of_ble_eq_true rfl)) dX5_quench_5 ⟨Nat.le_of_ble_eq_true rfl, Nat.le_of_ble_eq_true rfl⟩) hP hD hS hFc [1] [0] rfl rfl (by decide) (by decide) (fun r9 u9 H locs hw hP hD hS => ?_)
  try dsimp only at hw
  rcases hw with ⟨rfl, rfl⟩
  have hP : va_P g.1 CLS [(t0, .inr (6, [.ref th, .ref ts, .ref tg, .ref td, .int 0, .ref tr, .int (-1), .int 0, .int 0, .int 0, .long 0, .int 0, .int 0])), (ts, .inr (5, [.ref th, .ref tw, .int 0]))] H := hP
  have hD : va_D A [(t0, .inr (6, [.ref th, .ref ts, .ref tg, .ref td, .int 0, .ref tr, .int (-1), .int 0, .int 0, .int 0, .long 0, .int 0, .int 0])), (ts, .inr (5, [.ref th, .ref tw, .int 0]))] := hD
  refine W.widen (k := 0) (n := 0) (Nat.le_of_ble_eq_true rfl) (Nat.le_of_ble_eq_true rfl) ?_
  refine lv_if_ne (tgt := 14) hx hb dX5_quench_8 (by decide) (fun c_1 => absurd (by decide) c_1) (fun c_1 => ?_)
  refine lv_ldc (own := "HeroTable$Table") (index := 124) (v := (-1000001)) hx hb hown (htg _ k523) dX5_quench_11 ?_
  have hP9 := hP.sub (ws' := [(t0, .inr (6, [.ref th, .ref ts, .ref tg, .ref td, .int 0, .ref tr, .int (-1), .int 0, .int 0, .int 0, .long 0, .int 0, .int 0])), (ts, .inr (5, [.ref th, .ref tw, .int 0]))]) [0, 1] rfl
  have hD9 := hD.sub (ws' := [(t0, .inr (6, [.ref th, .ref ts, .ref tg, .ref td, .int 0, .ref tr, .int (-1), .int 0, .int 0, .int 0, .long 0, .int 0, .int 0])), (ts, .inr (5, [.ref th, .ref tw, .int 0]))]) [0, 1] (by decide) rfl
  refine W.widen (k := 0) (n := 0) (Nat.le_of_ble_eq_true rfl) (Nat.le_of_ble_eq_true rfl) ?_
  exact W.iret (v := (-1000001)) hx hb hr (fun t ht hW => ⟨⟨(-1000001), [(t0, .inr (6, [.ref th, .ref ts, .ref tg, .ref td, .int 0, .ref tr, .int (-1), .int 0, .int 0, .int 0, .long 0, .int 0, .int 0])), (ts, .inr (5, [.ref th, .ref tw, .int 0]))], rfl, ⟨rfl, rfl⟩, by rw [ht]; exact hP9, va_K.moved hW.alike hK, hD9⟩, hS.F ht⟩) hS.2.2 dX5_quench_13

set_option maxHeartbeats 4000000 in
set_option maxRecDepth 100000 in
theorem c_X5_hearDie (l : Launch) (hfl : l.stackTraces = false) (g : GP) (t0 : Nat) (th : Nat) (ts : Nat) (tg : Nat) (td : Nat) (tr : Nat) (tv : Nat) (fv : Nat → Int32) (n1 : Int32)  : CI l yX5_hearDie (wG yX5_hearDie cX5_hearDie 2 (Option.some Jvm.ClassFile.FieldType.int)) (LV 3 0 0) g [.ref t0, .int n1] ([(t0, .inr (6, [.ref th, .ref ts, .ref tg, .ref td, .int 0, .ref tr, .int (-1), .int 0, .int 0, .int 0, .long 0, .int 0, .int 0])), (td, .inr (2, [.ref tv, .int 0, .int 0])), (tv, .inl (g.2.1 1, 16, .inl fv))]) (fun (r : Int32) (u : va_W) => ((okDie n1) ∧ r = 1 ∧ u = [(t0, .inr (6, [.ref th, .ref ts, .ref tg, .ref td, .int 0, .ref tr, .int (-1), .int 0, .int 0, .int 0, .long 0, .int 0, .int 0])), (td, .inr (2, [.ref tv, .int 1, .int 0]))]) ∨ ((¬ okDie n1) ∧ r = (-1000002) ∧ u = [(t0, .inr (6, [.ref th, .ref ts, .ref tg, .ref td, .int 0, .ref tr, .int (-1), .int 0, .int 0, .int 0, .long 0, .int 0, .int 0]))])) := by
  intro sz
  refine Met.ofW (cc := cX5_hearDie) (maxL := 2) (ret := (Option.some Jvm.ClassFile.FieldType.int)) (by decide) rfl ?_
  intro p e s m args below meth c s₁ B hml hv
  obtain ⟨rfl, hsz, hP, hK, hD0, hT0⟩ := hv
  have hx := B.exec
  have hb := B.bytes
  have hr := B.returns
  have hts := atoms_spec (ws := (wG yX5_hearDie cX5_hearDie 2 (Option.some Jvm.ClassFile.FieldType.int))) B.pre
  have htg : ∀ w ∈ G9, w.before _ s = true := fun w h => hts w (List.mem_cons_of_mem _ h)
  have hown : s.vm.findClass "HeroTable$Table" = some m.cls := findClass_of_methodNamed B.named
  have hlocks := B.notSynchronized
  subst hsz
  have hD := hD0.self (sz := s.heap.size)
  have hT := hT0
  clear hT0
  generalize hAe : va_A [(t0, .inr (6, [.ref th, .ref ts, .ref tg, .ref td, .int 0, .ref tr, .int (-1), .int 0, .int 0, .int 0, .long 0, .int 0, .int 0])), (td, .inr (2, [.ref tv, .int 0, .int 0])), (tv, .inl (g.2.1 1, 16, .inl fv))] s.heap.size = A at hD hT ⊢
  have hA : ∀ q : Nat, s.heap.size ≤ q → A q := fun q h => by rw [← hAe]; exact Or.inr h
  obtain ⟨H, hH0⟩ : ∃ H, H = s.heap := ⟨_, rfl⟩
  have hS : va_S A s.heap H [] := by rw [hH0]; exact va_S.rf
  have hP : va_P g.1 CLS [(t0, .inr (6, [.ref th, .ref ts, .ref tg, .ref td, .int 0, .ref tr, .int (-1), .int 0, .int 0, .int 0, .long 0, .int 0, .int 0])), (td, .inr (2, [.ref tv, .int 0, .int 0])), (tv, .inl (g.2.1 1, 16, .inl fv))] H := by rw [hH0]; exact hP
  rw [← hH0]
  have hl := lv_entry ([.ref t0, .int n1]) (n := 2) (Nat.le_of_ble_eq_true rfl)
  rw [lg_entry_eq]
  generalize (lg_sl ([.ref t0, .int n1]) ++ List.replicate (2 - (lg_sl ([.ref t0, .int n1])).length) Slot.unset).toArray = ls at hl ⊢
  have hl : lv_has ls 2 [(0, .ref t0), (1, .int n1)] := hl
  refine lv_iload_n hx hb dX5_hearDie_0 rfl (lv_at hl 1 rfl) ?_
  refine lv_iconst (v := 1) hx hb dX5_hearDie_1 (by decide) ?_
  refine lv_icmp_lt (tgt := 11) hx hb dX5_hearDie_2 (by decide) (fun c_1 => ?_) (fun c_1 => ?_)
  · refine lv_ldc (own := "HeroTable$Table") (index := 83) (v := (-1000002)) hx hb hown (htg _ k396) dX5_hearDie_11 ?_
    have hP9 := hP.sub (ws' := [(t0, .inr (6, [.ref th, .ref ts, .ref tg, .ref td, .int 0, .ref tr, .int (-1), .int 0, .int 0, .int 0, .long 0, .int 0, .int 0]))]) [0] rfl
    have hD9 := hD.sub (ws' := [(t0, .inr (6, [.ref th, .ref ts, .ref tg, .ref td, .int 0, .ref tr, .int (-1), .int 0, .int 0, .int 0, .long 0, .int 0, .int 0]))]) [0] (by decide) rfl
    refine W.widen (k := 0) (n := 0) (Nat.le_of_ble_eq_true rfl) (Nat.le_of_ble_eq_true rfl) ?_
    exact W.iret (v := (-1000002)) hx hb hr (fun t ht hW => ⟨⟨(-1000002), [(t0, .inr (6, [.ref th, .ref ts, .ref tg, .ref td, .int 0, .ref tr, .int (-1), .int 0, .int 0, .int 0, .long 0, .int 0, .int 0]))], rfl, Or.inr (⟨by simp only [okDie]; simp only [fa_lt, fa_le, fa_eq, li0, li1, li5, li7, li8, li9, li20, li30, li40, li50, li97, li99, li103, li109, li115, li120, li255, lin1, lin20] at c_1 ⊢; omega, rfl, rfl⟩), by rw [ht]; exact hP9, va_K.moved hW.alike hK, hD9⟩, hS.F ht⟩) hS.2.2 dX5_hearDie_13
  · refine lv_iload_n hx hb dX5_hearDie_5 rfl (lv_at hl 1 rfl) ?_
    refine lv_bipush (v := 20) hx hb dX5_hearDie_6 (by decide) ?_
    refine lv_icmp_le (tgt := 14) hx hb dX5_hearDie_8 (by decide) (fun c_2 => ?_) (fun c_2 => ?_)
    · refine lv_aload_n hx hb dX5_hearDie_14 rfl (lv_at hl 0 rfl) ?_
      refine va_get (D := g.1) (ci := 6) (v := .ref td) (C := RX5) (T := TX5) (N := 13) hx hb htg inG_X5 hown hK hP 0 rfl rfl 3 (by decide) (htg _ k252) (fun _ h9 => h9) rfl dX5_hearDie_15 ?_
      refine lv_iload_n hx hb dX5_hearDie_18 rfl (lv_at hl 1 rfl) ?_
      have hPc := hP.sub (ws' := [(td, .inr (2, [.ref tv, .int 0, .int 0])), (tv, .inl (g.2.1 1, 16, .inl fv))]) [1, 2] rfl
      have hDc := hD.sub (ws' := [(td, .inr (2, [.ref tv, .int 0, .int 0])), (tv, .inl (g.2.1 1, 16, .inl fv))]) [1, 2] (by decide) rfl
      have hFc := va_free (wc := [(td, .inr (2, [.ref tv, .int 0, .int 0])), (tv, .inl (g.2.1 1, 16, .inl fv))]) hD hS hA [1, 2] rfl
      refine q_cv (wr := [(t0, .inr (6, [.ref th, .ref ts, .ref tg, .ref td, .int 0, .ref tr, .int (-1), .int 0, .int 0, .int 0, .long 0, .int 0, .int 0]))]) (va_runV (As := [.int n1]) (rest := []) ⟨hx, hb, hml, hown, htg⟩ (c_X0_hear l hfl g td tv n1 fv  H.size) ⟨(qB htg k622 k54 k619 ok_X0_hear rfl rfl ⟨Nat.le_of_ble_eq_true rfl, Nat.le_of_ble_eq_true rfl⟩), htg _ k620, htg _ k621⟩ ⟨(q_pre [.ref td, .int n1] hPc hDc hK hS hT hFc).1, va_recv hK hP (ci := 2) (q0 := 1) rfl rfl, (q_pre [.ref td, .int n1] hPc hDc hK hS hT hFc).2⟩ rfl rfl hl.1 rfl (lv_room (Nat.le_of_ble_eq_true rfl)) dX5_hearDie_19 ⟨Nat.le_of_ble_eq_true rfl, Nat.le_of_ble_eq_true rfl⟩) hP hD hS hFc [1, 2] [0] rfl rfl (by decide) (by decide) (fun u9 H locs hw hP hD hS => ?_)
      try dsimp only at hw
      rcases hw with ⟨f_3, rfl⟩
      have hP : va_P g.1 CLS [(t0, .inr (6, [.ref th, .ref ts, .ref tg, .ref td, .int 0, .ref tr, .int (-1), .int 0, .int 0, .int 0, .long 0, .int 0, .int 0])), (td, .inr (2, [.ref tv, .int 1, .int 0])), (tv, .inl (g.2.1 1, 16, .inl f_3))] H := hP
      have hD : va_D A [(t0, .inr (6, [.ref th, .ref ts, .ref tg, .ref td, .int 0, .ref tr, .int (-1), .int 0, .int 0, .int 0, .long 0, .int 0, .int 0])), (td, .inr (2, [.ref tv, .int 1, .int 0])), (tv, .inl (g.2.1 1, 16, .inl f_3))] := hD
      refine W.widen (k := 0) (n := 0) (Nat.le_of_ble_eq_true rfl) (Nat.le_of_ble_eq_true rfl) ?_
      refine lv_aload_n hx hb dX5_hearDie_22 rfl (lv_at hl 0 rfl) ?_
      refine va_get (D := g.1) (ci := 6) (v := .ref td) (C := RX5) (T := TX5) (N := 13) hx hb htg inG_X5 hown hK hP 0 rfl rfl 3 (by decide) (htg _ k252) (fun _ h9 => h9) rfl dX5_hearDie_23 ?_
      have hPc := hP.sub (ws' := [(td, .inr (2, [.ref tv, .int 1, .int 0]))]) [1] rfl
      have hDc := hD.sub (ws' := [(td, .inr (2, [.ref tv, .int 1, .int 0]))]) [1] (by decide) rfl
      have hFc := va_free (wc := [(td, .inr (2, [.ref tv, .int 1, .int 0]))]) hD hS hA [1] rfl
      refine q_ci (wr := [(t0, .inr (6, [.ref th, .ref ts, .ref tg, .ref td, .int 0, .ref tr, .int (-1), .int 0, .int 0, .int 0, .long 0, .int 0, .int 0])), (tv, .inl (g.2.1 1, 16, .inl f_3))]) (va_runV (As := []) (rest := []) ⟨hx, hb, hml, hown, htg⟩ (c_X0_left l hfl g td tv 1  H.size) ⟨(qB htg k331 k54 k635 ok_X0_left rfl rfl ⟨Nat.le_of_ble_eq_true rfl, Nat.le_of_ble_eq_true rfl⟩), htg _ k329, htg _ k330⟩ ⟨(q_pre [.ref td] hPc hDc hK hS hT hFc).1, va_recv hK hP (ci := 2) (q0 := 1) rfl rfl, (q_pre [.ref td] hPc hDc hK hS hT hFc).2⟩ rfl rfl hl.1 rfl (lv_room (Nat.le_of_ble_eq_true rfl)) dX5_hearDie_26 ⟨Nat.le_of_ble_eq_true rfl, Nat.le_of_ble_eq_true rfl⟩) hP hD hS hFc [1] [0, 2] rfl rfl (by decide) (by decide) (fun r9 u9 H locs hw hP hD hS => ?_)
      try dsimp only at hw
      rcases hw with ⟨rfl, rfl⟩
      have hP : va_P g.1 CLS [(t0, .inr (6, [.ref th, .ref ts, .ref tg, .ref td, .int 0, .ref tr, .int (-1), .int 0, .int 0, .int 0, .long 0, .int 0, .int 0])), (tv, .inl (g.2.1 1, 16, .inl f_3)), (td, .inr (2, [.ref tv, .int 1, .int 0]))] H := hP
      have hD : va_D A [(t0, .inr (6, [.ref th, .ref ts, .ref tg, .ref td, .int 0, .ref tr, .int (-1), .int 0, .int 0, .int 0, .long 0, .int 0, .int 0])), (tv, .inl (g.2.1 1, 16, .inl f_3)), (td, .inr (2, [.ref tv, .int 1, .int 0]))] := hD
      refine W.widen (k := 0) (n := 0) (Nat.le_of_ble_eq_true rfl) (Nat.le_of_ble_eq_true rfl) ?_
      have hP9 := hP.sub (ws' := [(t0, .inr (6, [.ref th, .ref ts, .ref tg, .ref td, .int 0, .ref tr, .int (-1), .int 0, .int 0, .int 0, .long 0, .int 0, .int 0])), (td, .inr (2, [.ref tv, .int 1, .int 0]))]) [0, 2] rfl
      have hD9 := hD.sub (ws' := [(t0, .inr (6, [.ref th, .ref ts, .ref tg, .ref td, .int 0, .ref tr, .int (-1), .int 0, .int 0, .int 0, .long 0, .int 0, .int 0])), (td, .inr (2, [.ref tv, .int 1, .int 0]))]) [0, 2] (by decide) rfl
      refine W.widen (k := 0) (n := 0) (Nat.le_of_ble_eq_true rfl) (Nat.le_of_ble_eq_true rfl) ?_
      exact W.iret (v := 1) hx hb hr (fun t ht hW => ⟨⟨1, [(t0, .inr (6, [.ref th, .ref ts, .ref tg, .ref td, .int 0, .ref tr, .int (-1), .int 0, .int 0, .int 0, .long 0, .int 0, .int 0])), (td, .inr (2, [.ref tv, .int 1, .int 0]))], rfl, Or.inl ⟨by simp only [okDie]; simp only [fa_lt, fa_le, fa_eq, li0, li1, li5, li7, li8, li9, li20, li30, li40, li50, li97, li99, li103, li109, li115, li120, li255, lin1, lin20] at c_1 c_2 ⊢; omega, rfl, rfl⟩, by rw [ht]; exact hP9, va_K.moved hW.alike hK, hD9⟩, hS.F ht⟩) hS.2.2 dX5_hearDie_29
    · refine lv_ldc (own := "HeroTable$Table") (index := 83) (v := (-1000002)) hx hb hown (htg _ k396) dX5_hearDie_11 ?_
      have hP9 := hP.sub (ws' := [(t0, .inr (6, [.ref th, .ref ts, .ref tg, .ref td, .int 0, .ref tr, .int (-1), .int 0, .int 0, .int 0, .long 0, .int 0, .int 0]))]) [0] rfl
      have hD9 := hD.sub (ws' := [(t0, .inr (6, [.ref th, .ref ts, .ref tg, .ref td, .int 0, .ref tr, .int (-1), .int 0, .int 0, .int 0, .long 0, .int 0, .int 0]))]) [0] (by decide) rfl
      refine W.widen (k := 0) (n := 0) (Nat.le_of_ble_eq_true rfl) (Nat.le_of_ble_eq_true rfl) ?_
      exact W.iret (v := (-1000002)) hx hb hr (fun t ht hW => ⟨⟨(-1000002), [(t0, .inr (6, [.ref th, .ref ts, .ref tg, .ref td, .int 0, .ref tr, .int (-1), .int 0, .int 0, .int 0, .long 0, .int 0, .int 0]))], rfl, Or.inr (⟨by simp only [okDie]; simp only [fa_lt, fa_le, fa_eq, li0, li1, li5, li7, li8, li9, li20, li30, li40, li50, li97, li99, li103, li109, li115, li120, li255, lin1, lin20] at c_1 c_2 ⊢; omega, rfl, rfl⟩), by rw [ht]; exact hP9, va_K.moved hW.alike hK, hD9⟩, hS.F ht⟩) hS.2.2 dX5_hearDie_13

set_option maxHeartbeats 4000000 in
set_option maxRecDepth 100000 in
theorem c_X5_startFight (l : Launch) (hfl : l.stackTraces = false) (g : GP) (t0 : Nat) (th : Nat) (ts : Nat) (tg : Nat) (td : Nat) (tr : Nat)  : CI l yX5_startFight (wG yX5_startFight cX5_startFight 2 (Option.some Jvm.ClassFile.FieldType.int)) (LV 3 0 0) g [.ref t0] ([(t0, .inr (6, [.ref th, .ref ts, .ref tg, .ref td, .int 0, .ref tr, .int (-1), .int 0, .int 0, .int 0, .long 0, .int 0, .int 0]))]) (fun (r : Int32) (u : va_W) => r = (-1000005) ∧ u = [(t0, .inr (6, [.ref th, .ref ts, .ref tg, .ref td, .int 0, .ref tr, .int (-1), .int 0, .int 0, .int 0, .long 0, .int 0, .int 0]))]) := by
  intro sz
  refine Met.ofW (cc := cX5_startFight) (maxL := 2) (ret := (Option.some Jvm.ClassFile.FieldType.int)) (by decide) rfl ?_
  intro p e s m args below meth c s₁ B hml hv
  obtain ⟨rfl, hsz, hP, hK, hD0, hT0⟩ := hv
  have hx := B.exec
  have hb := B.bytes
  have hr := B.returns
  have hts := atoms_spec (ws := (wG yX5_startFight cX5_startFight 2 (Option.some Jvm.ClassFile.FieldType.int))) B.pre
  have htg : ∀ w ∈ G9, w.before _ s = true := fun w h => hts w (List.mem_cons_of_mem _ h)
  have hown : s.vm.findClass "HeroTable$Table" = some m.cls := findClass_of_methodNamed B.named
  have hlocks := B.notSynchronized
  subst hsz
  have hD := hD0.self (sz := s.heap.size)
  have hT := hT0
  clear hT0
  generalize hAe : va_A [(t0, .inr (6, [.ref th, .ref ts, .ref tg, .ref td, .int 0, .ref tr, .int (-1), .int 0, .int 0, .int 0, .long 0, .int 0, .int 0]))] s.heap.size = A at hD hT ⊢
  have hA : ∀ q : Nat, s.heap.size ≤ q → A q := fun q h => by rw [← hAe]; exact Or.inr h
  obtain ⟨H, hH0⟩ : ∃ H, H = s.heap := ⟨_, rfl⟩
  have hS : va_S A s.heap H [] := by rw [hH0]; exact va_S.rf
  have hP : va_P g.1 CLS [(t0, .inr (6, [.ref th, .ref ts, .ref tg, .ref td, .int 0, .ref tr, .int (-1), .int 0, .int 0, .int 0, .long 0, .int 0, .int 0]))] H := by rw [hH0]; exact hP
  rw [← hH0]
  have hl := lv_entry ([.ref t0]) (n := 2) (Nat.le_of_ble_eq_true rfl)
  rw [lg_entry_eq]
  generalize (lg_sl ([.ref t0]) ++ List.replicate (2 - (lg_sl ([.ref t0])).length) Slot.unset).toArray = ls at hl ⊢
  have hl : lv_has ls 2 [(0, .ref t0)] := hl
  refine lv_aload_n hx hb dX5_startFight_0 rfl (lv_at hl 0 rfl) ?_
  refine va_get (D := g.1) (ci := 6) (v := .int 0) (C := RX5) (T := TX5) (N := 13) hx hb htg inG_X5 hown hK hP 0 rfl rfl 4 (by decide) (htg _ k254) (fun _ h9 => h9) rfl dX5_startFight_1 ?_
  refine lv_if_ne (tgt := 10) hx hb dX5_startFight_4 (by decide) (fun c_1 => absurd (by decide) c_1) (fun c_1 => ?_)
  refine lv_ldc (own := "HeroTable$Table") (index := 203) (v := (-1000005)) hx hb hown (htg _ k640) dX5_startFight_7 ?_
  have hP9 := hP.sub (ws' := [(t0, .inr (6, [.ref th, .ref ts, .ref tg, .ref td, .int 0, .ref tr, .int (-1), .int 0, .int 0, .int 0, .long 0, .int 0, .int 0]))]) [0] rfl
  have hD9 := hD.sub (ws' := [(t0, .inr (6, [.ref th, .ref ts, .ref tg, .ref td, .int 0, .ref tr, .int (-1), .int 0, .int 0, .int 0, .long 0, .int 0, .int 0]))]) [0] (by decide) rfl
  refine W.widen (k := 0) (n := 0) (Nat.le_of_ble_eq_true rfl) (Nat.le_of_ble_eq_true rfl) ?_
  exact W.iret (v := (-1000005)) hx hb hr (fun t ht hW => ⟨⟨(-1000005), [(t0, .inr (6, [.ref th, .ref ts, .ref tg, .ref td, .int 0, .ref tr, .int (-1), .int 0, .int 0, .int 0, .long 0, .int 0, .int 0]))], rfl, ⟨rfl, rfl⟩, by rw [ht]; exact hP9, va_K.moved hW.alike hK, hD9⟩, hS.F ht⟩) hS.2.2 dX5_startFight_9

set_option maxHeartbeats 4000000 in
set_option maxRecDepth 100000 in
theorem c_X5_passTurn (l : Launch) (hfl : l.stackTraces = false) (g : GP) (t0 : Nat) (th : Nat) (ts : Nat) (tg : Nat) (td : Nat) (tr : Nat)  : CI l yX5_passTurn (wG yX5_passTurn cX5_passTurn 4 (Option.some Jvm.ClassFile.FieldType.int)) (LV 3 0 0) g [.ref t0] ([(t0, .inr (6, [.ref th, .ref ts, .ref tg, .ref td, .int 0, .ref tr, .int (-1), .int 0, .int 0, .int 0, .long 0, .int 0, .int 0]))]) (fun (r : Int32) (u : va_W) => r = (-1000003) ∧ u = [(t0, .inr (6, [.ref th, .ref ts, .ref tg, .ref td, .int 0, .ref tr, .int (-1), .int 0, .int 0, .int 0, .long 0, .int 0, .int 0]))]) := by
  intro sz
  refine Met.ofW (cc := cX5_passTurn) (maxL := 4) (ret := (Option.some Jvm.ClassFile.FieldType.int)) (by decide) rfl ?_
  intro p e s m args below meth c s₁ B hml hv
  obtain ⟨rfl, hsz, hP, hK, hD0, hT0⟩ := hv
  have hx := B.exec
  have hb := B.bytes
  have hr := B.returns
  have hts := atoms_spec (ws := (wG yX5_passTurn cX5_passTurn 4 (Option.some Jvm.ClassFile.FieldType.int))) B.pre
  have htg : ∀ w ∈ G9, w.before _ s = true := fun w h => hts w (List.mem_cons_of_mem _ h)
  have hown : s.vm.findClass "HeroTable$Table" = some m.cls := findClass_of_methodNamed B.named
  have hlocks := B.notSynchronized
  subst hsz
  have hD := hD0.self (sz := s.heap.size)
  have hT := hT0
  clear hT0
  generalize hAe : va_A [(t0, .inr (6, [.ref th, .ref ts, .ref tg, .ref td, .int 0, .ref tr, .int (-1), .int 0, .int 0, .int 0, .long 0, .int 0, .int 0]))] s.heap.size = A at hD hT ⊢
  have hA : ∀ q : Nat, s.heap.size ≤ q → A q := fun q h => by rw [← hAe]; exact Or.inr h
  obtain ⟨H, hH0⟩ : ∃ H, H = s.heap := ⟨_, rfl⟩
  have hS : va_S A s.heap H [] := by rw [hH0]; exact va_S.rf
  have hP : va_P g.1 CLS [(t0, .inr (6, [.ref th, .ref ts, .ref tg, .ref td, .int 0, .ref tr, .int (-1), .int 0, .int 0, .int 0, .long 0, .int 0, .int 0]))] H := by rw [hH0]; exact hP
  rw [← hH0]
  have hl := lv_entry ([.ref t0]) (n := 4) (Nat.le_of_ble_eq_true rfl)
  rw [lg_entry_eq]
  generalize (lg_sl ([.ref t0]) ++ List.replicate (4 - (lg_sl ([.ref t0])).length) Slot.unset).toArray = ls at hl ⊢
  have hl : lv_has ls 4 [(0, .ref t0)] := hl
  refine lv_aload_n hx hb dX5_passTurn_0 rfl (lv_at hl 0 rfl) ?_
  have hPc := hP.sub (ws' := [(t0, .inr (6, [.ref th, .ref ts, .ref tg, .ref td, .int 0, .ref tr, .int (-1), .int 0, .int 0, .int 0, .long 0, .int 0, .int 0]))]) [0] rfl
  have hDc := hD.sub (ws' := [(t0, .inr (6, [.ref th, .ref ts, .ref tg, .ref td, .int 0, .ref tr, .int (-1), .int 0, .int 0, .int 0, .long 0, .int 0, .int 0]))]) [0] (by decide) rfl
  have hFc := va_free (wc := [(t0, .inr (6, [.ref th, .ref ts, .ref tg, .ref td, .int 0, .ref tr, .int (-1), .int 0, .int 0, .int 0, .long 0, .int 0, .int 0]))]) hD hS hA [0] rfl
  refine q_ci (wr := []) (va_runV (As := []) (rest := []) ⟨hx, hb, hml, hown, htg⟩ (c_X5_isTurnOn l hfl g t0 th ts tg td tr  H.size) ⟨(qB htg k400 k51 k397 ok_X5_isTurnOn rfl rfl ⟨Nat.le_of_ble_eq_true rfl, Nat.le_of_ble_eq_true rfl⟩), htg _ k398, htg _ k399⟩ ⟨(q_pre [.ref t0] hPc hDc hK hS hT hFc).1, va_recv hK hP (ci := 6) (q0 := 0) rfl rfl, (q_pre [.ref t0] hPc hDc hK hS hT hFc).2⟩ rfl rfl hl.1 rfl (lv_room (Nat.le_of_ble_eq_true rfl)) dX5_passTurn_1 ⟨Nat.le_of_ble_eq_true rfl, Nat.le_of_ble_eq_true rfl⟩) hP hD hS hFc [0] [] rfl rfl (by decide) (by decide) (fun r9 u9 H locs hw hP hD hS => ?_)
  try dsimp only at hw
  rcases hw with ⟨rfl, rfl⟩
  have hP : va_P g.1 CLS [(t0, .inr (6, [.ref th, .ref ts, .ref tg, .ref td, .int 0, .ref tr, .int (-1), .int 0, .int 0, .int 0, .long 0, .int 0, .int 0]))] H := hP
  have hD : va_D A [(t0, .inr (6, [.ref th, .ref ts, .ref tg, .ref td, .int 0, .ref tr, .int (-1), .int 0, .int 0, .int 0, .long 0, .int 0, .int 0]))] := hD
  refine W.widen (k := 0) (n := 0) (Nat.le_of_ble_eq_true rfl) (Nat.le_of_ble_eq_true rfl) ?_
  refine lv_if_ne (tgt := 10) hx hb dX5_passTurn_4 (by decide) (fun c_1 => absurd (by decide) c_1) (fun c_1 => ?_)
  refine lv_ldc (own := "HeroTable$Table") (index := 88) (v := (-1000003)) hx hb hown (htg _ k401) dX5_passTurn_7 ?_
  have hP9 := hP.sub (ws' := [(t0, .inr (6, [.ref th, .ref ts, .ref tg, .ref td, .int 0, .ref tr, .int (-1), .int 0, .int 0, .int 0, .long 0, .int 0, .int 0]))]) [0] rfl
  have hD9 := hD.sub (ws' := [(t0, .inr (6, [.ref th, .ref ts, .ref tg, .ref td, .int 0, .ref tr, .int (-1), .int 0, .int 0, .int 0, .long 0, .int 0, .int 0]))]) [0] (by decide) rfl
  refine W.widen (k := 0) (n := 0) (Nat.le_of_ble_eq_true rfl) (Nat.le_of_ble_eq_true rfl) ?_
  exact W.iret (v := (-1000003)) hx hb hr (fun t ht hW => ⟨⟨(-1000003), [(t0, .inr (6, [.ref th, .ref ts, .ref tg, .ref td, .int 0, .ref tr, .int (-1), .int 0, .int 0, .int 0, .long 0, .int 0, .int 0]))], rfl, ⟨rfl, rfl⟩, by rw [ht]; exact hP9, va_K.moved hW.alike hK, hD9⟩, hS.F ht⟩) hS.2.2 dX5_passTurn_9

set_option maxHeartbeats 4000000 in
set_option maxRecDepth 100000 in
theorem c_X5_stopFight (l : Launch) (hfl : l.stackTraces = false) (g : GP) (t0 : Nat) (th : Nat) (ts : Nat) (tg : Nat) (td : Nat) (tr : Nat)  : CI l yX5_stopFight (wG yX5_stopFight cX5_stopFight 2 (Option.some Jvm.ClassFile.FieldType.int)) (LV 3 0 0) g [.ref t0] ([(t0, .inr (6, [.ref th, .ref ts, .ref tg, .ref td, .int 0, .ref tr, .int (-1), .int 0, .int 0, .int 0, .long 0, .int 0, .int 0]))]) (fun (r : Int32) (u : va_W) => r = (-1000003) ∧ u = [(t0, .inr (6, [.ref th, .ref ts, .ref tg, .ref td, .int 0, .ref tr, .int (-1), .int 0, .int 0, .int 0, .long 0, .int 0, .int 0]))]) := by
  intro sz
  refine Met.ofW (cc := cX5_stopFight) (maxL := 2) (ret := (Option.some Jvm.ClassFile.FieldType.int)) (by decide) rfl ?_
  intro p e s m args below meth c s₁ B hml hv
  obtain ⟨rfl, hsz, hP, hK, hD0, hT0⟩ := hv
  have hx := B.exec
  have hb := B.bytes
  have hr := B.returns
  have hts := atoms_spec (ws := (wG yX5_stopFight cX5_stopFight 2 (Option.some Jvm.ClassFile.FieldType.int))) B.pre
  have htg : ∀ w ∈ G9, w.before _ s = true := fun w h => hts w (List.mem_cons_of_mem _ h)
  have hown : s.vm.findClass "HeroTable$Table" = some m.cls := findClass_of_methodNamed B.named
  have hlocks := B.notSynchronized
  subst hsz
  have hD := hD0.self (sz := s.heap.size)
  have hT := hT0
  clear hT0
  generalize hAe : va_A [(t0, .inr (6, [.ref th, .ref ts, .ref tg, .ref td, .int 0, .ref tr, .int (-1), .int 0, .int 0, .int 0, .long 0, .int 0, .int 0]))] s.heap.size = A at hD hT ⊢
  have hA : ∀ q : Nat, s.heap.size ≤ q → A q := fun q h => by rw [← hAe]; exact Or.inr h
  obtain ⟨H, hH0⟩ : ∃ H, H = s.heap := ⟨_, rfl⟩
  have hS : va_S A s.heap H [] := by rw [hH0]; exact va_S.rf
  have hP : va_P g.1 CLS [(t0, .inr (6, [.ref th, .ref ts, .ref tg, .ref td, .int 0, .ref tr, .int (-1), .int 0, .int 0, .int 0, .long 0, .int 0, .int 0]))] H := by rw [hH0]; exact hP
  rw [← hH0]
  have hl := lv_entry ([.ref t0]) (n := 2) (Nat.le_of_ble_eq_true rfl)
  rw [lg_entry_eq]
  generalize (lg_sl ([.ref t0]) ++ List.replicate (2 - (lg_sl ([.ref t0])).length) Slot.unset).toArray = ls at hl ⊢
  have hl : lv_has ls 2 [(0, .ref t0)] := hl
  refine lv_aload_n hx hb dX5_stopFight_0 rfl (lv_at hl 0 rfl) ?_
  have hPc := hP.sub (ws' := [(t0, .inr (6, [.ref th, .ref ts, .ref tg, .ref td, .int 0, .ref tr, .int (-1), .int 0, .int 0, .int 0, .long 0, .int 0, .int 0]))]) [0] rfl
  have hDc := hD.sub (ws' := [(t0, .inr (6, [.ref th, .ref ts, .ref tg, .ref td, .int 0, .ref tr, .int (-1), .int 0, .int 0, .int 0, .long 0, .int 0, .int 0]))]) [0] (by decide) rfl
  have hFc := va_free (wc := [(t0, .inr (6, [.ref th, .ref ts, .ref tg, .ref td, .int 0, .ref tr, .int (-1), .int 0, .int 0, .int 0, .long 0, .int 0, .int 0]))]) hD hS hA [0] rfl
  refine q_ci (wr := []) (va_runV (As := []) (rest := []) ⟨hx, hb, hml, hown, htg⟩ (c_X5_isTurnOn l hfl g t0 th ts tg td tr  H.size) ⟨(qB htg k400 k51 k397 ok_X5_isTurnOn rfl rfl ⟨Nat.le_of_ble_eq_true rfl, Nat.le_of_ble_eq_true rfl⟩), htg _ k398, htg _ k399⟩ ⟨(q_pre [.ref t0] hPc hDc hK hS hT hFc).1, va_recv hK hP (ci := 6) (q0 := 0) rfl rfl, (q_pre [.ref t0] hPc hDc hK hS hT hFc).2⟩ rfl rfl hl.1 rfl (lv_room (Nat.le_of_ble_eq_true rfl)) dX5_stopFight_1 ⟨Nat.le_of_ble_eq_true rfl, Nat.le_of_ble_eq_true rfl⟩) hP hD hS hFc [0] [] rfl rfl (by decide) (by decide) (fun r9 u9 H locs hw hP hD hS => ?_)
  try dsimp only at hw
  rcases hw with ⟨rfl, rfl⟩
  have hP : va_P g.1 CLS [(t0, .inr (6, [.ref th, .ref ts, .ref tg, .ref td, .int 0, .ref tr, .int (-1), .int 0, .int 0, .int 0, .long 0, .int 0, .int 0]))] H := hP
  have hD : va_D A [(t0, .inr (6, [.ref th, .ref ts, .ref tg, .ref td, .int 0, .ref tr, .int (-1), .int 0, .int 0, .int 0, .long 0, .int 0, .int 0]))] := hD
  refine W.widen (k := 0) (n := 0) (Nat.le_of_ble_eq_true rfl) (Nat.le_of_ble_eq_true rfl) ?_
  refine lv_if_ne (tgt := 10) hx hb dX5_stopFight_4 (by decide) (fun c_1 => absurd (by decide) c_1) (fun c_1 => ?_)
  refine lv_ldc (own := "HeroTable$Table") (index := 88) (v := (-1000003)) hx hb hown (htg _ k401) dX5_stopFight_7 ?_
  have hP9 := hP.sub (ws' := [(t0, .inr (6, [.ref th, .ref ts, .ref tg, .ref td, .int 0, .ref tr, .int (-1), .int 0, .int 0, .int 0, .long 0, .int 0, .int 0]))]) [0] rfl
  have hD9 := hD.sub (ws' := [(t0, .inr (6, [.ref th, .ref ts, .ref tg, .ref td, .int 0, .ref tr, .int (-1), .int 0, .int 0, .int 0, .long 0, .int 0, .int 0]))]) [0] (by decide) rfl
  refine W.widen (k := 0) (n := 0) (Nat.le_of_ble_eq_true rfl) (Nat.le_of_ble_eq_true rfl) ?_
  exact W.iret (v := (-1000003)) hx hb hr (fun t ht hW => ⟨⟨(-1000003), [(t0, .inr (6, [.ref th, .ref ts, .ref tg, .ref td, .int 0, .ref tr, .int (-1), .int 0, .int 0, .int 0, .long 0, .int 0, .int 0]))], rfl, ⟨rfl, rfl⟩, by rw [ht]; exact hP9, va_K.moved hW.alike hK, hD9⟩, hS.F ht⟩) hS.2.2 dX5_stopFight_9

set_option maxHeartbeats 4000000 in
set_option maxRecDepth 100000 in
theorem c_X5_assail (l : Launch) (hfl : l.stackTraces = false) (g : GP) (t0 : Nat) (th : Nat) (ts : Nat) (tg : Nat) (td : Nat) (tr : Nat) (n1 : Int32)  : CI l yX5_assail (wG yX5_assail cX5_assail 3 (Option.some Jvm.ClassFile.FieldType.int)) (LV 3 0 0) g [.ref t0, .int n1] ([(t0, .inr (6, [.ref th, .ref ts, .ref tg, .ref td, .int 0, .ref tr, .int (-1), .int 0, .int 0, .int 0, .long 0, .int 0, .int 0]))]) (fun (r : Int32) (u : va_W) => r = (-1000001) ∧ u = [(t0, .inr (6, [.ref th, .ref ts, .ref tg, .ref td, .int 0, .ref tr, .int (-1), .int 0, .int 0, .int 0, .long 0, .int 0, .int 0]))]) := by
  intro sz
  refine Met.ofW (cc := cX5_assail) (maxL := 3) (ret := (Option.some Jvm.ClassFile.FieldType.int)) (by decide) rfl ?_
  intro p e s m args below meth c s₁ B hml hv
  obtain ⟨rfl, hsz, hP, hK, hD0, hT0⟩ := hv
  have hx := B.exec
  have hb := B.bytes
  have hr := B.returns
  have hts := atoms_spec (ws := (wG yX5_assail cX5_assail 3 (Option.some Jvm.ClassFile.FieldType.int))) B.pre
  have htg : ∀ w ∈ G9, w.before _ s = true := fun w h => hts w (List.mem_cons_of_mem _ h)
  have hown : s.vm.findClass "HeroTable$Table" = some m.cls := findClass_of_methodNamed B.named
  have hlocks := B.notSynchronized
  subst hsz
  have hD := hD0.self (sz := s.heap.size)
  have hT := hT0
  clear hT0
  generalize hAe : va_A [(t0, .inr (6, [.ref th, .ref ts, .ref tg, .ref td, .int 0, .ref tr, .int (-1), .int 0, .int 0, .int 0, .long 0, .int 0, .int 0]))] s.heap.size = A at hD hT ⊢
  have hA : ∀ q : Nat, s.heap.size ≤ q → A q := fun q h => by rw [← hAe]; exact Or.inr h
  obtain ⟨H, hH0⟩ : ∃ H, H = s.heap := ⟨_, rfl⟩
  have hS : va_S A s.heap H [] := by rw [hH0]; exact va_S.rf
  have hP : va_P g.1 CLS [(t0, .inr (6, [.ref th, .ref ts, .ref tg, .ref td, .int 0, .ref tr, .int (-1), .int 0, .int 0, .int 0, .long 0, .int 0, .int 0]))] H := by rw [hH0]; exact hP
  rw [← hH0]
  have hl := lv_entry ([.ref t0, .int n1]) (n := 3) (Nat.le_of_ble_eq_true rfl)
  rw [lg_entry_eq]
  generalize (lg_sl ([.ref t0, .int n1]) ++ List.replicate (3 - (lg_sl ([.ref t0, .int n1])).length) Slot.unset).toArray = ls at hl ⊢
  have hl : lv_has ls 3 [(0, .ref t0), (1, .int n1)] := hl
  refine lv_aload_n hx hb dX5_assail_0 rfl (lv_at hl 0 rfl) ?_
  refine lv_iload_n hx hb dX5_assail_1 rfl (lv_at hl 1 rfl) ?_
  have hPc := hP.sub (ws' := [(t0, .inr (6, [.ref th, .ref ts, .ref tg, .ref td, .int 0, .ref tr, .int (-1), .int 0, .int 0, .int 0, .long 0, .int 0, .int 0]))]) [0] rfl
  have hDc := hD.sub (ws' := [(t0, .inr (6, [.ref th, .ref ts, .ref tg, .ref td, .int 0, .ref tr, .int (-1), .int 0, .int 0, .int 0, .long 0, .int 0, .int 0]))]) [0] (by decide) rfl
  have hFc := va_free (wc := [(t0, .inr (6, [.ref th, .ref ts, .ref tg, .ref td, .int 0, .ref tr, .int (-1), .int 0, .int 0, .int 0, .long 0, .int 0, .int 0]))]) hD hS hA [0] rfl
  refine q_ci (wr := []) (va_runV (As := [.int n1]) (rest := []) ⟨hx, hb, hml, hown, htg⟩ (c_X5_isHero l hfl g t0 th ts tg td tr n1  H.size) ⟨(qB htg k522 k51 k519 ok_X5_isHero rfl rfl ⟨Nat.le_of_ble_eq_true rfl, Nat.le_of_ble_eq_true rfl⟩), htg _ k520, htg _ k521⟩ ⟨(q_pre [.ref t0, .int n1] hPc hDc hK hS hT hFc).1, va_recv hK hP (ci := 6) (q0 := 0) rfl rfl, (q_pre [.ref t0, .int n1] hPc hDc hK hS hT hFc).2⟩ rfl rfl hl.1 rfl (lv_room (Nat.le_of_ble_eq_true rfl)) dX5_assail_2 ⟨Nat.le_of_ble_eq_true rfl, Nat.le_of_ble_eq_true rfl⟩) hP hD hS hFc [0] [] rfl rfl (by decide) (by decide) (fun r9 u9 H locs hw hP hD hS => ?_)
  try dsimp only at hw
  rcases hw with ⟨rfl, rfl⟩
  have hP : va_P g.1 CLS [(t0, .inr (6, [.ref th, .ref ts, .ref tg, .ref td, .int 0, .ref tr, .int (-1), .int 0, .int 0, .int 0, .long 0, .int 0, .int 0]))] H := hP
  have hD : va_D A [(t0, .inr (6, [.ref th, .ref ts, .ref tg, .ref td, .int 0, .ref tr, .int (-1), .int 0, .int 0, .int 0, .long 0, .int 0, .int 0]))] := hD
  refine W.widen (k := 0) (n := 0) (Nat.le_of_ble_eq_true rfl) (Nat.le_of_ble_eq_true rfl) ?_
  refine lv_if_ne (tgt := 11) hx hb dX5_assail_5 (by decide) (fun c_1 => absurd (by decide) c_1) (fun c_1 => ?_)
  refine lv_ldc (own := "HeroTable$Table") (index := 124) (v := (-1000001)) hx hb hown (htg _ k523) dX5_assail_8 ?_
  have hP9 := hP.sub (ws' := [(t0, .inr (6, [.ref th, .ref ts, .ref tg, .ref td, .int 0, .ref tr, .int (-1), .int 0, .int 0, .int 0, .long 0, .int 0, .int 0]))]) [0] rfl
  have hD9 := hD.sub (ws' := [(t0, .inr (6, [.ref th, .ref ts, .ref tg, .ref td, .int 0, .ref tr, .int (-1), .int 0, .int 0, .int 0, .long 0, .int 0, .int 0]))]) [0] (by decide) rfl
  refine W.widen (k := 0) (n := 0) (Nat.le_of_ble_eq_true rfl) (Nat.le_of_ble_eq_true rfl) ?_
  exact W.iret (v := (-1000001)) hx hb hr (fun t ht hW => ⟨⟨(-1000001), [(t0, .inr (6, [.ref th, .ref ts, .ref tg, .ref td, .int 0, .ref tr, .int (-1), .int 0, .int 0, .int 0, .long 0, .int 0, .int 0]))], rfl, ⟨rfl, rfl⟩, by rw [ht]; exact hP9, va_K.moved hW.alike hK, hD9⟩, hS.F ht⟩) hS.2.2 dX5_assail_10

set_option maxHeartbeats 4000000 in
set_option maxRecDepth 100000 in
theorem c_X5_walk (l : Launch) (hfl : l.stackTraces = false) (g : GP) (t0 : Nat) (th : Nat) (ts : Nat) (tg : Nat) (td : Nat) (tr : Nat) (n1 : Int32) (n2 : Int32)  : CI l yX5_walk (wG yX5_walk cX5_walk 7 (Option.some Jvm.ClassFile.FieldType.int)) (LV 3 0 0) g [.ref t0, .int n1, .int n2] ([(t0, .inr (6, [.ref th, .ref ts, .ref tg, .ref td, .int 0, .ref tr, .int (-1), .int 0, .int 0, .int 0, .long 0, .int 0, .int 0]))]) (fun (r : Int32) (u : va_W) => ((okStep n1 n2) ∧ r = (-1000003) ∧ u = [(t0, .inr (6, [.ref th, .ref ts, .ref tg, .ref td, .int 0, .ref tr, .int (-1), .int 0, .int 0, .int 0, .long 0, .int 0, .int 0]))]) ∨ ((¬ okStep n1 n2) ∧ r = (-1000002) ∧ u = [(t0, .inr (6, [.ref th, .ref ts, .ref tg, .ref td, .int 0, .ref tr, .int (-1), .int 0, .int 0, .int 0, .long 0, .int 0, .int 0]))])) := by
  intro sz
  refine Met.ofW (cc := cX5_walk) (maxL := 7) (ret := (Option.some Jvm.ClassFile.FieldType.int)) (by decide) rfl ?_
  intro p e s m args below meth c s₁ B hml hv
  obtain ⟨rfl, hsz, hP, hK, hD0, hT0⟩ := hv
  have hx := B.exec
  have hb := B.bytes
  have hr := B.returns
  have hts := atoms_spec (ws := (wG yX5_walk cX5_walk 7 (Option.some Jvm.ClassFile.FieldType.int))) B.pre
  have htg : ∀ w ∈ G9, w.before _ s = true := fun w h => hts w (List.mem_cons_of_mem _ h)
  have hown : s.vm.findClass "HeroTable$Table" = some m.cls := findClass_of_methodNamed B.named
  have hlocks := B.notSynchronized
  subst hsz
  have hD := hD0.self (sz := s.heap.size)
  have hT := hT0
  clear hT0
  generalize hAe : va_A [(t0, .inr (6, [.ref th, .ref ts, .ref tg, .ref td, .int 0, .ref tr, .int (-1), .int 0, .int 0, .int 0, .long 0, .int 0, .int 0]))] s.heap.size = A at hD hT ⊢
  have hA : ∀ q : Nat, s.heap.size ≤ q → A q := fun q h => by rw [← hAe]; exact Or.inr h
  obtain ⟨H, hH0⟩ : ∃ H, H = s.heap := ⟨_, rfl⟩
  have hS : va_S A s.heap H [] := by rw [hH0]; exact va_S.rf
  have hP : va_P g.1 CLS [(t0, .inr (6, [.ref th, .ref ts, .ref tg, .ref td, .int 0, .ref tr, .int (-1), .int 0, .int 0, .int 0, .long 0, .int 0, .int 0]))] H := by rw [hH0]; exact hP
  rw [← hH0]
  have hl := lv_entry ([.ref t0, .int n1, .int n2]) (n := 7) (Nat.le_of_ble_eq_true rfl)
  rw [lg_entry_eq]
  generalize (lg_sl ([.ref t0, .int n1, .int n2]) ++ List.replicate (7 - (lg_sl ([.ref t0, .int n1, .int n2])).length) Slot.unset).toArray = ls at hl ⊢
  have hl : lv_has ls 7 [(0, .ref t0), (1, .int n1), (2, .int n2)] := hl
  refine lv_iload_n hx hb dX5_walk_0 rfl (lv_at hl 1 rfl) ?_
  refine lv_iconst (v := (-1)) hx hb dX5_walk_1 (by decide) ?_
  refine lv_icmp_lt (tgt := 28) hx hb dX5_walk_2 (by decide) (fun c_1 => ?_) (fun c_1 => ?_)
  · refine lv_ldc (own := "HeroTable$Table") (index := 83) (v := (-1000002)) hx hb hown (htg _ k396) dX5_walk_28 ?_
    have hP9 := hP.sub (ws' := [(t0, .inr (6, [.ref th, .ref ts, .ref tg, .ref td, .int 0, .ref tr, .int (-1), .int 0, .int 0, .int 0, .long 0, .int 0, .int 0]))]) [0] rfl
    have hD9 := hD.sub (ws' := [(t0, .inr (6, [.ref th, .ref ts, .ref tg, .ref td, .int 0, .ref tr, .int (-1), .int 0, .int 0, .int 0, .long 0, .int 0, .int 0]))]) [0] (by decide) rfl
    refine W.widen (k := 0) (n := 0) (Nat.le_of_ble_eq_true rfl) (Nat.le_of_ble_eq_true rfl) ?_
    exact W.iret (v := (-1000002)) hx hb hr (fun t ht hW => ⟨⟨(-1000002), [(t0, .inr (6, [.ref th, .ref ts, .ref tg, .ref td, .int 0, .ref tr, .int (-1), .int 0, .int 0, .int 0, .long 0, .int 0, .int 0]))], rfl, Or.inr (⟨by simp only [okStep]; simp only [fa_lt, fa_le, fa_eq, li0, li1, li5, li7, li8, li9, li20, li30, li40, li50, li97, li99, li103, li109, li115, li120, li255, lin1, lin20] at c_1 ⊢; omega, rfl, rfl⟩), by rw [ht]; exact hP9, va_K.moved hW.alike hK, hD9⟩, hS.F ht⟩) hS.2.2 dX5_walk_30
  · refine lv_iload_n hx hb dX5_walk_5 rfl (lv_at hl 1 rfl) ?_
    refine lv_iconst (v := 1) hx hb dX5_walk_6 (by decide) ?_
    refine lv_icmp_gt (tgt := 28) hx hb dX5_walk_7 (by decide) (fun c_2 => ?_) (fun c_2 => ?_)
    · refine lv_ldc (own := "HeroTable$Table") (index := 83) (v := (-1000002)) hx hb hown (htg _ k396) dX5_walk_28 ?_
      have hP9 := hP.sub (ws' := [(t0, .inr (6, [.ref th, .ref ts, .ref tg, .ref td, .int 0, .ref tr, .int (-1), .int 0, .int 0, .int 0, .long 0, .int 0, .int 0]))]) [0] rfl
      have hD9 := hD.sub (ws' := [(t0, .inr (6, [.ref th, .ref ts, .ref tg, .ref td, .int 0, .ref tr, .int (-1), .int 0, .int 0, .int 0, .long 0, .int 0, .int 0]))]) [0] (by decide) rfl
      refine W.widen (k := 0) (n := 0) (Nat.le_of_ble_eq_true rfl) (Nat.le_of_ble_eq_true rfl) ?_
      exact W.iret (v := (-1000002)) hx hb hr (fun t ht hW => ⟨⟨(-1000002), [(t0, .inr (6, [.ref th, .ref ts, .ref tg, .ref td, .int 0, .ref tr, .int (-1), .int 0, .int 0, .int 0, .long 0, .int 0, .int 0]))], rfl, Or.inr (⟨by simp only [okStep]; simp only [fa_lt, fa_le, fa_eq, li0, li1, li5, li7, li8, li9, li20, li30, li40, li50, li97, li99, li103, li109, li115, li120, li255, lin1, lin20] at c_1 c_2 ⊢; omega, rfl, rfl⟩), by rw [ht]; exact hP9, va_K.moved hW.alike hK, hD9⟩, hS.F ht⟩) hS.2.2 dX5_walk_30
    · refine lv_iload_n hx hb dX5_walk_10 rfl (lv_at hl 2 rfl) ?_
      refine lv_iconst (v := (-1)) hx hb dX5_walk_11 (by decide) ?_
      refine lv_icmp_lt (tgt := 28) hx hb dX5_walk_12 (by decide) (fun c_3 => ?_) (fun c_3 => ?_)
      · refine lv_ldc (own := "HeroTable$Table") (index := 83) (v := (-1000002)) hx hb hown (htg _ k396) dX5_walk_28 ?_
        have hP9 := hP.sub (ws' := [(t0, .inr (6, [.ref th, .ref ts, .ref tg, .ref td, .int 0, .ref tr, .int (-1), .int 0, .int 0, .int 0, .long 0, .int 0, .int 0]))]) [0] rfl
        have hD9 := hD.sub (ws' := [(t0, .inr (6, [.ref th, .ref ts, .ref tg, .ref td, .int 0, .ref tr, .int (-1), .int 0, .int 0, .int 0, .long 0, .int 0, .int 0]))]) [0] (by decide) rfl
        refine W.widen (k := 0) (n := 0) (Nat.le_of_ble_eq_true rfl) (Nat.le_of_ble_eq_true rfl) ?_
        exact W.iret (v := (-1000002)) hx hb hr (fun t ht hW => ⟨⟨(-1000002), [(t0, .inr (6, [.ref th, .ref ts, .ref tg, .ref td, .int 0, .ref tr, .int (-1), .int 0, .int 0, .int 0, .long 0, .int 0, .int 0]))], rfl, Or.inr (⟨by simp only [okStep]; simp only [fa_lt, fa_le, fa_eq, li0, li1, li5, li7, li8, li9, li20, li30, li40, li50, li97, li99, li103, li109, li115, li120, li255, lin1, lin20] at c_1 c_2 c_3 ⊢; omega, rfl, rfl⟩), by rw [ht]; exact hP9, va_K.moved hW.alike hK, hD9⟩, hS.F ht⟩) hS.2.2 dX5_walk_30
      · refine lv_iload_n hx hb dX5_walk_15 rfl (lv_at hl 2 rfl) ?_
        refine lv_iconst (v := 1) hx hb dX5_walk_16 (by decide) ?_
        refine lv_icmp_gt (tgt := 28) hx hb dX5_walk_17 (by decide) (fun c_4 => ?_) (fun c_4 => ?_)
        · refine lv_ldc (own := "HeroTable$Table") (index := 83) (v := (-1000002)) hx hb hown (htg _ k396) dX5_walk_28 ?_
          have hP9 := hP.sub (ws' := [(t0, .inr (6, [.ref th, .ref ts, .ref tg, .ref td, .int 0, .ref tr, .int (-1), .int 0, .int 0, .int 0, .long 0, .int 0, .int 0]))]) [0] rfl
          have hD9 := hD.sub (ws' := [(t0, .inr (6, [.ref th, .ref ts, .ref tg, .ref td, .int 0, .ref tr, .int (-1), .int 0, .int 0, .int 0, .long 0, .int 0, .int 0]))]) [0] (by decide) rfl
          refine W.widen (k := 0) (n := 0) (Nat.le_of_ble_eq_true rfl) (Nat.le_of_ble_eq_true rfl) ?_
          exact W.iret (v := (-1000002)) hx hb hr (fun t ht hW => ⟨⟨(-1000002), [(t0, .inr (6, [.ref th, .ref ts, .ref tg, .ref td, .int 0, .ref tr, .int (-1), .int 0, .int 0, .int 0, .long 0, .int 0, .int 0]))], rfl, Or.inr (⟨by simp only [okStep]; simp only [fa_lt, fa_le, fa_eq, li0, li1, li5, li7, li8, li9, li20, li30, li40, li50, li97, li99, li103, li109, li115, li120, li255, lin1, lin20] at c_1 c_2 c_3 c_4 ⊢; omega, rfl, rfl⟩), by rw [ht]; exact hP9, va_K.moved hW.alike hK, hD9⟩, hS.F ht⟩) hS.2.2 dX5_walk_30
        · refine lv_iload_n hx hb dX5_walk_20 rfl (lv_at hl 1 rfl) ?_
          refine lv_if_ne (tgt := 31) hx hb dX5_walk_21 (by decide) (fun c_5 => ?_) (fun c_5 => ?_)
          · refine lv_aload_n hx hb dX5_walk_31 rfl (lv_at hl 0 rfl) ?_
            have hPc := hP.sub (ws' := [(t0, .inr (6, [.ref th, .ref ts, .ref tg, .ref td, .int 0, .ref tr, .int (-1), .int 0, .int 0, .int 0, .long 0, .int 0, .int 0]))]) [0] rfl
            have hDc := hD.sub (ws' := [(t0, .inr (6, [.ref th, .ref ts, .ref tg, .ref td, .int 0, .ref tr, .int (-1), .int 0, .int 0, .int 0, .long 0, .int 0, .int 0]))]) [0] (by decide) rfl
            have hFc := va_free (wc := [(t0, .inr (6, [.ref th, .ref ts, .ref tg, .ref td, .int 0, .ref tr, .int (-1), .int 0, .int 0, .int 0, .long 0, .int 0, .int 0]))]) hD hS hA [0] rfl
            refine q_ci (wr := []) (va_runV (As := []) (rest := []) ⟨hx, hb, hml, hown, htg⟩ (c_X5_isTurnOn l hfl g t0 th ts tg td tr  H.size) ⟨(qB htg k400 k51 k397 ok_X5_isTurnOn rfl rfl ⟨Nat.le_of_ble_eq_true rfl, Nat.le_of_ble_eq_true rfl⟩), htg _ k398, htg _ k399⟩ ⟨(q_pre [.ref t0] hPc hDc hK hS hT hFc).1, va_recv hK hP (ci := 6) (q0 := 0) rfl rfl, (q_pre [.ref t0] hPc hDc hK hS hT hFc).2⟩ rfl rfl hl.1 rfl (lv_room (Nat.le_of_ble_eq_true rfl)) dX5_walk_32 ⟨Nat.le_of_ble_eq_true rfl, Nat.le_of_ble_eq_true rfl⟩) hP hD hS hFc [0] [] rfl rfl (by decide) (by decide) (fun r9 u9 H locs hw hP hD hS => ?_)
            try dsimp only at hw
            rcases hw with ⟨rfl, rfl⟩
            have hP : va_P g.1 CLS [(t0, .inr (6, [.ref th, .ref ts, .ref tg, .ref td, .int 0, .ref tr, .int (-1), .int 0, .int 0, .int 0, .long 0, .int 0, .int 0]))] H := hP
            have hD : va_D A [(t0, .inr (6, [.ref th, .ref ts, .ref tg, .ref td, .int 0, .ref tr, .int (-1), .int 0, .int 0, .int 0, .long 0, .int 0, .int 0]))] := hD
            refine W.widen (k := 0) (n := 0) (Nat.le_of_ble_eq_true rfl) (Nat.le_of_ble_eq_true rfl) ?_
            refine lv_if_ne (tgt := 41) hx hb dX5_walk_35 (by decide) (fun c_6 => absurd (by decide) c_6) (fun c_6 => ?_)
            refine lv_ldc (own := "HeroTable$Table") (index := 88) (v := (-1000003)) hx hb hown (htg _ k401) dX5_walk_38 ?_
            have hP9 := hP.sub (ws' := [(t0, .inr (6, [.ref th, .ref ts, .ref tg, .ref td, .int 0, .ref tr, .int (-1), .int 0, .int 0, .int 0, .long 0, .int 0, .int 0]))]) [0] rfl
            have hD9 := hD.sub (ws' := [(t0, .inr (6, [.ref th, .ref ts, .ref tg, .ref td, .int 0, .ref tr, .int (-1), .int 0, .int 0, .int 0, .long 0, .int 0, .int 0]))]) [0] (by decide) rfl
            refine W.widen (k := 0) (n := 0) (Nat.le_of_ble_eq_true rfl) (Nat.le_of_ble_eq_true rfl) ?_
            exact W.iret (v := (-1000003)) hx hb hr (fun t ht hW => ⟨⟨(-1000003), [(t0, .inr (6, [.ref th, .ref ts, .ref tg, .ref td, .int 0, .ref tr, .int (-1), .int 0, .int 0, .int 0, .long 0, .int 0, .int 0]))], rfl, Or.inl ⟨by simp only [okStep]; simp only [fa_lt, fa_le, fa_eq, li0, li1, li5, li7, li8, li9, li20, li30, li40, li50, li97, li99, li103, li109, li115, li120, li255, lin1, lin20] at c_1 c_2 c_3 c_4 c_5 ⊢; omega, rfl, rfl⟩, by rw [ht]; exact hP9, va_K.moved hW.alike hK, hD9⟩, hS.F ht⟩) hS.2.2 dX5_walk_40
          · refine lv_iload_n hx hb dX5_walk_24 rfl (lv_at hl 2 rfl) ?_
            refine lv_if_ne (tgt := 31) hx hb dX5_walk_25 (by decide) (fun c_7 => ?_) (fun c_7 => ?_)
            · refine lv_aload_n hx hb dX5_walk_31 rfl (lv_at hl 0 rfl) ?_
              have hPc := hP.sub (ws' := [(t0, .inr (6, [.ref th, .ref ts, .ref tg, .ref td, .int 0, .ref tr, .int (-1), .int 0, .int 0, .int 0, .long 0, .int 0, .int 0]))]) [0] rfl
              have hDc := hD.sub (ws' := [(t0, .inr (6, [.ref th, .ref ts, .ref tg, .ref td, .int 0, .ref tr, .int (-1), .int 0, .int 0, .int 0, .long 0, .int 0, .int 0]))]) [0] (by decide) rfl
              have hFc := va_free (wc := [(t0, .inr (6, [.ref th, .ref ts, .ref tg, .ref td, .int 0, .ref tr, .int (-1), .int 0, .int 0, .int 0, .long 0, .int 0, .int 0]))]) hD hS hA [0] rfl
              refine q_ci (wr := []) (va_runV (As := []) (rest := []) ⟨hx, hb, hml, hown, htg⟩ (c_X5_isTurnOn l hfl g t0 th ts tg td tr  H.size) ⟨(qB htg k400 k51 k397 ok_X5_isTurnOn rfl rfl ⟨Nat.le_of_ble_eq_true rfl, Nat.le_of_ble_eq_true rfl⟩), htg _ k398, htg _ k399⟩ ⟨(q_pre [.ref t0] hPc hDc hK hS hT hFc).1, va_recv hK hP (ci := 6) (q0 := 0) rfl rfl, (q_pre [.ref t0] hPc hDc hK hS hT hFc).2⟩ rfl rfl hl.1 rfl (lv_room (Nat.le_of_ble_eq_true rfl)) dX5_walk_32 ⟨Nat.le_of_ble_eq_true rfl, Nat.le_of_ble_eq_true rfl⟩) hP hD hS hFc [0] [] rfl rfl (by decide) (by decide) (fun r9 u9 H locs hw hP hD hS => ?_)
              try dsimp only at hw
              rcases hw with ⟨rfl, rfl⟩
              have hP : va_P g.1 CLS [(t0, .inr (6, [.ref th, .ref ts, .ref tg, .ref td, .int 0, .ref tr, .int (-1), .int 0, .int 0, .int 0, .long 0, .int 0, .int 0]))] H := hP
              have hD : va_D A [(t0, .inr (6, [.ref th, .ref ts, .ref tg, .ref td, .int 0, .ref tr, .int (-1), .int 0, .int 0, .int 0, .long 0, .int 0, .int 0]))] := hD
              refine W.widen (k := 0) (n := 0) (Nat.le_of_ble_eq_true rfl) (Nat.le_of_ble_eq_true rfl) ?_
              refine lv_if_ne (tgt := 41) hx hb dX5_walk_35 (by decide) (fun c_8 => absurd (by decide) c_8) (fun c_8 => ?_)
              refine lv_ldc (own := "HeroTable$Table") (index := 88) (v := (-1000003)) hx hb hown (htg _ k401) dX5_walk_38 ?_
              have hP9 := hP.sub (ws' := [(t0, .inr (6, [.ref th, .ref ts, .ref tg, .ref td, .int 0, .ref tr, .int (-1), .int 0, .int 0, .int 0, .long 0, .int 0, .int 0]))]) [0] rfl
              have hD9 := hD.sub (ws' := [(t0, .inr (6, [.ref th, .ref ts, .ref tg, .ref td, .int 0, .ref tr, .int (-1), .int 0, .int 0, .int 0, .long 0, .int 0, .int 0]))]) [0] (by decide) rfl
              refine W.widen (k := 0) (n := 0) (Nat.le_of_ble_eq_true rfl) (Nat.le_of_ble_eq_true rfl) ?_
              exact W.iret (v := (-1000003)) hx hb hr (fun t ht hW => ⟨⟨(-1000003), [(t0, .inr (6, [.ref th, .ref ts, .ref tg, .ref td, .int 0, .ref tr, .int (-1), .int 0, .int 0, .int 0, .long 0, .int 0, .int 0]))], rfl, Or.inl ⟨by simp only [okStep]; simp only [fa_lt, fa_le, fa_eq, li0, li1, li5, li7, li8, li9, li20, li30, li40, li50, li97, li99, li103, li109, li115, li120, li255, lin1, lin20] at c_1 c_2 c_3 c_4 c_5 c_7 ⊢; omega, rfl, rfl⟩, by rw [ht]; exact hP9, va_K.moved hW.alike hK, hD9⟩, hS.F ht⟩) hS.2.2 dX5_walk_40
            · refine lv_ldc (own := "HeroTable$Table") (index := 83) (v := (-1000002)) hx hb hown (htg _ k396) dX5_walk_28 ?_
              have hP9 := hP.sub (ws' := [(t0, .inr (6, [.ref th, .ref ts, .ref tg, .ref td, .int 0, .ref tr, .int (-1), .int 0, .int 0, .int 0, .long 0, .int 0, .int 0]))]) [0] rfl
              have hD9 := hD.sub (ws' := [(t0, .inr (6, [.ref th, .ref ts, .ref tg, .ref td, .int 0, .ref tr, .int (-1), .int 0, .int 0, .int 0, .long 0, .int 0, .int 0]))]) [0] (by decide) rfl
              refine W.widen (k := 0) (n := 0) (Nat.le_of_ble_eq_true rfl) (Nat.le_of_ble_eq_true rfl) ?_
              exact W.iret (v := (-1000002)) hx hb hr (fun t ht hW => ⟨⟨(-1000002), [(t0, .inr (6, [.ref th, .ref ts, .ref tg, .ref td, .int 0, .ref tr, .int (-1), .int 0, .int 0, .int 0, .long 0, .int 0, .int 0]))], rfl, Or.inr (⟨by simp only [okStep]; simp only [fa_lt, fa_le, fa_eq, li0, li1, li5, li7, li8, li9, li20, li30, li40, li50, li97, li99, li103, li109, li115, li120, li255, lin1, lin20] at c_1 c_2 c_3 c_4 c_5 c_7 ⊢; omega, rfl, rfl⟩), by rw [ht]; exact hP9, va_K.moved hW.alike hK, hD9⟩, hS.F ht⟩) hS.2.2 dX5_walk_30

set_option maxHeartbeats 4000000 in
set_option maxRecDepth 100000 in
theorem c_X5_rise (l : Launch) (hfl : l.stackTraces = false) (g : GP) (t0 : Nat) (th : Nat) (ts : Nat) (tg : Nat) (td : Nat) (tr : Nat)  : CI l yX5_rise (wG yX5_rise cX5_rise 2 (Option.some Jvm.ClassFile.FieldType.int)) (LV 3 0 0) g [.ref t0] ([(t0, .inr (6, [.ref th, .ref ts, .ref tg, .ref td, .int 0, .ref tr, .int (-1), .int 0, .int 0, .int 0, .long 0, .int 0, .int 0]))]) (fun (r : Int32) (u : va_W) => r = (-1000003) ∧ u = [(t0, .inr (6, [.ref th, .ref ts, .ref tg, .ref td, .int 0, .ref tr, .int (-1), .int 0, .int 0, .int 0, .long 0, .int 0, .int 0]))]) := by
  intro sz
  refine Met.ofW (cc := cX5_rise) (maxL := 2) (ret := (Option.some Jvm.ClassFile.FieldType.int)) (by decide) rfl ?_
  intro p e s m args below meth c s₁ B hml hv
  obtain ⟨rfl, hsz, hP, hK, hD0, hT0⟩ := hv
  have hx := B.exec
  have hb := B.bytes
  have hr := B.returns
  have hts := atoms_spec (ws := (wG yX5_rise cX5_rise 2 (Option.some Jvm.ClassFile.FieldType.int))) B.pre
  have htg : ∀ w ∈ G9, w.before _ s = true := fun w h => hts w (List.mem_cons_of_mem _ h)
  have hown : s.vm.findClass "HeroTable$Table" = some m.cls := findClass_of_methodNamed B.named
  have hlocks := B.notSynchronized
  subst hsz
  have hD := hD0.self (sz := s.heap.size)
  have hT := hT0
  clear hT0
  generalize hAe : va_A [(t0, .inr (6, [.ref th, .ref ts, .ref tg, .ref td, .int 0, .ref tr, .int (-1), .int 0, .int 0, .int 0, .long 0, .int 0, .int 0]))] s.heap.size = A at hD hT ⊢
  have hA : ∀ q : Nat, s.heap.size ≤ q → A q := fun q h => by rw [← hAe]; exact Or.inr h
  obtain ⟨H, hH0⟩ : ∃ H, H = s.heap := ⟨_, rfl⟩
  have hS : va_S A s.heap H [] := by rw [hH0]; exact va_S.rf
  have hP : va_P g.1 CLS [(t0, .inr (6, [.ref th, .ref ts, .ref tg, .ref td, .int 0, .ref tr, .int (-1), .int 0, .int 0, .int 0, .long 0, .int 0, .int 0]))] H := by rw [hH0]; exact hP
  rw [← hH0]
  have hl := lv_entry ([.ref t0]) (n := 2) (Nat.le_of_ble_eq_true rfl)
  rw [lg_entry_eq]
  generalize (lg_sl ([.ref t0]) ++ List.replicate (2 - (lg_sl ([.ref t0])).length) Slot.unset).toArray = ls at hl ⊢
  have hl : lv_has ls 2 [(0, .ref t0)] := hl
  refine lv_aload_n hx hb dX5_rise_0 rfl (lv_at hl 0 rfl) ?_
  have hPc := hP.sub (ws' := [(t0, .inr (6, [.ref th, .ref ts, .ref tg, .ref td, .int 0, .ref tr, .int (-1), .int 0, .int 0, .int 0, .long 0, .int 0, .int 0]))]) [0] rfl
  have hDc := hD.sub (ws' := [(t0, .inr (6, [.ref th, .ref ts, .ref tg, .ref td, .int 0, .ref tr, .int (-1), .int 0, .int 0, .int 0, .long 0, .int 0, .int 0]))]) [0] (by decide) rfl
  have hFc := va_free (wc := [(t0, .inr (6, [.ref th, .ref ts, .ref tg, .ref td, .int 0, .ref tr, .int (-1), .int 0, .int 0, .int 0, .long 0, .int 0, .int 0]))]) hD hS hA [0] rfl
  refine q_ci (wr := []) (va_runV (As := []) (rest := []) ⟨hx, hb, hml, hown, htg⟩ (c_X5_isTurnOn l hfl g t0 th ts tg td tr  H.size) ⟨(qB htg k400 k51 k397 ok_X5_isTurnOn rfl rfl ⟨Nat.le_of_ble_eq_true rfl, Nat.le_of_ble_eq_true rfl⟩), htg _ k398, htg _ k399⟩ ⟨(q_pre [.ref t0] hPc hDc hK hS hT hFc).1, va_recv hK hP (ci := 6) (q0 := 0) rfl rfl, (q_pre [.ref t0] hPc hDc hK hS hT hFc).2⟩ rfl rfl hl.1 rfl (lv_room (Nat.le_of_ble_eq_true rfl)) dX5_rise_1 ⟨Nat.le_of_ble_eq_true rfl, Nat.le_of_ble_eq_true rfl⟩) hP hD hS hFc [0] [] rfl rfl (by decide) (by decide) (fun r9 u9 H locs hw hP hD hS => ?_)
  try dsimp only at hw
  rcases hw with ⟨rfl, rfl⟩
  have hP : va_P g.1 CLS [(t0, .inr (6, [.ref th, .ref ts, .ref tg, .ref td, .int 0, .ref tr, .int (-1), .int 0, .int 0, .int 0, .long 0, .int 0, .int 0]))] H := hP
  have hD : va_D A [(t0, .inr (6, [.ref th, .ref ts, .ref tg, .ref td, .int 0, .ref tr, .int (-1), .int 0, .int 0, .int 0, .long 0, .int 0, .int 0]))] := hD
  refine W.widen (k := 0) (n := 0) (Nat.le_of_ble_eq_true rfl) (Nat.le_of_ble_eq_true rfl) ?_
  refine lv_if_ne (tgt := 10) hx hb dX5_rise_4 (by decide) (fun c_1 => absurd (by decide) c_1) (fun c_1 => ?_)
  refine lv_ldc (own := "HeroTable$Table") (index := 88) (v := (-1000003)) hx hb hown (htg _ k401) dX5_rise_7 ?_
  have hP9 := hP.sub (ws' := [(t0, .inr (6, [.ref th, .ref ts, .ref tg, .ref td, .int 0, .ref tr, .int (-1), .int 0, .int 0, .int 0, .long 0, .int 0, .int 0]))]) [0] rfl
  have hD9 := hD.sub (ws' := [(t0, .inr (6, [.ref th, .ref ts, .ref tg, .ref td, .int 0, .ref tr, .int (-1), .int 0, .int 0, .int 0, .long 0, .int 0, .int 0]))]) [0] (by decide) rfl
  refine W.widen (k := 0) (n := 0) (Nat.le_of_ble_eq_true rfl) (Nat.le_of_ble_eq_true rfl) ?_
  exact W.iret (v := (-1000003)) hx hb hr (fun t ht hW => ⟨⟨(-1000003), [(t0, .inr (6, [.ref th, .ref ts, .ref tg, .ref td, .int 0, .ref tr, .int (-1), .int 0, .int 0, .int 0, .long 0, .int 0, .int 0]))], rfl, ⟨rfl, rfl⟩, by rw [ht]; exact hP9, va_K.moved hW.alike hK, hD9⟩, hS.F ht⟩) hS.2.2 dX5_rise_9

set_option maxHeartbeats 4000000 in
set_option maxRecDepth 100000 in
theorem c_X5_prepare (l : Launch) (hfl : l.stackTraces = false) (g : GP) (t0 : Nat) (th : Nat) (ts : Nat) (tg : Nat) (td : Nat) (tr : Nat) (n1 : Int32) (n2 : Int32)  : CI l yX5_prepare (wG yX5_prepare cX5_prepare 6 (Option.some Jvm.ClassFile.FieldType.int)) (LV 3 0 0) g [.ref t0, .int n1, .int n2] ([(t0, .inr (6, [.ref th, .ref ts, .ref tg, .ref td, .int 0, .ref tr, .int (-1), .int 0, .int 0, .int 0, .long 0, .int 0, .int 0]))]) (fun (r : Int32) (u : va_W) => ((okRdy n1 n2) ∧ r = (-1000003) ∧ u = [(t0, .inr (6, [.ref th, .ref ts, .ref tg, .ref td, .int 0, .ref tr, .int (-1), .int 0, .int 0, .int 0, .long 0, .int 0, .int 0]))]) ∨ ((¬ okRdy n1 n2) ∧ r = (-1000002) ∧ u = [(t0, .inr (6, [.ref th, .ref ts, .ref tg, .ref td, .int 0, .ref tr, .int (-1), .int 0, .int 0, .int 0, .long 0, .int 0, .int 0]))])) := by
  intro sz
  refine Met.ofW (cc := cX5_prepare) (maxL := 6) (ret := (Option.some Jvm.ClassFile.FieldType.int)) (by decide) rfl ?_
  intro p e s m args below meth c s₁ B hml hv
  obtain ⟨rfl, hsz, hP, hK, hD0, hT0⟩ := hv
  have hx := B.exec
  have hb := B.bytes
  have hr := B.returns
  have hts := atoms_spec (ws := (wG yX5_prepare cX5_prepare 6 (Option.some Jvm.ClassFile.FieldType.int))) B.pre
  have htg : ∀ w ∈ G9, w.before _ s = true := fun w h => hts w (List.mem_cons_of_mem _ h)
  have hown : s.vm.findClass "HeroTable$Table" = some m.cls := findClass_of_methodNamed B.named
  have hlocks := B.notSynchronized
  subst hsz
  have hD := hD0.self (sz := s.heap.size)
  have hT := hT0
  clear hT0
  generalize hAe : va_A [(t0, .inr (6, [.ref th, .ref ts, .ref tg, .ref td, .int 0, .ref tr, .int (-1), .int 0, .int 0, .int 0, .long 0, .int 0, .int 0]))] s.heap.size = A at hD hT ⊢
  have hA : ∀ q : Nat, s.heap.size ≤ q → A q := fun q h => by rw [← hAe]; exact Or.inr h
  obtain ⟨H, hH0⟩ : ∃ H, H = s.heap := ⟨_, rfl⟩
  have hS : va_S A s.heap H [] := by rw [hH0]; exact va_S.rf
  have hP : va_P g.1 CLS [(t0, .inr (6, [.ref th, .ref ts, .ref tg, .ref td, .int 0, .ref tr, .int (-1), .int 0, .int 0, .int 0, .long 0, .int 0, .int 0]))] H := by rw [hH0]; exact hP
  rw [← hH0]
  have hl := lv_entry ([.ref t0, .int n1, .int n2]) (n := 6) (Nat.le_of_ble_eq_true rfl)
  rw [lg_entry_eq]
  generalize (lg_sl ([.ref t0, .int n1, .int n2]) ++ List.replicate (6 - (lg_sl ([.ref t0, .int n1, .int n2])).length) Slot.unset).toArray = ls at hl ⊢
  have hl : lv_has ls 6 [(0, .ref t0), (1, .int n1), (2, .int n2)] := hl
  refine lv_iload_n hx hb dX5_prepare_0 rfl (lv_at hl 1 rfl) ?_
  refine lv_bipush (v := 97) hx hb dX5_prepare_1 (by decide) ?_
  refine lv_icmp_ne (tgt := 18) hx hb dX5_prepare_3 (by decide) (fun c_1 => ?_) (fun c_1 => ?_)
  · refine lv_iload_n hx hb dX5_prepare_18 rfl (lv_at hl 1 rfl) ?_
    refine lv_bipush (v := 109) hx hb dX5_prepare_19 (by decide) ?_
    refine lv_icmp_ne (tgt := 30) hx hb dX5_prepare_21 (by decide) (fun c_2 => ?_) (fun c_2 => ?_)
    · refine lv_iload_n hx hb dX5_prepare_30 rfl (lv_at hl 1 rfl) ?_
      refine lv_bipush (v := 99) hx hb dX5_prepare_31 (by decide) ?_
      refine lv_icmp_ne (tgt := 52) hx hb dX5_prepare_33 (by decide) (fun c_3 => ?_) (fun c_3 => ?_)
      · refine lv_iconst (v := 0) hx hb dX5_prepare_52 (by decide) ?_
        refine lv_istore_n (lv' := [(3, .int 0), (0, .ref t0), (1, .int n1), (2, .int n2)]) hx hb dX5_prepare_53 rfl hl (by decide) rfl (fun ls hl => ?_)
        refine lv_iload_n hx hb dX5_prepare_54 rfl (lv_at hl 0 rfl) ?_
        refine lv_if_ne (tgt := 61) hx hb dX5_prepare_55 (by decide) (fun c_4 => absurd (by decide) c_4) (fun c_4 => ?_)
        refine lv_ldc (own := "HeroTable$Table") (index := 83) (v := (-1000002)) hx hb hown (htg _ k396) dX5_prepare_58 ?_
        have hP9 := hP.sub (ws' := [(t0, .inr (6, [.ref th, .ref ts, .ref tg, .ref td, .int 0, .ref tr, .int (-1), .int 0, .int 0, .int 0, .long 0, .int 0, .int 0]))]) [0] rfl
        have hD9 := hD.sub (ws' := [(t0, .inr (6, [.ref th, .ref ts, .ref tg, .ref td, .int 0, .ref tr, .int (-1), .int 0, .int 0, .int 0, .long 0, .int 0, .int 0]))]) [0] (by decide) rfl
        refine W.widen (k := 0) (n := 0) (Nat.le_of_ble_eq_true rfl) (Nat.le_of_ble_eq_true rfl) ?_
        exact W.iret (v := (-1000002)) hx hb hr (fun t ht hW => ⟨⟨(-1000002), [(t0, .inr (6, [.ref th, .ref ts, .ref tg, .ref td, .int 0, .ref tr, .int (-1), .int 0, .int 0, .int 0, .long 0, .int 0, .int 0]))], rfl, Or.inr (⟨by simp only [okRdy]; simp only [fa_lt, fa_le, fa_eq, li0, li1, li5, li7, li8, li9, li20, li30, li40, li50, li97, li99, li103, li109, li115, li120, li255, lin1, lin20] at c_1 c_2 c_3 ⊢; omega, rfl, rfl⟩), by rw [ht]; exact hP9, va_K.moved hW.alike hK, hD9⟩, hS.F ht⟩) hS.2.2 dX5_prepare_60
      · refine lv_iload_n hx hb dX5_prepare_36 rfl (lv_at hl 2 rfl) ?_
        refine lv_bipush (v := 120) hx hb dX5_prepare_37 (by decide) ?_
        refine lv_icmp_eq (tgt := 48) hx hb dX5_prepare_39 (by decide) (fun c_5 => ?_) (fun c_5 => ?_)
        · refine lv_iconst (v := 1) hx hb dX5_prepare_48 (by decide) ?_
          refine lv_goto (tgt := 53) hx hb dX5_prepare_49 (by decide) ?_
          refine lv_istore_n (lv' := [(3, .int 1), (0, .ref t0), (1, .int n1), (2, .int n2)]) hx hb dX5_prepare_53 rfl hl (by decide) rfl (fun ls hl => ?_)
          refine lv_iload_n hx hb dX5_prepare_54 rfl (lv_at hl 0 rfl) ?_
          refine lv_if_ne (tgt := 61) hx hb dX5_prepare_55 (by decide) (fun c_6 => ?_) (fun c_6 => absurd c_6 (by decide))
          refine lv_aload_n hx hb dX5_prepare_61 rfl (lv_at hl 1 rfl) ?_
          have hPc := hP.sub (ws' := [(t0, .inr (6, [.ref th, .ref ts, .ref tg, .ref td, .int 0, .ref tr, .int (-1), .int 0, .int 0, .int 0, .long 0, .int 0, .int 0]))]) [0] rfl
          have hDc := hD.sub (ws' := [(t0, .inr (6, [.ref th, .ref ts, .ref tg, .ref td, .int 0, .ref tr, .int (-1), .int 0, .int 0, .int 0, .long 0, .int 0, .int 0]))]) [0] (by decide) rfl
          have hFc := va_free (wc := [(t0, .inr (6, [.ref th, .ref ts, .ref tg, .ref td, .int 0, .ref tr, .int (-1), .int 0, .int 0, .int 0, .long 0, .int 0, .int 0]))]) hD hS hA [0] rfl
          refine q_ci (wr := []) (va_runV (As := []) (rest := []) ⟨hx, hb, hml, hown, htg⟩ (c_X5_isTurnOn l hfl g t0 th ts tg td tr  H.size) ⟨(qB htg k400 k51 k397 ok_X5_isTurnOn rfl rfl ⟨Nat.le_of_ble_eq_true rfl, Nat.le_of_ble_eq_true rfl⟩), htg _ k398, htg _ k399⟩ ⟨(q_pre [.ref t0] hPc hDc hK hS hT hFc).1, va_recv hK hP (ci := 6) (q0 := 0) rfl rfl, (q_pre [.ref t0] hPc hDc hK hS hT hFc).2⟩ rfl rfl hl.1 rfl (lv_room (Nat.le_of_ble_eq_true rfl)) dX5_prepare_62 ⟨Nat.le_of_ble_eq_true rfl, Nat.le_of_ble_eq_true rfl⟩) hP hD hS hFc [0] [] rfl rfl (by decide) (by decide) (fun r9 u9 H locs hw hP hD hS => ?_)
          try dsimp only at hw
          rcases hw with ⟨rfl, rfl⟩
          have hP : va_P g.1 CLS [(t0, .inr (6, [.ref th, .ref ts, .ref tg, .ref td, .int 0, .ref tr, .int (-1), .int 0, .int 0, .int 0, .long 0, .int 0, .int 0]))] H := hP
          have hD : va_D A [(t0, .inr (6, [.ref th, .ref ts, .ref tg, .ref td, .int 0, .ref tr, .int (-1), .int 0, .int 0, .int 0, .long 0, .int 0, .int 0]))] := hD
          refine W.widen (k := 0) (n := 0) (Nat.le_of_ble_eq_true rfl) (Nat.le_of_ble_eq_true rfl) ?_
          refine lv_if_ne (tgt := 71) hx hb dX5_prepare_65 (by decide) (fun c_7 => absurd (by decide) c_7) (fun c_7 => ?_)
          refine lv_ldc (own := "HeroTable$Table") (index := 88) (v := (-1000003)) hx hb hown (htg _ k401) dX5_prepare_68 ?_
          have hP9 := hP.sub (ws' := [(t0, .inr (6, [.ref th, .ref ts, .ref tg, .ref td, .int 0, .ref tr, .int (-1), .int 0, .int 0, .int 0, .long 0, .int 0, .int 0]))]) [0] rfl
          have hD9 := hD.sub (ws' := [(t0, .inr (6, [.ref th, .ref ts, .ref tg, .ref td, .int 0, .ref tr, .int (-1), .int 0, .int 0, .int 0, .long 0, .int 0, .int 0]))]) [0] (by decide) rfl
          refine W.widen (k := 0) (n := 0) (Nat.le_of_ble_eq_true rfl) (Nat.le_of_ble_eq_true rfl) ?_
          exact W.iret (v := (-1000003)) hx hb hr (fun t ht hW => ⟨⟨(-1000003), [(t0, .inr (6, [.ref th, .ref ts, .ref tg, .ref td, .int 0, .ref tr, .int (-1), .int 0, .int 0, .int 0, .long 0, .int 0, .int 0]))], rfl, Or.inl ⟨by simp only [okRdy]; simp only [fa_lt, fa_le, fa_eq, li0, li1, li5, li7, li8, li9, li20, li30, li40, li50, li97, li99, li103, li109, li115, li120, li255, lin1, lin20] at c_1 c_2 c_3 c_5 ⊢; omega, rfl, rfl⟩, by rw [ht]; exact hP9, va_K.moved hW.alike hK, hD9⟩, hS.F ht⟩) hS.2.2 dX5_prepare_70
        · refine lv_iload_n hx hb dX5_prepare_42 rfl (lv_at hl 2 rfl) ?_
          refine lv_bipush (v := 115) hx hb dX5_prepare_43 (by decide) ?_
          refine lv_icmp_ne (tgt := 52) hx hb dX5_prepare_45 (by decide) (fun c_8 => ?_) (fun c_8 => ?_)
          · refine lv_iconst (v := 0) hx hb dX5_prepare_52 (by decide) ?_
            refine lv_istore_n (lv' := [(3, .int 0), (0, .ref t0), (1, .int n1), (2, .int n2)]) hx hb dX5_prepare_53 rfl hl (by decide) rfl (fun ls hl => ?_)
            refine lv_iload_n hx hb dX5_prepare_54 rfl (lv_at hl 0 rfl) ?_
            refine lv_if_ne (tgt := 61) hx hb dX5_prepare_55 (by decide) (fun c_9 => absurd (by decide) c_9) (fun c_9 => ?_)
            refine lv_ldc (own := "HeroTable$Table") (index := 83) (v := (-1000002)) hx hb hown (htg _ k396) dX5_prepare_58 ?_
            have hP9 := hP.sub (ws' := [(t0, .inr (6, [.ref th, .ref ts, .ref tg, .ref td, .int 0, .ref tr, .int (-1), .int 0, .int 0, .int 0, .long 0, .int 0, .int 0]))]) [0] rfl
            have hD9 := hD.sub (ws' := [(t0, .inr (6, [.ref th, .ref ts, .ref tg, .ref td, .int 0, .ref tr, .int (-1), .int 0, .int 0, .int 0, .long 0, .int 0, .int 0]))]) [0] (by decide) rfl
            refine W.widen (k := 0) (n := 0) (Nat.le_of_ble_eq_true rfl) (Nat.le_of_ble_eq_true rfl) ?_
            exact W.iret (v := (-1000002)) hx hb hr (fun t ht hW => ⟨⟨(-1000002), [(t0, .inr (6, [.ref th, .ref ts, .ref tg, .ref td, .int 0, .ref tr, .int (-1), .int 0, .int 0, .int 0, .long 0, .int 0, .int 0]))], rfl, Or.inr (⟨by simp only [okRdy]; simp only [fa_lt, fa_le, fa_eq, li0, li1, li5, li7, li8, li9, li20, li30, li40, li50, li97, li99, li103, li109, li115, li120, li255, lin1, lin20] at c_1 c_2 c_3 c_5 c_8 ⊢; omega, rfl, rfl⟩), by rw [ht]; exact hP9, va_K.moved hW.alike hK, hD9⟩, hS.F ht⟩) hS.2.2 dX5_prepare_60
          · refine lv_iconst (v := 1) hx hb dX5_prepare_48 (by decide) ?_
            refine lv_goto (tgt := 53) hx hb dX5_prepare_49 (by decide) ?_
            refine lv_istore_n (lv' := [(3, .int 1), (0, .ref t0), (1, .int n1), (2, .int n2)]) hx hb dX5_prepare_53 rfl hl (by decide) rfl (fun ls hl => ?_)
            refine lv_iload_n hx hb dX5_prepare_54 rfl (lv_at hl 0 rfl) ?_
            refine lv_if_ne (tgt := 61) hx hb dX5_prepare_55 (by decide) (fun c_10 => ?_) (fun c_10 => absurd c_10 (by decide))
            refine lv_aload_n hx hb dX5_prepare_61 rfl (lv_at hl 1 rfl) ?_
            have hPc := hP.sub (ws' := [(t0, .inr (6, [.ref th, .ref ts, .ref tg, .ref td, .int 0, .ref tr, .int (-1), .int 0, .int 0, .int 0, .long 0, .int 0, .int 0]))]) [0] rfl
            have hDc := hD.sub (ws' := [(t0, .inr (6, [.ref th, .ref ts, .ref tg, .ref td, .int 0, .ref tr, .int (-1), .int 0, .int 0, .int 0, .long 0, .int 0, .int 0]))]) [0] (by decide) rfl
            have hFc := va_free (wc := [(t0, .inr (6, [.ref th, .ref ts, .ref tg, .ref td, .int 0, .ref tr, .int (-1), .int 0, .int 0, .int 0, .long 0, .int 0, .int 0]))]) hD hS hA [0] rfl
            refine q_ci (wr := []) (va_runV (As := []) (rest := []) ⟨hx, hb, hml, hown, htg⟩ (c_X5_isTurnOn l hfl g t0 th ts tg td tr  H.size) ⟨(qB htg k400 k51 k397 ok_X5_isTurnOn rfl rfl ⟨Nat.le_of_ble_eq_true rfl, Nat.le_of_ble_eq_true rfl⟩), htg _ k398, htg _ k399⟩ ⟨(q_pre [.ref t0] hPc hDc hK hS hT hFc).1, va_recv hK hP (ci := 6) (q0 := 0) rfl rfl, (q_pre [.ref t0] hPc hDc hK hS hT hFc).2⟩ rfl rfl hl.1 rfl (lv_room (Nat.le_of_ble_eq_true rfl)) dX5_prepare_62 ⟨Nat.le_of_ble_eq_true rfl, Nat.le_of_ble_eq_true rfl⟩) hP hD hS hFc [0] [] rfl rfl (by decide) (by decide) (fun r9 u9 H locs hw hP hD hS => ?_)
            try dsimp only at hw
            rcases hw with ⟨rfl, rfl⟩
            have hP : va_P g.1 CLS [(t0, .inr (6, [.ref th, .ref ts, .ref tg, .ref td, .int 0, .ref tr, .int (-1), .int 0, .int 0, .int 0, .long 0, .int 0, .int 0]))] H := hP
            have hD : va_D A [(t0, .inr (6, [.ref th, .ref ts, .ref tg, .ref td, .int 0, .ref tr, .int (-1), .int 0, .int 0, .int 0, .long 0, .int 0, .int 0]))] := hD
            refine W.widen (k := 0) (n := 0) (Nat.le_of_ble_eq_true rfl) (Nat.le_of_ble_eq_true rfl) ?_
            refine lv_if_ne (tgt := 71) hx hb dX5_prepare_65 (by decide) (fun c_11 => absurd (by decide) c_11) (fun c_11 => ?_)
            refine lv_ldc (own := "HeroTable$Table") (index := 88) (v := (-1000003)) hx hb hown (htg _ k401) dX5_prepare_68 ?_
            have hP9 := hP.sub (ws' := [(t0, .inr (6, [.ref th, .ref ts, .ref tg, .ref td, .int 0, .ref tr, .int (-1), .int 0, .int 0, .int 0, .long 0, .int 0, .int 0]))]) [0] rfl
            have hD9 := hD.sub (ws' := [(t0, .inr (6, [.ref th, .ref ts, .ref tg, .ref td, .int 0, .ref tr, .int (-1), .int 0, .int 0, .int 0, .long 0, .int 0, .int 0]))]) [0] (by decide) rfl
            refine W.widen (k := 0) (n := 0) (Nat.le_of_ble_eq_true rfl) (Nat.le_of_ble_eq_true rfl) ?_
            exact W.iret (v := (-1000003)) hx hb hr (fun t ht hW => ⟨⟨(-1000003), [(t0, .inr (6, [.ref th, .ref ts, .ref tg, .ref td, .int 0, .ref tr, .int (-1), .int 0, .int 0, .int 0, .long 0, .int 0, .int 0]))], rfl, Or.inl ⟨by simp only [okRdy]; simp only [fa_lt, fa_le, fa_eq, li0, li1, li5, li7, li8, li9, li20, li30, li40, li50, li97, li99, li103, li109, li115, li120, li255, lin1, lin20] at c_1 c_2 c_3 c_5 c_8 ⊢; omega, rfl, rfl⟩, by rw [ht]; exact hP9, va_K.moved hW.alike hK, hD9⟩, hS.F ht⟩) hS.2.2 dX5_prepare_70
    · refine lv_iload_n hx hb dX5_prepare_24 rfl (lv_at hl 2 rfl) ?_
      refine lv_bipush (v := 115) hx hb dX5_prepare_25 (by decide) ?_
      refine lv_icmp_eq (tgt := 48) hx hb dX5_prepare_27 (by decide) (fun c_12 => ?_) (fun c_12 => ?_)
      · refine lv_iconst (v := 1) hx hb dX5_prepare_48 (by decide) ?_
        refine lv_goto (tgt := 53) hx hb dX5_prepare_49 (by decide) ?_
        refine lv_istore_n (lv' := [(3, .int 1), (0, .ref t0), (1, .int n1), (2, .int n2)]) hx hb dX5_prepare_53 rfl hl (by decide) rfl (fun ls hl => ?_)
        refine lv_iload_n hx hb dX5_prepare_54 rfl (lv_at hl 0 rfl) ?_
        refine lv_if_ne (tgt := 61) hx hb dX5_prepare_55 (by decide) (fun c_13 => ?_) (fun c_13 => absurd c_13 (by decide))
        refine lv_aload_n hx hb dX5_prepare_61 rfl (lv_at hl 1 rfl) ?_
        have hPc := hP.sub (ws' := [(t0, .inr (6, [.ref th, .ref ts, .ref tg, .ref td, .int 0, .ref tr, .int (-1), .int 0, .int 0, .int 0, .long 0, .int 0, .int 0]))]) [0] rfl
        have hDc := hD.sub (ws' := [(t0, .inr (6, [.ref th, .ref ts, .ref tg, .ref td, .int 0, .ref tr, .int (-1), .int 0, .int 0, .int 0, .long 0, .int 0, .int 0]))]) [0] (by decide) rfl
        have hFc := va_free (wc := [(t0, .inr (6, [.ref th, .ref ts, .ref tg, .ref td, .int 0, .ref tr, .int (-1), .int 0, .int 0, .int 0, .long 0, .int 0, .int 0]))]) hD hS hA [0] rfl
        refine q_ci (wr := []) (va_runV (As := []) (rest := []) ⟨hx, hb, hml, hown, htg⟩ (c_X5_isTurnOn l hfl g t0 th ts tg td tr  H.size) ⟨(qB htg k400 k51 k397 ok_X5_isTurnOn rfl rfl ⟨Nat.le_of_ble_eq_true rfl, Nat.le_of_ble_eq_true rfl⟩), htg _ k398, htg _ k399⟩ ⟨(q_pre [.ref t0] hPc hDc hK hS hT hFc).1, va_recv hK hP (ci := 6) (q0 := 0) rfl rfl, (q_pre [.ref t0] hPc hDc hK hS hT hFc).2⟩ rfl rfl hl.1 rfl (lv_room (Nat.le_of_ble_eq_true rfl)) dX5_prepare_62 ⟨Nat.le_of_ble_eq_true rfl, Nat.le_of_ble_eq_true rfl⟩) hP hD hS hFc [0] [] rfl rfl (by decide) (by decide) (fun r9 u9 H locs hw hP hD hS => ?_)
        try dsimp only at hw
        rcases hw with ⟨rfl, rfl⟩
        have hP : va_P g.1 CLS [(t0, .inr (6, [.ref th, .ref ts, .ref tg, .ref td, .int 0, .ref tr, .int (-1), .int 0, .int 0, .int 0, .long 0, .int 0, .int 0]))] H := hP
        have hD : va_D A [(t0, .inr (6, [.ref th, .ref ts, .ref tg, .ref td, .int 0, .ref tr, .int (-1), .int 0, .int 0, .int 0, .long 0, .int 0, .int 0]))] := hD
        refine W.widen (k := 0) (n := 0) (Nat.le_of_ble_eq_true rfl) (Nat.le_of_ble_eq_true rfl) ?_
        refine lv_if_ne (tgt := 71) hx hb dX5_prepare_65 (by decide) (fun c_14 => absurd (by decide) c_14) (fun c_14 => ?_)
        refine lv_ldc (own := "HeroTable$Table") (index := 88) (v := (-1000003)) hx hb hown (htg _ k401) dX5_prepare_68 ?_
        have hP9 := hP.sub (ws' := [(t0, .inr (6, [.ref th, .ref ts, .ref tg, .ref td, .int 0, .ref tr, .int (-1), .int 0, .int 0, .int 0, .long 0, .int 0, .int 0]))]) [0] rfl
        have hD9 := hD.sub (ws' := [(t0, .inr (6, [.ref th, .ref ts, .ref tg, .ref td, .int 0, .ref tr, .int (-1), .int 0, .int 0, .int 0, .long 0, .int 0, .int 0]))]) [0] (by decide) rfl
        refine W.widen (k := 0) (n := 0) (Nat.le_of_ble_eq_true rfl) (Nat.le_of_ble_eq_true rfl) ?_
        exact W.iret (v := (-1000003)) hx hb hr (fun t ht hW => ⟨⟨(-1000003), [(t0, .inr (6, [.ref th, .ref ts, .ref tg, .ref td, .int 0, .ref tr, .int (-1), .int 0, .int 0, .int 0, .long 0, .int 0, .int 0]))], rfl, Or.inl ⟨by simp only [okRdy]; simp only [fa_lt, fa_le, fa_eq, li0, li1, li5, li7, li8, li9, li20, li30, li40, li50, li97, li99, li103, li109, li115, li120, li255, lin1, lin20] at c_1 c_2 c_12 ⊢; omega, rfl, rfl⟩, by rw [ht]; exact hP9, va_K.moved hW.alike hK, hD9⟩, hS.F ht⟩) hS.2.2 dX5_prepare_70
      · refine lv_iload_n hx hb dX5_prepare_30 rfl (lv_at hl 1 rfl) ?_
        refine lv_bipush (v := 99) hx hb dX5_prepare_31 (by decide) ?_
        refine lv_icmp_ne (tgt := 52) hx hb dX5_prepare_33 (by decide) (fun c_15 => ?_) (fun c_15 => ?_)
        · refine lv_iconst (v := 0) hx hb dX5_prepare_52 (by decide) ?_
          refine lv_istore_n (lv' := [(3, .int 0), (0, .ref t0), (1, .int n1), (2, .int n2)]) hx hb dX5_prepare_53 rfl hl (by decide) rfl (fun ls hl => ?_)
          refine lv_iload_n hx hb dX5_prepare_54 rfl (lv_at hl 0 rfl) ?_
          refine lv_if_ne (tgt := 61) hx hb dX5_prepare_55 (by decide) (fun c_16 => absurd (by decide) c_16) (fun c_16 => ?_)
          refine lv_ldc (own := "HeroTable$Table") (index := 83) (v := (-1000002)) hx hb hown (htg _ k396) dX5_prepare_58 ?_
          have hP9 := hP.sub (ws' := [(t0, .inr (6, [.ref th, .ref ts, .ref tg, .ref td, .int 0, .ref tr, .int (-1), .int 0, .int 0, .int 0, .long 0, .int 0, .int 0]))]) [0] rfl
          have hD9 := hD.sub (ws' := [(t0, .inr (6, [.ref th, .ref ts, .ref tg, .ref td, .int 0, .ref tr, .int (-1), .int 0, .int 0, .int 0, .long 0, .int 0, .int 0]))]) [0] (by decide) rfl
          refine W.widen (k := 0) (n := 0) (Nat.le_of_ble_eq_true rfl) (Nat.le_of_ble_eq_true rfl) ?_
          exact W.iret (v := (-1000002)) hx hb hr (fun t ht hW => ⟨⟨(-1000002), [(t0, .inr (6, [.ref th, .ref ts, .ref tg, .ref td, .int 0, .ref tr, .int (-1), .int 0, .int 0, .int 0, .long 0, .int 0, .int 0]))], rfl, Or.inr (⟨by simp only [okRdy]; simp only [fa_lt, fa_le, fa_eq, li0, li1, li5, li7, li8, li9, li20, li30, li40, li50, li97, li99, li103, li109, li115, li120, li255, lin1, lin20] at c_1 c_2 c_12 c_15 ⊢; omega, rfl, rfl⟩), by rw [ht]; exact hP9, va_K.moved hW.alike hK, hD9⟩, hS.F ht⟩) hS.2.2 dX5_prepare_60
        · refine lv_iload_n hx hb dX5_prepare_36 rfl (lv_at hl 2 rfl) ?_
          refine lv_bipush (v := 120) hx hb dX5_prepare_37 (by decide) ?_
          refine lv_icmp_eq (tgt := 48) hx hb dX5_prepare_39 (by decide) (fun c_17 => ?_) (fun c_17 => ?_)
          · refine lv_iconst (v := 1) hx hb dX5_prepare_48 (by decide) ?_
            refine lv_goto (tgt := 53) hx hb dX5_prepare_49 (by decide) ?_
            refine lv_istore_n (lv' := [(3, .int 1), (0, .ref t0), (1, .int n1), (2, .int n2)]) hx hb dX5_prepare_53 rfl hl (by decide) rfl (fun ls hl => ?_)
            refine lv_iload_n hx hb dX5_prepare_54 rfl (lv_at hl 0 rfl) ?_
            refine lv_if_ne (tgt := 61) hx hb dX5_prepare_55 (by decide) (fun c_18 => ?_) (fun c_18 => absurd c_18 (by decide))
            refine lv_aload_n hx hb dX5_prepare_61 rfl (lv_at hl 1 rfl) ?_
            have hPc := hP.sub (ws' := [(t0, .inr (6, [.ref th, .ref ts, .ref tg, .ref td, .int 0, .ref tr, .int (-1), .int 0, .int 0, .int 0, .long 0, .int 0, .int 0]))]) [0] rfl
            have hDc := hD.sub (ws' := [(t0, .inr (6, [.ref th, .ref ts, .ref tg, .ref td, .int 0, .ref tr, .int (-1), .int 0, .int 0, .int 0, .long 0, .int 0, .int 0]))]) [0] (by decide) rfl
            have hFc := va_free (wc := [(t0, .inr (6, [.ref th, .ref ts, .ref tg, .ref td, .int 0, .ref tr, .int (-1), .int 0, .int 0, .int 0, .long 0, .int 0, .int 0]))]) hD hS hA [0] rfl
            refine q_ci (wr := []) (va_runV (As := []) (rest := []) ⟨hx, hb, hml, hown, htg⟩ (c_X5_isTurnOn l hfl g t0 th ts tg td tr  H.size) ⟨(qB htg k400 k51 k397 ok_X5_isTurnOn rfl rfl ⟨Nat.le_of_ble_eq_true rfl, Nat.le_of_ble_eq_true rfl⟩), htg _ k398, htg _ k399⟩ ⟨(q_pre [.ref t0] hPc hDc hK hS hT hFc).1, va_recv hK hP (ci := 6) (q0 := 0) rfl rfl, (q_pre [.ref t0] hPc hDc hK hS hT hFc).2⟩ rfl rfl hl.1 rfl (lv_room (Nat.le_of_ble_eq_true rfl)) dX5_prepare_62 ⟨Nat.le_of_ble_eq_true rfl, Nat.le_of_ble_eq_true rfl⟩) hP hD hS hFc [0] [] rfl rfl (by decide) (by decide) (fun r9 u9 H locs hw hP hD hS => ?_)
            try dsimp only at hw
            rcases hw with ⟨rfl, rfl⟩
            have hP : va_P g.1 CLS [(t0, .inr (6, [.ref th, .ref ts, .ref tg, .ref td, .int 0, .ref tr, .int (-1), .int 0, .int 0, .int 0, .long 0, .int 0, .int 0]))] H := hP
            have hD : va_D A [(t0, .inr (6, [.ref th, .ref ts, .ref tg, .ref td, .int 0, .ref tr, .int (-1), .int 0, .int 0, .int 0, .long 0, .int 0, .int 0]))] := hD
            refine W.widen (k := 0) (n := 0) (Nat.le_of_ble_eq_true rfl) (Nat.le_of_ble_eq_true rfl) ?_
            refine lv_if_ne (tgt := 71) hx hb dX5_prepare_65 (by decide) (fun c_19 => absurd (by decide) c_19) (fun c_19 => ?_)
            refine lv_ldc (own := "HeroTable$Table") (index := 88) (v := (-1000003)) hx hb hown (htg _ k401) dX5_prepare_68 ?_
            have hP9 := hP.sub (ws' := [(t0, .inr (6, [.ref th, .ref ts, .ref tg, .ref td, .int 0, .ref tr, .int (-1), .int 0, .int 0, .int 0, .long 0, .int 0, .int 0]))]) [0] rfl
            have hD9 := hD.sub (ws' := [(t0, .inr (6, [.ref th, .ref ts, .ref tg, .ref td, .int 0, .ref tr, .int (-1), .int 0, .int 0, .int 0, .long 0, .int 0, .int 0]))]) [0] (by decide) rfl
            refine W.widen (k := 0) (n := 0) (Nat.le_of_ble_eq_true rfl) (Nat.le_of_ble_eq_true rfl) ?_
            exact W.iret (v := (-1000003)) hx hb hr (fun t ht hW => ⟨⟨(-1000003), [(t0, .inr (6, [.ref th, .ref ts, .ref tg, .ref td, .int 0, .ref tr, .int (-1), .int 0, .int 0, .int 0, .long 0, .int 0, .int 0]))], rfl, Or.inl ⟨by simp only [okRdy]; simp only [fa_lt, fa_le, fa_eq, li0, li1, li5, li7, li8, li9, li20, li30, li40, li50, li97, li99, li103, li109, li115, li120, li255, lin1, lin20] at c_1 c_2 c_12 c_15 c_17 ⊢; omega, rfl, rfl⟩, by rw [ht]; exact hP9, va_K.moved hW.alike hK, hD9⟩, hS.F ht⟩) hS.2.2 dX5_prepare_70
          · refine lv_iload_n hx hb dX5_prepare_42 rfl (lv_at hl 2 rfl) ?_
            refine lv_bipush (v := 115) hx hb dX5_prepare_43 (by decide) ?_
            refine lv_icmp_ne (tgt := 52) hx hb dX5_prepare_45 (by decide) (fun c_20 => ?_) (fun c_20 => ?_)
            · refine lv_iconst (v := 0) hx hb dX5_prepare_52 (by decide) ?_
              refine lv_istore_n (lv' := [(3, .int 0), (0, .ref t0), (1, .int n1), (2, .int n2)]) hx hb dX5_prepare_53 rfl hl (by decide) rfl (fun ls hl => ?_)
              refine lv_iload_n hx hb dX5_prepare_54 rfl (lv_at hl 0 rfl) ?_
              refine lv_if_ne (tgt := 61) hx hb dX5_prepare_55 (by decide) (fun c_21 => absurd (by decide) c_21) (fun c_21 => ?_)
              refine lv_ldc (own := "HeroTable$Table") (index := 83) (v := (-1000002)) hx hb hown (htg _ k396) dX5_prepare_58 ?_
              have hP9 := hP.sub (ws' := [(t0, .inr (6, [.ref th, .ref ts, .ref tg, .ref td, .int 0, .ref tr, .int (-1), .int 0, .int 0, .int 0, .long 0, .int 0, .int 0]))]) [0] rfl
              have hD9 := hD.sub (ws' := [(t0, .inr (6, [.ref th, .ref ts, .ref tg, .ref td, .int 0, .ref tr, .int (-1), .int 0, .int 0, .int 0, .long 0, .int 0, .int 0]))]) [0] (by decide) rfl
              refine W.widen (k := 0) (n := 0) (Nat.le_of_ble_eq_true rfl) (Nat.le_of_ble_eq_true rfl) ?_
              exact W.iret (v := (-1000002)) hx hb hr (fun t ht hW => ⟨⟨(-1000002), [(t0, .inr (6, [.ref th, .ref ts, .ref tg, .ref td, .int 0, .ref tr, .int (-1), .int 0, .int 0, .int 0, .long 0, .int 0, .int 0]))], rfl, Or.inr (⟨by simp only [okRdy]; simp only [fa_lt, fa_le, fa_eq, li0, li1, li5, li7, li8, li9, li20, li30, li40, li50, li97, li99, li103, li109, li115, li120, li255, lin1, lin20] at c_1 c_2 c_12 c_15 c_17 c_20 ⊢; omega, rfl, rfl⟩), by rw [ht]; exact hP9, va_K.moved hW.alike hK, hD9⟩, hS.F ht⟩) hS.2.2 dX5_prepare_60
            · refine lv_iconst (v := 1) hx hb dX5_prepare_48 (by decide) ?_
              refine lv_goto (tgt := 53) hx hb dX5_prepare_49 (by decide) ?_
              refine lv_istore_n (lv' := [(3, .int 1), (0, .ref t0), (1, .int n1), (2, .int n2)]) hx hb dX5_prepare_53 rfl hl (by decide) rfl (fun ls hl => ?_)
              refine lv_iload_n hx hb dX5_prepare_54 rfl (lv_at hl 0 rfl) ?_
              refine lv_if_ne (tgt := 61) hx hb dX5_prepare_55 (by decide) (fun c_22 => ?_) (fun c_22 => absurd c_22 (by decide))
              refine lv_aload_n hx hb dX5_prepare_61 rfl (lv_at hl 1 rfl) ?_
              have hPc := hP.sub (ws' := [(t0, .inr (6, [.ref th, .ref ts, .ref tg, .ref td, .int 0, .ref tr, .int (-1), .int 0, .int 0, .int 0, .long 0, .int 0, .int 0]))]) [0] rfl
              have hDc := hD.sub (ws' := [(t0, .inr (6, [.ref th, .ref ts, .ref tg, .ref td, .int 0, .ref tr, .int (-1), .int 0, .int 0, .int 0, .long 0, .int 0, .int 0]))]) [0] (by decide) rfl
              have hFc := va_free (wc := [(t0, .inr (6, [.ref th, .ref ts, .ref tg, .ref td, .int 0, .ref tr, .int (-1), .int 0, .int 0, .int 0, .long 0, .int 0, .int 0]))]) hD hS hA [0] rfl
              refine q_ci (wr := []) (va_runV (As := []) (rest := []) ⟨hx, hb, hml, hown, htg⟩ (c_X5_isTurnOn l hfl g t0 th ts tg td tr  H.size) ⟨(qB htg k400 k51 k397 ok_X5_isTurnOn rfl rfl ⟨Nat.le_of_ble_eq_true rfl, Nat.le_of_ble_eq_true rfl⟩), htg _ k398, htg _ k399⟩ ⟨(q_pre [.ref t0] hPc hDc hK hS hT hFc).1, va_recv hK hP (ci := 6) (q0 := 0) rfl rfl, (q_pre [.ref t0] hPc hDc hK hS hT hFc).2⟩ rfl rfl hl.1 rfl (lv_room (Nat.le_of_ble_eq_true rfl)) dX5_prepare_62 ⟨Nat.le_of_ble_eq_true rfl, Nat.le_of_ble_eq_true rfl⟩) hP hD hS hFc [0] [] rfl rfl (by decide) (by decide) (fun r9 u9 H locs hw hP hD hS => ?_)
              try dsimp only at hw
              rcases hw with ⟨rfl, rfl⟩
              have hP : va_P g.1 CLS [(t0, .inr (6, [.ref th, .ref ts, .ref tg, .ref td, .int 0, .ref tr, .int (-1), .int 0, .int 0, .int 0, .long 0, .int 0, .int 0]))] H := hP
              have hD : va_D A [(t0, .inr (6, [.ref th, .ref ts, .ref tg, .ref td, .int 0, .ref tr, .int (-1), .int 0, .int 0, .int 0, .long 0, .int 0, .int 0]))] := hD
              refine W.widen (k := 0) (n := 0) (Nat.le_of_ble_eq_true rfl) (Nat.le_of_ble_eq_true rfl) ?_
              refine lv_if_ne (tgt := 71) hx hb dX5_prepare_65 (by decide) (fun c_23 => absurd (by decide) c_23) (fun c_23 => ?_)
              refine lv_ldc (own := "HeroTable$Table") (index := 88) (v := (-1000003)) hx hb hown (htg _ k401) dX5_prepare_68 ?_
              have hP9 := hP.sub (ws' := [(t0, .inr (6, [.ref th, .ref ts, .ref tg, .ref td, .int 0, .ref tr, .int (-1), .int 0, .int 0, .int 0, .long 0, .int 0, .int 0]))]) [0] rfl
              have hD9 := hD.sub (ws' := [(t0, .inr (6, [.ref th, .ref ts, .ref tg, .ref td, .int 0, .ref tr, .int (-1), .int 0, .int 0, .int 0, .long 0, .int 0, .int 0]))]) [0] (by decide) rfl
              refine W.widen (k := 0) (n := 0) (Nat.le_of_ble_eq_true rfl) (Nat.le_of_ble_eq_true rfl) ?_
              exact W.iret (v := (-1000003)) hx hb hr (fun t ht hW => ⟨⟨(-1000003), [(t0, .inr (6, [.ref th, .ref ts, .ref tg, .ref td, .int 0, .ref tr, .int (-1), .int 0, .int 0, .int 0, .long 0, .int 0, .int 0]))], rfl, Or.inl ⟨by simp only [okRdy]; simp only [fa_lt, fa_le, fa_eq, li0, li1, li5, li7, li8, li9, li20, li30, li40, li50, li97, li99, li103, li109, li115, li120, li255, lin1, lin20] at c_1 c_2 c_12 c_15 c_17 c_20 ⊢; omega, rfl, rfl⟩, by rw [ht]; exact hP9, va_K.moved hW.alike hK, hD9⟩, hS.F ht⟩) hS.2.2 dX5_prepare_70
  · refine lv_iload_n hx hb dX5_prepare_6 rfl (lv_at hl 2 rfl) ?_
    refine lv_bipush (v := 103) hx hb dX5_prepare_7 (by decide) ?_
    refine lv_icmp_eq (tgt := 48) hx hb dX5_prepare_9 (by decide) (fun c_24 => ?_) (fun c_24 => ?_)
    · refine lv_iconst (v := 1) hx hb dX5_prepare_48 (by decide) ?_
      refine lv_goto (tgt := 53) hx hb dX5_prepare_49 (by decide) ?_
      refine lv_istore_n (lv' := [(3, .int 1), (0, .ref t0), (1, .int n1), (2, .int n2)]) hx hb dX5_prepare_53 rfl hl (by decide) rfl (fun ls hl => ?_)
      refine lv_iload_n hx hb dX5_prepare_54 rfl (lv_at hl 0 rfl) ?_
      refine lv_if_ne (tgt := 61) hx hb dX5_prepare_55 (by decide) (fun c_25 => ?_) (fun c_25 => absurd c_25 (by decide))
      refine lv_aload_n hx hb dX5_prepare_61 rfl (lv_at hl 1 rfl) ?_
      have hPc := hP.sub (ws' := [(t0, .inr (6, [.ref th, .ref ts, .ref tg, .ref td, .int 0, .ref tr, .int (-1), .int 0, .int 0, .int 0, .long 0, .int 0, .int 0]))]) [0] rfl
      have hDc := hD.sub (ws' := [(t0, .inr (6, [.ref th, .ref ts, .ref tg, .ref td, .int 0, .ref tr, .int (-1), .int 0, .int 0, .int 0, .long 0, .int 0, .int 0]))]) [0] (by decide) rfl
      have hFc := va_free (wc := [(t0, .inr (6, [.ref th, .ref ts, .ref tg, .ref td, .int 0, .ref tr, .int (-1), .int 0, .int 0, .int 0, .long 0, .int 0, .int 0]))]) hD hS hA [0] rfl
      refine q_ci (wr := []) (va_runV (As := []) (rest := []) ⟨hx, hb, hml, hown, htg⟩ (c_X5_isTurnOn l hfl g t0 th ts tg td tr  H.size) ⟨(qB htg k400 k51 k397 ok_X5_isTurnOn rfl rfl ⟨Nat.le_of_ble_eq_true rfl, Nat.le_of_ble_eq_true rfl⟩), htg _ k398, htg _ k399⟩ ⟨(q_pre [.ref t0] hPc hDc hK hS hT hFc).1, va_recv hK hP (ci := 6) (q0 := 0) rfl rfl, (q_pre [.ref t0] hPc hDc hK hS hT hFc).2⟩ rfl rfl hl.1 rfl (lv_room (Nat.le_of_ble_eq_true rfl)) dX5_prepare_62 ⟨Nat.le_of_ble_eq_true rfl, Nat.le_of_ble_eq_true rfl⟩) hP hD hS hFc [0] [] rfl rfl (by decide) (by decide) (fun r9 u9 H locs hw hP hD hS => ?_)
      try dsimp only at hw
      rcases hw with ⟨rfl, rfl⟩
      have hP : va_P g.1 CLS [(t0, .inr (6, [.ref th, .ref ts, .ref tg, .ref td, .int 0, .ref tr, .int (-1), .int 0, .int 0, .int 0, .long 0, .int 0, .int 0]))] H := hP
      have hD : va_D A [(t0, .inr (6, [.ref th, .ref ts, .ref tg, .ref td, .int 0, .ref tr, .int (-1), .int 0, .int 0, .int 0, .long 0, .int 0, .int 0]))] := hD
      refine W.widen (k := 0) (n := 0) (Nat.le_of_ble_eq_true rfl) (Nat.le_of_ble_eq_true rfl) ?_
      refine lv_if_ne (tgt := 71) hx hb dX5_prepare_65 (by decide) (fun c_26 => absurd (by decide) c_26) (fun c_26 => ?_)
      refine lv_ldc (own := "HeroTable$Table") (index := 88) (v := (-1000003)) hx hb hown (htg _ k401) dX5_prepare_68 ?_
      have hP9 := hP.sub (ws' := [(t0, .inr (6, [.ref th, .ref ts, .ref tg, .ref td, .int 0, .ref tr, .int (-1), .int 0, .int 0, .int 0, .long 0, .int 0, .int 0]))]) [0] rfl
      have hD9 := hD.sub (ws' := [(t0, .inr (6, [.ref th, .ref ts, .ref tg, .ref td, .int 0, .ref tr, .int (-1), .int 0, .int 0, .int 0, .long 0, .int 0, .int 0]))]) [0] (by decide) rfl
      refine W.widen (k := 0) (n := 0) (Nat.le_of_ble_eq_true rfl) (Nat.le_of_ble_eq_true rfl) ?_
      exact W.iret (v := (-1000003)) hx hb hr (fun t ht hW => ⟨⟨(-1000003), [(t0, .inr (6, [.ref th, .ref ts, .ref tg, .ref td, .int 0, .ref tr, .int (-1), .int 0, .int 0, .int 0, .long 0, .int 0, .int 0]))], rfl, Or.inl ⟨by simp only [okRdy]; simp only [fa_lt, fa_le, fa_eq, li0, li1, li5, li7, li8, li9, li20, li30, li40, li50, li97, li99, li103, li109, li115, li120, li255, lin1, lin20] at c_1 c_24 ⊢; omega, rfl, rfl⟩, by rw [ht]; exact hP9, va_K.moved hW.alike hK, hD9⟩, hS.F ht⟩) hS.2.2 dX5_prepare_70
    · refine lv_iload_n hx hb dX5_prepare_12 rfl (lv_at hl 2 rfl) ?_
      refine lv_bipush (v := 115) hx hb dX5_prepare_13 (by decide) ?_
      refine lv_icmp_eq (tgt := 48) hx hb dX5_prepare_15 (by decide) (fun c_27 => ?_) (fun c_27 => ?_)
      · refine lv_iconst (v := 1) hx hb dX5_prepare_48 (by decide) ?_
        refine lv_goto (tgt := 53) hx hb dX5_prepare_49 (by decide) ?_
        refine lv_istore_n (lv' := [(3, .int 1), (0, .ref t0), (1, .int n1), (2, .int n2)]) hx hb dX5_prepare_53 rfl hl (by decide) rfl (fun ls hl => ?_)
        refine lv_iload_n hx hb dX5_prepare_54 rfl (lv_at hl 0 rfl) ?_
        refine lv_if_ne (tgt := 61) hx hb dX5_prepare_55 (by decide) (fun c_28 => ?_) (fun c_28 => absurd c_28 (by decide))
        refine lv_aload_n hx hb dX5_prepare_61 rfl (lv_at hl 1 rfl) ?_
        have hPc := hP.sub (ws' := [(t0, .inr (6, [.ref th, .ref ts, .ref tg, .ref td, .int 0, .ref tr, .int (-1), .int 0, .int 0, .int 0, .long 0, .int 0, .int 0]))]) [0] rfl
        have hDc := hD.sub (ws' := [(t0, .inr (6, [.ref th, .ref ts, .ref tg, .ref td, .int 0, .ref tr, .int (-1), .int 0, .int 0, .int 0, .long 0, .int 0, .int 0]))]) [0] (by decide) rfl
        have hFc := va_free (wc := [(t0, .inr (6, [.ref th, .ref ts, .ref tg, .ref td, .int 0, .ref tr, .int (-1), .int 0, .int 0, .int 0, .long 0, .int 0, .int 0]))]) hD hS hA [0] rfl
        refine q_ci (wr := []) (va_runV (As := []) (rest := []) ⟨hx, hb, hml, hown, htg⟩ (c_X5_isTurnOn l hfl g t0 th ts tg td tr  H.size) ⟨(qB htg k400 k51 k397 ok_X5_isTurnOn rfl rfl ⟨Nat.le_of_ble_eq_true rfl, Nat.le_of_ble_eq_true rfl⟩), htg _ k398, htg _ k399⟩ ⟨(q_pre [.ref t0] hPc hDc hK hS hT hFc).1, va_recv hK hP (ci := 6) (q0 := 0) rfl rfl, (q_pre [.ref t0] hPc hDc hK hS hT hFc).2⟩ rfl rfl hl.1 rfl (lv_room (Nat.le_of_ble_eq_true rfl)) dX5_prepare_62 ⟨Nat.le_of_ble_eq_true rfl, Nat.le_of_ble_eq_true rfl⟩) hP hD hS hFc [0] [] rfl rfl (by decide) (by decide) (fun r9 u9 H locs hw hP hD hS => ?_)
        try dsimp only at hw
        rcases hw with ⟨rfl, rfl⟩
        have hP : va_P g.1 CLS [(t0, .inr (6, [.ref th, .ref ts, .ref tg, .ref td, .int 0, .ref tr, .int (-1), .int 0, .int 0, .int 0, .long 0, .int 0, .int 0]))] H := hP
        have hD : va_D A [(t0, .inr (6, [.ref th, .ref ts, .ref tg, .ref td, .int 0, .ref tr, .int (-1), .int 0, .int 0, .int 0, .long 0, .int 0, .int 0]))] := hD
        refine W.widen (k := 0) (n := 0) (Nat.le_of_ble_eq_true rfl) (Nat.le_of_ble_eq_true rfl) ?_
        refine lv_if_ne (tgt := 71) hx hb dX5_prepare_65 (by decide) (fun c_29 => absurd (by decide) c_29) (fun c_29 => ?_)
        refine lv_ldc (own := "HeroTable$Table") (index := 88) (v := (-1000003)) hx hb hown (htg _ k401) dX5_prepare_68 ?_
        have hP9 := hP.sub (ws' := [(t0, .inr (6, [.ref th, .ref ts, .ref tg, .ref td, .int 0, .ref tr, .int (-1), .int 0, .int 0, .int 0, .long 0, .int 0, .int 0]))]) [0] rfl
        have hD9 := hD.sub (ws' := [(t0, .inr (6, [.ref th, .ref ts, .ref tg, .ref td, .int 0, .ref tr, .int (-1), .int 0, .int 0, .int 0, .long 0, .int 0, .int 0]))]) [0] (by decide) rfl
        refine W.widen (k := 0) (n := 0) (Nat.le_of_ble_eq_true rfl) (Nat.le_of_ble_eq_true rfl) ?_
        exact W.iret (v := (-1000003)) hx hb hr (fun t ht hW => ⟨⟨(-1000003), [(t0, .inr (6, [.ref th, .ref ts, .ref tg, .ref td, .int 0, .ref tr, .int (-1), .int 0, .int 0, .int 0, .long 0, .int 0, .int 0]))], rfl, Or.inl ⟨by simp only [okRdy]; simp only [fa_lt, fa_le, fa_eq, li0, li1, li5, li7, li8, li9, li20, li30, li40, li50, li97, li99, li103, li109, li115, li120, li255, lin1, lin20] at c_1 c_24 c_27 ⊢; omega, rfl, rfl⟩, by rw [ht]; exact hP9, va_K.moved hW.alike hK, hD9⟩, hS.F ht⟩) hS.2.2 dX5_prepare_70
      · refine lv_iload_n hx hb dX5_prepare_18 rfl (lv_at hl 1 rfl) ?_
        refine lv_bipush (v := 109) hx hb dX5_prepare_19 (by decide) ?_
        refine lv_icmp_ne (tgt := 30) hx hb dX5_prepare_21 (by decide) (fun c_30 => ?_) (fun c_30 => ?_)
        · refine lv_iload_n hx hb dX5_prepare_30 rfl (lv_at hl 1 rfl) ?_
          refine lv_bipush (v := 99) hx hb dX5_prepare_31 (by decide) ?_
          refine lv_icmp_ne (tgt := 52) hx hb dX5_prepare_33 (by decide) (fun c_31 => ?_) (fun c_31 => ?_)
          · refine lv_iconst (v := 0) hx hb dX5_prepare_52 (by decide) ?_
            refine lv_istore_n (lv' := [(3, .int 0), (0, .ref t0), (1, .int n1), (2, .int n2)]) hx hb dX5_prepare_53 rfl hl (by decide) rfl (fun ls hl => ?_)
            refine lv_iload_n hx hb dX5_prepare_54 rfl (lv_at hl 0 rfl) ?_
            refine lv_if_ne (tgt := 61) hx hb dX5_prepare_55 (by decide) (fun c_32 => absurd (by decide) c_32) (fun c_32 => ?_)
            refine lv_ldc (own := "HeroTable$Table") (index := 83) (v := (-1000002)) hx hb hown (htg _ k396) dX5_prepare_58 ?_
            have hP9 := hP.sub (ws' := [(t0, .inr (6, [.ref th, .ref ts, .ref tg, .ref td, .int 0, .ref tr, .int (-1), .int 0, .int 0, .int 0, .long 0, .int 0, .int 0]))]) [0] rfl
            have hD9 := hD.sub (ws' := [(t0, .inr (6, [.ref th, .ref ts, .ref tg, .ref td, .int 0, .ref tr, .int (-1), .int 0, .int 0, .int 0, .long 0, .int 0, .int 0]))]) [0] (by decide) rfl
            refine W.widen (k := 0) (n := 0) (Nat.le_of_ble_eq_true rfl) (Nat.le_of_ble_eq_true rfl) ?_
            exact W.iret (v := (-1000002)) hx hb hr (fun t ht hW => ⟨⟨(-1000002), [(t0, .inr (6, [.ref th, .ref ts, .ref tg, .ref td, .int 0, .ref tr, .int (-1), .int 0, .int 0, .int 0, .long 0, .int 0, .int 0]))], rfl, Or.inr (⟨by simp only [okRdy]; simp only [fa_lt, fa_le, fa_eq, li0, li1, li5, li7, li8, li9, li20, li30, li40, li50, li97, li99, li103, li109, li115, li120, li255, lin1, lin20] at c_1 c_24 c_27 c_30 c_31 ⊢; omega, rfl, rfl⟩), by rw [ht]; exact hP9, va_K.moved hW.alike hK, hD9⟩, hS.F ht⟩) hS.2.2 dX5_prepare_60
          · refine lv_iload_n hx hb dX5_prepare_36 rfl (lv_at hl 2 rfl) ?_
            refine lv_bipush (v := 120) hx hb dX5_prepare_37 (by decide) ?_
            refine lv_icmp_eq (tgt := 48) hx hb dX5_prepare_39 (by decide) (fun c_33 => ?_) (fun c_33 => ?_)
            · refine lv_iconst (v := 1) hx hb dX5_prepare_48 (by decide) ?_
              refine lv_goto (tgt := 53) hx hb dX5_prepare_49 (by decide) ?_
              refine lv_istore_n (lv' := [(3, .int 1), (0, .ref t0), (1, .int n1), (2, .int n2)]) hx hb dX5_prepare_53 rfl hl (by decide) rfl (fun ls hl => ?_)
              refine lv_iload_n hx hb dX5_prepare_54 rfl (lv_at hl 0 rfl) ?_
              refine lv_if_ne (tgt := 61) hx hb dX5_prepare_55 (by decide) (fun c_34 => ?_) (fun c_34 => absurd c_34 (by decide))
              refine lv_aload_n hx hb dX5_prepare_61 rfl (lv_at hl 1 rfl) ?_
              have hPc := hP.sub (ws' := [(t0, .inr (6, [.ref th, .ref ts, .ref tg, .ref td, .int 0, .ref tr, .int (-1), .int 0, .int 0, .int 0, .long 0, .int 0, .int 0]))]) [0] rfl
              have hDc := hD.sub (ws' := [(t0, .inr (6, [.ref th, .ref ts, .ref tg, .ref td, .int 0, .ref tr, .int (-1), .int 0, .int 0, .int 0, .long 0, .int 0, .int 0]))]) [0] (by decide) rfl
              have hFc := va_free (wc := [(t0, .inr (6, [.ref th, .ref ts, .ref tg, .ref td, .int 0, .ref tr, .int (-1), .int 0, .int 0, .int 0, .long 0, .int 0, .int 0]))]) hD hS hA [0] rfl
              refine q_ci (wr := []) (va_runV (As := []) (rest := []) ⟨hx, hb, hml, hown, htg⟩ (c_X5_isTurnOn l hfl g t0 th ts tg td tr  H.size) ⟨(qB htg k400 k51 k397 ok_X5_isTurnOn rfl rfl ⟨Nat.le_of_ble_eq_true rfl, Nat.le_of_ble_eq_true rfl⟩), htg _ k398, htg _ k399⟩ ⟨(q_pre [.ref t0] hPc hDc hK hS hT hFc).1, va_recv hK hP (ci := 6) (q0 := 0) rfl rfl, (q_pre [.ref t0] hPc hDc hK hS hT hFc).2⟩ rfl rfl hl.1 rfl (lv_room (Nat.le_of_ble_eq_true rfl)) dX5_prepare_62 ⟨Nat.le_of_ble_eq_true rfl, Nat.le_of_ble_eq_true rfl⟩) hP hD hS hFc [0] [] rfl rfl (by decide) (by decide) (fun r9 u9 H locs hw hP hD hS => ?_)
              try dsimp only at hw
              rcases hw with ⟨rfl, rfl⟩
              have hP : va_P g.1 CLS [(t0, .inr (6, [.ref th, .ref ts, .ref tg, .ref td, .int 0, .ref tr, .int (-1), .int 0, .int 0, .int 0, .long 0, .int 0, .int 0]))] H := hP
              have hD : va_D A [(t0, .inr (6, [.ref th, .ref ts, .ref tg, .ref td, .int 0, .ref tr, .int (-1), .int 0, .int 0, .int 0, .long 0, .int 0, .int 0]))] := hD
              refine W.widen (k := 0) (n := 0) (Nat.le_of_ble_eq_true rfl) (Nat.le_of_ble_eq_true rfl) ?_
              refine lv_if_ne (tgt := 71) hx hb dX5_prepare_65 (by decide) (fun c_35 => absurd (by decide) c_35) (fun c_35 => ?_)
              refine lv_ldc (own := "HeroTable$Table") (index := 88) (v := (-1000003)) hx hb hown (htg _ k401) dX5_prepare_68 ?_
              have hP9 := hP.sub (ws' := [(t0, .inr (6, [.ref th, .ref ts, .ref tg, .ref td, .int 0, .ref tr, .int (-1), .int 0, .int 0, .int 0, .long 0, .int 0, .int 0]))]) [0] rfl
              have hD9 := hD.sub (ws' := [(t0, .inr (6, [.ref th, .ref ts, .ref tg, .ref td, .int 0, .ref tr, .int (-1), .int 0, .int 0, .int 0, .long 0, .int 0, .int 0]))]) [0] (by decide) rfl
              refine W.widen (k := 0) (n := 0) (Nat.le_of_ble_eq_true rfl) (Nat.le_of_ble_eq_true rfl) ?_
              exact W.iret (v := (-1000003)) hx hb hr (fun t ht hW => ⟨⟨(-1000003), [(t0, .inr (6, [.ref th, .ref ts, .ref tg, .ref td, .int 0, .ref tr, .int (-1), .int 0, .int 0, .int 0, .long 0, .int 0, .int 0]))], rfl, Or.inl ⟨by simp only [okRdy]; simp only [fa_lt, fa_le, fa_eq, li0, li1, li5, li7, li8, li9, li20, li30, li40, li50, li97, li99, li103, li109, li115, li120, li255, lin1, lin20] at c_1 c_24 c_27 c_30 c_31 c_33 ⊢; omega, rfl, rfl⟩, by rw [ht]; exact hP9, va_K.moved hW.alike hK, hD9⟩, hS.F ht⟩) hS.2.2 dX5_prepare_70
            · refine lv_iload_n hx hb dX5_prepare_42 rfl (lv_at hl 2 rfl) ?_
              refine lv_bipush (v := 115) hx hb dX5_prepare_43 (by decide) ?_
              refine lv_icmp_ne (tgt := 52) hx hb dX5_prepare_45 (by decide) (fun c_36 => ?_) (fun c_36 => ?_)
              · refine lv_iconst (v := 0) hx hb dX5_prepare_52 (by decide) ?_
                refine lv_istore_n (lv' := [(3, .int 0), (0, .ref t0), (1, .int n1), (2, .int n2)]) hx hb dX5_prepare_53 rfl hl (by decide) rfl (fun ls hl => ?_)
                refine lv_iload_n hx hb dX5_prepare_54 rfl (lv_at hl 0 rfl) ?_
                refine lv_if_ne (tgt := 61) hx hb dX5_prepare_55 (by decide) (fun c_37 => absurd (by decide) c_37) (fun c_37 => ?_)
                refine lv_ldc (own := "HeroTable$Table") (index := 83) (v := (-1000002)) hx hb hown (htg _ k396) dX5_prepare_58 ?_
                have hP9 := hP.sub (ws' := [(t0, .inr (6, [.ref th, .ref ts, .ref tg, .ref td, .int 0, .ref tr, .int (-1), .int 0, .int 0, .int 0, .long 0, .int 0, .int 0]))]) [0] rfl
                have hD9 := hD.sub (ws' := [(t0, .inr (6, [.ref th, .ref ts, .ref tg, .ref td, .int 0, .ref tr, .int (-1), .int 0, .int 0, .int 0, .long 0, .int 0, .int 0]))]) [0] (by decide) rfl
                refine W.widen (k := 0) (n := 0) (Nat.le_of_ble_eq_true rfl) (Nat.le_of_ble_eq_true rfl) ?_
                exact W.iret (v := (-1000002)) hx hb hr (fun t ht hW => ⟨⟨(-1000002), [(t0, .inr (6, [.ref th, .ref ts, .ref tg, .ref td, .int 0, .ref tr, .int (-1), .int 0, .int 0, .int 0, .long 0, .int 0, .int 0]))], rfl, Or.inr (⟨by simp only [okRdy]; simp only [fa_lt, fa_le, fa_eq, li0, li1, li5, li7, li8, li9, li20, li30, li40, li50, li97, li99, li103, li109, li115, li120, li255, lin1, lin20] at c_1 c_24 c_27 c_30 c_31 c_33 c_36 ⊢; omega, rfl, rfl⟩), by rw [ht]; exact hP9, va_K.moved hW.alike hK, hD9⟩, hS.F ht⟩) hS.2.2 dX5_prepare_60
              · refine lv_iconst (v := 1) hx hb dX5_prepare_48 (by decide) ?_
                refine lv_goto (tgt := 53) hx hb dX5_prepare_49 (by decide) ?_
                refine lv_istore_n (lv' := [(3, .int 1), (0, .ref t0), (1, .int n1), (2, .int n2)]) hx hb dX5_prepare_53 rfl hl (by decide) rfl (fun ls hl => ?_)
                refine lv_iload_n hx hb dX5_prepare_54 rfl (lv_at hl 0 rfl) ?_
                refine lv_if_ne (tgt := 61) hx hb dX5_prepare_55 (by decide) (fun c_38 => ?_) (fun c_38 => absurd c_38 (by decide))
                refine lv_aload_n hx hb dX5_prepare_61 rfl (lv_at hl 1 rfl) ?_
                have hPc := hP.sub (ws' := [(t0, .inr (6, [.ref th, .ref ts, .ref tg, .ref td, .int 0, .ref tr, .int (-1), .int 0, .int 0, .int 0, .long 0, .int 0, .int 0]))]) [0] rfl
                have hDc := hD.sub (ws' := [(t0, .inr (6, [.ref th, .ref ts, .ref tg, .ref td, .int 0, .ref tr, .int (-1), .int 0, .int 0, .int 0, .long 0, .int 0, .int 0]))]) [0] (by decide) rfl
                have hFc := va_free (wc := [(t0, .inr (6, [.ref th, .ref ts, .ref tg, .ref td, .int 0, .ref tr, .int (-1), .int 0, .int 0, .int 0, .long 0, .int 0, .int 0]))]) hD hS hA [0] rfl
                refine q_ci (wr := []) (va_runV (As := []) (rest := []) ⟨hx, hb, hml, hown, htg⟩ (c_X5_isTurnOn l hfl g t0 th ts tg td tr  H.size) ⟨(qB htg k400 k51 k397 ok_X5_isTurnOn rfl rfl ⟨Nat.le_of_ble_eq_true rfl, Nat.le_of_ble_eq_true rfl⟩), htg _ k398, htg _ k399⟩ ⟨(q_pre [.ref t0] hPc hDc hK hS hT hFc).1, va_recv hK hP (ci := 6) (q0 := 0) rfl rfl, (q_pre [.ref t0] hPc hDc hK hS hT hFc).2⟩ rfl rfl hl.1 rfl (lv_room (Nat.le_of_ble_eq_true rfl)) dX5_prepare_62 ⟨Nat.le_of_ble_eq_true rfl, Nat.le_of_ble_eq_true rfl⟩) hP hD hS hFc [0] [] rfl rfl (by decide) (by decide) (fun r9 u9 H locs hw hP hD hS => ?_)
                try dsimp only at hw
                rcases hw with ⟨rfl, rfl⟩
                have hP : va_P g.1 CLS [(t0, .inr (6, [.ref th, .ref ts, .ref tg, .ref td, .int 0, .ref tr, .int (-1), .int 0, .int 0, .int 0, .long 0, .int 0, .int 0]))] H := hP
                have hD : va_D A [(t0, .inr (6, [.ref th, .ref ts, .ref tg, .ref td, .int 0, .ref tr, .int (-1), .int 0, .int 0, .int 0, .long 0, .int 0, .int 0]))] := hD
                refine W.widen (k := 0) (n := 0) (Nat.le_of_ble_eq_true rfl) (Nat.le_of_ble_eq_true rfl) ?_
                refine lv_if_ne (tgt := 71) hx hb dX5_prepare_65 (by decide) (fun c_39 => absurd (by decide) c_39) (fun c_39 => ?_)
                refine lv_ldc (own := "HeroTable$Table") (index := 88) (v := (-1000003)) hx hb hown (htg _ k401) dX5_prepare_68 ?_
                have hP9 := hP.sub (ws' := [(t0, .inr (6, [.ref th, .ref ts, .ref tg, .ref td, .int 0, .ref tr, .int (-1), .int 0, .int 0, .int 0, .long 0, .int 0, .int 0]))]) [0] rfl
                have hD9 := hD.sub (ws' := [(t0, .inr (6, [.ref th, .ref ts, .ref tg, .ref td, .int 0, .ref tr, .int (-1), .int 0, .int 0, .int 0, .long 0, .int 0, .int 0]))]) [0] (by decide) rfl
                refine W.widen (k := 0) (n := 0) (Nat.le_of_ble_eq_true rfl) (Nat.le_of_ble_eq_true rfl) ?_
                exact W.iret (v := (-1000003)) hx hb hr (fun t ht hW => ⟨⟨(-1000003), [(t0, .inr (6, [.ref th, .ref ts, .ref tg, .ref td, .int 0, .ref tr, .int (-1), .int 0, .int 0, .int 0, .long 0, .int 0, .int 0]))], rfl, Or.inl ⟨by simp only [okRdy]; simp only [fa_lt, fa_le, fa_eq, li0, li1, li5, li7, li8, li9, li20, li30, li40, li50, li97, li99, li103, li109, li115, li120, li255, lin1, lin20] at c_1 c_24 c_27 c_30 c_31 c_33 c_36 ⊢; omega, rfl, rfl⟩, by rw [ht]; exact hP9, va_K.moved hW.alike hK, hD9⟩, hS.F ht⟩) hS.2.2 dX5_prepare_70
        · refine lv_iload_n hx hb dX5_prepare_24 rfl (lv_at hl 2 rfl) ?_
          refine lv_bipush (v := 115) hx hb dX5_prepare_25 (by decide) ?_
          refine lv_icmp_eq (tgt := 48) hx hb dX5_prepare_27 (by decide) (fun c_40 => ?_) (fun c_40 => ?_)
          · refine lv_iconst (v := 1) hx hb dX5_prepare_48 (by decide) ?_
            refine lv_goto (tgt := 53) hx hb dX5_prepare_49 (by decide) ?_
            refine lv_istore_n (lv' := [(3, .int 1), (0, .ref t0), (1, .int n1), (2, .int n2)]) hx hb dX5_prepare_53 rfl hl (by decide) rfl (fun ls hl => ?_)
            refine lv_iload_n hx hb dX5_prepare_54 rfl (lv_at hl 0 rfl) ?_
            refine lv_if_ne (tgt := 61) hx hb dX5_prepare_55 (by decide) (fun c_41 => ?_) (fun c_41 => absurd c_41 (by decide))
            refine lv_aload_n hx hb dX5_prepare_61 rfl (lv_at hl 1 rfl) ?_
            have hPc := hP.sub (ws' := [(t0, .inr (6, [.ref th, .ref ts, .ref tg, .ref td, .int 0, .ref tr, .int (-1), .int 0, .int 0, .int 0, .long 0, .int 0, .int 0]))]) [0] rfl
            have hDc := hD.sub (ws' := [(t0, .inr (6, [.ref th, .ref ts, .ref tg, .ref td, .int 0, .ref tr, .int (-1), .int 0, .int 0, .int 0, .long 0, .int 0, .int 0]))]) [0] (by decide) rfl
            have hFc := va_free (wc := [(t0, .inr (6, [.ref th, .ref ts, .ref tg, .ref td, .int 0, .ref tr, .int (-1), .int 0, .int 0, .int 0, .long 0, .int 0, .int 0]))]) hD hS hA [0] rfl
            refine q_ci (wr := []) (va_runV (As := []) (rest := []) ⟨hx, hb, hml, hown, htg⟩ (c_X5_isTurnOn l hfl g t0 th ts tg td tr  H.size) ⟨(qB htg k400 k51 k397 ok_X5_isTurnOn rfl rfl ⟨Nat.le_of_ble_eq_true rfl, Nat.le_of_ble_eq_true rfl⟩), htg _ k398, htg _ k399⟩ ⟨(q_pre [.ref t0] hPc hDc hK hS hT hFc).1, va_recv hK hP (ci := 6) (q0 := 0) rfl rfl, (q_pre [.ref t0] hPc hDc hK hS hT hFc).2⟩ rfl rfl hl.1 rfl (lv_room (Nat.le_of_ble_eq_true rfl)) dX5_prepare_62 ⟨Nat.le_of_ble_eq_true rfl, Nat.le_of_ble_eq_true rfl⟩) hP hD hS hFc [0] [] rfl rfl (by decide) (by decide) (fun r9 u9 H locs hw hP hD hS => ?_)
            try dsimp only at hw
            rcases hw with ⟨rfl, rfl⟩
            have hP : va_P g.1 CLS [(t0, .inr (6, [.ref th, .ref ts, .ref tg, .ref td, .int 0, .ref tr, .int (-1), .int 0, .int 0, .int 0, .long 0, .int 0, .int 0]))] H := hP
            have hD : va_D A [(t0, .inr (6, [.ref th, .ref ts, .ref tg, .ref td, .int 0, .ref tr, .int (-1), .int 0, .int 0, .int 0, .long 0, .int 0, .int 0]))] := hD
            refine W.widen (k := 0) (n := 0) (Nat.le_of_ble_eq_true rfl) (Nat.le_of_ble_eq_true rfl) ?_
            refine lv_if_ne (tgt := 71) hx hb dX5_prepare_65 (by decide) (fun c_42 => absurd (by decide) c_42) (fun c_42 => ?_)
            refine lv_ldc (own := "HeroTable$Table") (index := 88) (v := (-1000003)) hx hb hown (htg _ k401) dX5_prepare_68 ?_
            have hP9 := hP.sub (ws' := [(t0, .inr (6, [.ref th, .ref ts, .ref tg, .ref td, .int 0, .ref tr, .int (-1), .int 0, .int 0, .int 0, .long 0, .int 0, .int 0]))]) [0] rfl
            have hD9 := hD.sub (ws' := [(t0, .inr (6, [.ref th, .ref ts, .ref tg, .ref td, .int 0, .ref tr, .int (-1), .int 0, .int 0, .int 0, .long 0, .int 0, .int 0]))]) [0] (by decide) rfl
            refine W.widen (k := 0) (n := 0) (Nat.le_of_ble_eq_true rfl) (Nat.le_of_ble_eq_true rfl) ?_
            exact W.iret (v := (-1000003)) hx hb hr (fun t ht hW => ⟨⟨(-1000003), [(t0, .inr (6, [.ref th, .ref ts, .ref tg, .ref td, .int 0, .ref tr, .int (-1), .int 0, .int 0, .int 0, .long 0, .int 0, .int 0]))], rfl, Or.inl ⟨by simp only [okRdy]; simp only [fa_lt, fa_le, fa_eq, li0, li1, li5, li7, li8, li9, li20, li30, li40, li50, li97, li99, li103, li109, li115, li120, li255, lin1, lin20] at c_1 c_24 c_27 c_30 c_40 ⊢; omega, rfl, rfl⟩, by rw [ht]; exact hP9, va_K.moved hW.alike hK, hD9⟩, hS.F ht⟩) hS.2.2 dX5_prepare_70
          · refine lv_iload_n hx hb dX5_prepare_30 rfl (lv_at hl 1 rfl) ?_
            refine lv_bipush (v := 99) hx hb dX5_prepare_31 (by decide) ?_
            refine lv_icmp_ne (tgt := 52) hx hb dX5_prepare_33 (by decide) (fun c_43 => ?_) (fun c_43 => ?_)
            · refine lv_iconst (v := 0) hx hb dX5_prepare_52 (by decide) ?_
              refine lv_istore_n (lv' := [(3, .int 0), (0, .ref t0), (1, .int n1), (2, .int n2)]) hx hb dX5_prepare_53 rfl hl (by decide) rfl (fun ls hl => ?_)
              refine lv_iload_n hx hb dX5_prepare_54 rfl (lv_at hl 0 rfl) ?_
              refine lv_if_ne (tgt := 61) hx hb dX5_prepare_55 (by decide) (fun c_44 => absurd (by decide) c_44) (fun c_44 => ?_)
              refine lv_ldc (own := "HeroTable$Table") (index := 83) (v := (-1000002)) hx hb hown (htg _ k396) dX5_prepare_58 ?_
              have hP9 := hP.sub (ws' := [(t0, .inr (6, [.ref th, .ref ts, .ref tg, .ref td, .int 0, .ref tr, .int (-1), .int 0, .int 0, .int 0, .long 0, .int 0, .int 0]))]) [0] rfl
              have hD9 := hD.sub (ws' := [(t0, .inr (6, [.ref th, .ref ts, .ref tg, .ref td, .int 0, .ref tr, .int (-1), .int 0, .int 0, .int 0, .long 0, .int 0, .int 0]))]) [0] (by decide) rfl
              refine W.widen (k := 0) (n := 0) (Nat.le_of_ble_eq_true rfl) (Nat.le_of_ble_eq_true rfl) ?_
              exact W.iret (v := (-1000002)) hx hb hr (fun t ht hW => ⟨⟨(-1000002), [(t0, .inr (6, [.ref th, .ref ts, .ref tg, .ref td, .int 0, .ref tr, .int (-1), .int 0, .int 0, .int 0, .long 0, .int 0, .int 0]))], rfl, Or.inr (⟨by simp only [okRdy]; simp only [fa_lt, fa_le, fa_eq, li0, li1, li5, li7, li8, li9, li20, li30, li40, li50, li97, li99, li103, li109, li115, li120, li255, lin1, lin20] at c_1 c_24 c_27 c_30 c_40 c_43 ⊢; omega, rfl, rfl⟩), by rw [ht]; exact hP9, va_K.moved hW.alike hK, hD9⟩, hS.F ht⟩) hS.2.2 dX5_prepare_60
            · refine lv_iload_n hx hb dX5_prepare_36 rfl (lv_at hl 2 rfl) ?_
              refine lv_bipush (v := 120) hx hb dX5_prepare_37 (by decide) ?_
              refine lv_icmp_eq (tgt := 48) hx hb dX5_prepare_39 (by decide) (fun c_45 => ?_) (fun c_45 => ?_)
              · refine lv_iconst (v := 1) hx hb dX5_prepare_48 (by decide) ?_
                refine lv_goto (tgt := 53) hx hb dX5_prepare_49 (by decide) ?_
                refine lv_istore_n (lv' := [(3, .int 1), (0, .ref t0), (1, .int n1), (2, .int n2)]) hx hb dX5_prepare_53 rfl hl (by decide) rfl (fun ls hl => ?_)
                refine lv_iload_n hx hb dX5_prepare_54 rfl (lv_at hl 0 rfl) ?_
                refine lv_if_ne (tgt := 61) hx hb dX5_prepare_55 (by decide) (fun c_46 => ?_) (fun c_46 => absurd c_46 (by decide))
                refine lv_aload_n hx hb dX5_prepare_61 rfl (lv_at hl 1 rfl) ?_
                have hPc := hP.sub (ws' := [(t0, .inr (6, [.ref th, .ref ts, .ref tg, .ref td, .int 0, .ref tr, .int (-1), .int 0, .int 0, .int 0, .long 0, .int 0, .int 0]))]) [0] rfl
                have hDc := hD.sub (ws' := [(t0, .inr (6, [.ref th, .ref ts, .ref tg, .ref td, .int 0, .ref tr, .int (-1), .int 0, .int 0, .int 0, .long 0, .int 0, .int 0]))]) [0] (by decide) rfl
                have hFc := va_free (wc := [(t0, .inr (6, [.ref th, .ref ts, .ref tg, .ref td, .int 0, .ref tr, .int (-1), .int 0, .int 0, .int 0, .long 0, .int 0, .int 0]))]) hD hS hA [0] rfl
                refine q_ci (wr := []) (va_runV (As := []) (rest := []) ⟨hx, hb, hml, hown, htg⟩ (c_X5_isTurnOn l hfl g t0 th ts tg td tr  H.size) ⟨(qB htg k400 k51 k397 ok_X5_isTurnOn rfl rfl ⟨Nat.le_of_ble_eq_true rfl, Nat.le_of_ble_eq_true rfl⟩), htg _ k398, htg _ k399⟩ ⟨(q_pre [.ref t0] hPc hDc hK hS hT hFc).1, va_recv hK hP (ci := 6) (q0 := 0) rfl rfl, (q_pre [.ref t0] hPc hDc hK hS hT hFc).2⟩ rfl rfl hl.1 rfl (lv_room (Nat.le_of_ble_eq_true rfl)) dX5_prepare_62 ⟨Nat.le_of_ble_eq_true rfl, Nat.le_of_ble_eq_true rfl⟩) hP hD hS hFc [0] [] rfl rfl (by decide) (by decide) (fun r9 u9 H locs hw hP hD hS => ?_)
                try dsimp only at hw
                rcases hw with ⟨rfl, rfl⟩
                have hP : va_P g.1 CLS [(t0, .inr (6, [.ref th, .ref ts, .ref tg, .ref td, .int 0, .ref tr, .int (-1), .int 0, .int 0, .int 0, .long 0, .int 0, .int 0]))] H := hP
                have hD : va_D A [(t0, .inr (6, [.ref th, .ref ts, .ref tg, .ref td, .int 0, .ref tr, .int (-1), .int 0, .int 0, .int 0, .long 0, .int 0, .int 0]))] := hD
                refine W.widen (k := 0) (n := 0) (Nat.le_of_ble_eq_true rfl) (Nat.le_of_ble_eq_true rfl) ?_
                refine lv_if_ne (tgt := 71) hx hb dX5_prepare_65 (by decide) (fun c_47 => absurd (by decide) c_47) (fun c_47 => ?_)
                refine lv_ldc (own := "HeroTable$Table") (index := 88) (v := (-1000003)) hx hb hown (htg _ k401) dX5_prepare_68 ?_
                have hP9 := hP.sub (ws' := [(t0, .inr (6, [.ref th, .ref ts, .ref tg, .ref td, .int 0, .ref tr, .int (-1), .int 0, .int 0, .int 0, .long 0, .int 0, .int 0]))]) [0] rfl
                have hD9 := hD.sub (ws' := [(t0, .inr (6, [.ref th, .ref ts, .ref tg, .ref td, .int 0, .ref tr, .int (-1), .int 0, .int 0, .int 0, .long 0, .int 0, .int 0]))]) [0] (by decide) rfl
                refine W.widen (k := 0) (n := 0) (Nat.le_of_ble_eq_true rfl) (Nat.le_of_ble_eq_true rfl) ?_
                exact W.iret (v := (-1000003)) hx hb hr (fun t ht hW => ⟨⟨(-1000003), [(t0, .inr (6, [.ref th, .ref ts, .ref tg, .ref td, .int 0, .ref tr, .int (-1), .int 0, .int 0, .int 0, .long 0, .int 0, .int 0]))], rfl, Or.inl ⟨by simp only [okRdy]; simp only [fa_lt, fa_le, fa_eq, li0, li1, li5, li7, li8, li9, li20, li30, li40, li50, li97, li99, li103, li109, li115, li120, li255, lin1, lin20] at c_1 c_24 c_27 c_30 c_40 c_43 c_45 ⊢; omega, rfl, rfl⟩, by rw [ht]; exact hP9, va_K.moved hW.alike hK, hD9⟩, hS.F ht⟩) hS.2.2 dX5_prepare_70
              · refine lv_iload_n hx hb dX5_prepare_42 rfl (lv_at hl 2 rfl) ?_
                refine lv_bipush (v := 115) hx hb dX5_prepare_43 (by decide) ?_
                refine lv_icmp_ne (tgt := 52) hx hb dX5_prepare_45 (by decide) (fun c_48 => ?_) (fun c_48 => ?_)
                · refine lv_iconst (v := 0) hx hb dX5_prepare_52 (by decide) ?_
                  refine lv_istore_n (lv' := [(3, .int 0), (0, .ref t0), (1, .int n1), (2, .int n2)]) hx hb dX5_prepare_53 rfl hl (by decide) rfl (fun ls hl => ?_)
                  refine lv_iload_n hx hb dX5_prepare_54 rfl (lv_at hl 0 rfl) ?_
                  refine lv_if_ne (tgt := 61) hx hb dX5_prepare_55 (by decide) (fun c_49 => absurd (by decide) c_49) (fun c_49 => ?_)
                  refine lv_ldc (own := "HeroTable$Table") (index := 83) (v := (-1000002)) hx hb hown (htg _ k396) dX5_prepare_58 ?_
                  have hP9 := hP.sub (ws' := [(t0, .inr (6, [.ref th, .ref ts, .ref tg, .ref td, .int 0, .ref tr, .int (-1), .int 0, .int 0, .int 0, .long 0, .int 0, .int 0]))]) [0] rfl
                  have hD9 := hD.sub (ws' := [(t0, .inr (6, [.ref th, .ref ts, .ref tg, .ref td, .int 0, .ref tr, .int (-1), .int 0, .int 0, .int 0, .long 0, .int 0, .int 0]))]) [0] (by decide) rfl
                  refine W.widen (k := 0) (n := 0) (Nat.le_of_ble_eq_true rfl) (Nat.le_of_ble_eq_true rfl) ?_
                  exact W.iret (v := (-1000002)) hx hb hr (fun t ht hW => ⟨⟨(-1000002), [(t0, .inr (6, [.ref th, .ref ts, .ref tg, .ref td, .int 0, .ref tr, .int (-1), .int 0, .int 0, .int 0, .long 0, .int 0, .int 0]))], rfl, Or.inr (⟨by simp only [okRdy]; simp only [fa_lt, fa_le, fa_eq, li0, li1, li5, li7, li8, li9, li20, li30, li40, li50, li97, li99, li103, li109, li115, li120, li255, lin1, lin20] at c_1 c_24 c_27 c_30 c_40 c_43 c_45 c_48 ⊢; omega, rfl, rfl⟩), by rw [ht]; exact hP9, va_K.moved hW.alike hK, hD9⟩, hS.F ht⟩) hS.2.2 dX5_prepare_60
                · refine lv_iconst (v := 1) hx hb dX5_prepare_48 (by decide) ?_
                  refine lv_goto (tgt := 53) hx hb dX5_prepare_49 (by decide) ?_
                  refine lv_istore_n (lv' := [(3, .int 1), (0, .ref t0), (1, .int n1), (2, .int n2)]) hx hb dX5_prepare_53 rfl hl (by decide) rfl (fun ls hl => ?_)
                  refine lv_iload_n hx hb dX5_prepare_54 rfl (lv_at hl 0 rfl) ?_
                  refine lv_if_ne (tgt := 61) hx hb dX5_prepare_55 (by decide) (fun c_50 => ?_) (fun c_50 => absurd c_50 (by decide))
                  refine lv_aload_n hx hb dX5_prepare_61 rfl (lv_at hl 1 rfl) ?_
                  have hPc := hP.sub (ws' := [(t0, .inr (6, [.ref th, .ref ts, .ref tg, .ref td, .int 0, .ref tr, .int (-1), .int 0, .int 0, .int 0, .long 0, .int 0, .int 0]))]) [0] rfl
                  have hDc := hD.sub (ws' := [(t0, .inr (6, [.ref th, .ref ts, .ref tg, .ref td, .int 0, .ref tr, .int (-1), .int 0, .int 0, .int 0, .long 0, .int 0, .int 0]))]) [0] (by decide) rfl
                  have hFc := va_free (wc := [(t0, .inr (6, [.ref th, .ref ts, .ref tg, .ref td, .int 0, .ref tr, .int (-1), .int 0, .int 0, .int 0, .long 0, .int 0, .int 0]))]) hD hS hA [0] rfl
                  refine q_ci (wr := []) (va_runV (As := []) (rest := []) ⟨hx, hb, hml, hown, htg⟩ (c_X5_isTurnOn l hfl g t0 th ts tg td tr  H.size) ⟨(qB htg k400 k51 k397 ok_X5_isTurnOn rfl rfl ⟨Nat.le_of_ble_eq_true rfl, Nat.le_of_ble_eq_true rfl⟩), htg _ k398, htg _ k399⟩ ⟨(q_pre [.ref t0] hPc hDc hK hS hT hFc).1, va_recv hK hP (ci := 6) (q0 := 0) rfl rfl, (q_pre [.ref t0] hPc hDc hK hS hT hFc).2⟩ rfl rfl hl.1 rfl (lv_room (Nat.le_of_ble_eq_true rfl)) dX5_prepare_62 ⟨Nat.le_of_ble_eq_true rfl, Nat.le_of_ble_eq_true rfl⟩) hP hD hS hFc [0] [] rfl rfl (by decide) (by decide) (fun r9 u9 H locs hw hP hD hS => ?_)
                  try dsimp only at hw
                  rcases hw with ⟨rfl, rfl⟩
                  have hP : va_P g.1 CLS [(t0, .inr (6, [.ref th, .ref ts, .ref tg, .ref td, .int 0, .ref tr, .int (-1), .int 0, .int 0, .int 0, .long 0, .int 0, .int 0]))] H := hP
                  have hD : va_D A [(t0, .inr (6, [.ref th, .ref ts, .ref tg, .ref td, .int 0, .ref tr, .int (-1), .int 0, .int 0, .int 0, .long 0, .int 0, .int 0]))] := hD
                  refine W.widen (k := 0) (n := 0) (Nat.le_of_ble_eq_true rfl) (Nat.le_of_ble_eq_true rfl) ?_
                  refine lv_if_ne (tgt := 71) hx hb dX5_prepare_65 (by decide) (fun c_51 => absurd (by decide) c_51) (fun c_51 => ?_)
                  refine lv_ldc (own := "HeroTable$Table") (index := 88) (v := (-1000003)) hx hb hown (htg _ k401) dX5_prepare_68 ?_
                  have hP9 := hP.sub (ws' := [(t0, .inr (6, [.ref th, .ref ts, .ref tg, .ref td, .int 0, .ref tr, .int (-1), .int 0, .int 0, .int 0, .long 0, .int 0, .int 0]))]) [0] rfl
                  have hD9 := hD.sub (ws' := [(t0, .inr (6, [.ref th, .ref ts, .ref tg, .ref td, .int 0, .ref tr, .int (-1), .int 0, .int 0, .int 0, .long 0, .int 0, .int 0]))]) [0] (by decide) rfl
                  refine W.widen (k := 0) (n := 0) (Nat.le_of_ble_eq_true rfl) (Nat.le_of_ble_eq_true rfl) ?_
                  exact W.iret (v := (-1000003)) hx hb hr (fun t ht hW => ⟨⟨(-1000003), [(t0, .inr (6, [.ref th, .ref ts, .ref tg, .ref td, .int 0, .ref tr, .int (-1), .int 0, .int 0, .int 0, .long 0, .int 0, .int 0]))], rfl, Or.inl ⟨by simp only [okRdy]; simp only [fa_lt, fa_le, fa_eq, li0, li1, li5, li7, li8, li9, li20, li30, li40, li50, li97, li99, li103, li109, li115, li120, li255, lin1, lin20] at c_1 c_24 c_27 c_30 c_40 c_43 c_45 c_48 ⊢; omega, rfl, rfl⟩, by rw [ht]; exact hP9, va_K.moved hW.alike hK, hD9⟩, hS.F ht⟩) hS.2.2 dX5_prepare_70

set_option maxHeartbeats 4000000 in
set_option maxRecDepth 100000 in
theorem c_X5_castSpell (l : Launch) (hfl : l.stackTraces = false) (g : GP) (t0 : Nat) (th : Nat) (ts : Nat) (tg : Nat) (td : Nat) (tr : Nat) (n1 : Int32) (n2 : Int32) (n3 : Int32)  : CI l yX5_castSpell (wG yX5_castSpell cX5_castSpell 7 (Option.some Jvm.ClassFile.FieldType.int)) (LV 5 0 0) g [.ref t0, .int n1, .int n2, .int n3] ([(t0, .inr (6, [.ref th, .ref ts, .ref tg, .ref td, .int 0, .ref tr, .int (-1), .int 0, .int 0, .int 0, .long 0, .int 0, .int 0]))]) (fun (r : Int32) (u : va_W) => ((okCast n1 n2 n3) ∧ r = (-1000003) ∧ u = [(t0, .inr (6, [.ref th, .ref ts, .ref tg, .ref td, .int 0, .ref tr, .int (-1), .int 0, .int 0, .int 0, .long 0, .int 0, .int 0]))]) ∨ ((¬ okCast n1 n2 n3) ∧ r = (-1000002) ∧ u = [(t0, .inr (6, [.ref th, .ref ts, .ref tg, .ref td, .int 0, .ref tr, .int (-1), .int 0, .int 0, .int 0, .long 0, .int 0, .int 0]))])) := by
  intro sz
  refine Met.ofW (cc := cX5_castSpell) (maxL := 7) (ret := (Option.some Jvm.ClassFile.FieldType.int)) (by decide) rfl ?_
  intro p e s m args below meth c s₁ B hml hv
  obtain ⟨rfl, hsz, hP, hK, hD0, hT0⟩ := hv
  have hx := B.exec
  have hb := B.bytes
  have hr := B.returns
  have hts := atoms_spec (ws := (wG yX5_castSpell cX5_castSpell 7 (Option.some Jvm.ClassFile.FieldType.int))) B.pre
  have htg : ∀ w ∈ G9, w.before _ s = true := fun w h => hts w (List.mem_cons_of_mem _ h)
  have hown : s.vm.findClass "HeroTable$Table" = some m.cls := findClass_of_methodNamed B.named
  have hlocks := B.notSynchronized
  subst hsz
  have hD := hD0.self (sz := s.heap.size)
  have hT := hT0
  clear hT0
  generalize hAe : va_A [(t0, .inr (6, [.ref th, .ref ts, .ref tg, .ref td, .int 0, .ref tr, .int (-1), .int 0, .int 0, .int 0, .long 0, .int 0, .int 0]))] s.heap.size = A at hD hT ⊢
  have hA : ∀ q : Nat, s.heap.size ≤ q → A q := fun q h => by rw [← hAe]; exact Or.inr h
  obtain ⟨H, hH0⟩ : ∃ H, H = s.heap := ⟨_, rfl⟩
  have hS : va_S A s.heap H [] := by rw [hH0]; exact va_S.rf
  have hP : va_P g.1 CLS [(t0, .inr (6, [.ref th, .ref ts, .ref tg, .ref td, .int 0, .ref tr, .int (-1), .int 0, .int 0, .int 0, .long 0, .int 0, .int 0]))] H := by rw [hH0]; exact hP
  rw [← hH0]
  have hl := lv_entry ([.ref t0, .int n1, .int n2, .int n3]) (n := 7) (Nat.le_of_ble_eq_true rfl)
  rw [lg_entry_eq]
  generalize (lg_sl ([.ref t0, .int n1, .int n2, .int n3]) ++ List.replicate (7 - (lg_sl ([.ref t0, .int n1, .int n2, .int n3])).length) Slot.unset).toArray = ls at hl ⊢
  have hl : lv_has ls 7 [(0, .ref t0), (1, .int n1), (2, .int n2), (3, .int n3)] := hl
  refine lv_iload_n hx hb dX5_castSpell_0 rfl (lv_at hl 1 rfl) ?_
  refine lv_bipush (v := 115) hx hb dX5_castSpell_1 (by decide) ?_
  refine lv_icmp_eq (tgt := 10) hx hb dX5_castSpell_3 (by decide) (fun c_1 => ?_) (fun c_1 => ?_)
  · refine lv_iconst (v := 0) hx hb dX5_castSpell_10 (by decide) ?_
    refine lv_istore (lv' := [(4, .int 0), (0, .ref t0), (1, .int n1), (2, .int n2), (3, .int n3)]) hx hb dX5_castSpell_11 hl (by decide) rfl (fun ls hl => ?_)
    refine q_ldcSW hx hb hown (hT.2.1 _ (List.mem_of_getElem? (i := 1) rfl)) dX5_castSpell_13 ?_
    refine lv_iload_n hx hb dX5_castSpell_16 rfl (lv_at hl 2 rfl) ?_
    have hPc := hP.sub (ws' := []) [] rfl
    have hDc := hD.sub (ws' := []) [] (by decide) rfl
    have hFc := va_free (wc := []) hD hS hA [] rfl
    refine q_ci (wr := [(t0, .inr (6, [.ref th, .ref ts, .ref tg, .ref td, .int 0, .ref tr, .int (-1), .int 0, .int 0, .int 0, .long 0, .int 0, .int 0]))]) (va_runV (As := [.int n1]) (rest := []) ⟨hx, hb, hml, hown, htg⟩ (c_J0_indexOf_1 l hfl g n1  H.size) ⟨(qB htg k428 k77 k425 ok_J0_indexOf_0f7a4 rfl rfl ⟨Nat.le_of_ble_eq_true rfl, Nat.le_of_ble_eq_true rfl⟩), htg _ k426, htg _ k427⟩ ⟨(q_pre [.ref (g.2.2 11), .int n1] hPc hDc hK hS hT hFc).1, q_recvS hT hS (i := 1) (by decide), (q_pre [.ref (g.2.2 11), .int n1] hPc hDc hK hS hT hFc).2⟩ rfl rfl hl.1 rfl (lv_room (Nat.le_of_ble_eq_true rfl)) dX5_castSpell_17 ⟨Nat.le_of_ble_eq_true rfl, Nat.le_of_ble_eq_true rfl⟩) hP hD hS hFc [] [0] rfl rfl (by decide) (by decide) (fun r9 u9 H locs hw hP hD hS => ?_)
    try dsimp only at hw
    rcases hw with ⟨c_2, rfl, rfl⟩ | ⟨c_3, rfl, rfl⟩
    · have hP : va_P g.1 CLS [(t0, .inr (6, [.ref th, .ref ts, .ref tg, .ref td, .int 0, .ref tr, .int (-1), .int 0, .int 0, .int 0, .long 0, .int 0, .int 0]))] H := hP
      have hD : va_D A [(t0, .inr (6, [.ref th, .ref ts, .ref tg, .ref td, .int 0, .ref tr, .int (-1), .int 0, .int 0, .int 0, .long 0, .int 0, .int 0]))] := hD
      refine W.widen (k := 0) (n := 0) (Nat.le_of_ble_eq_true rfl) (Nat.le_of_ble_eq_true rfl) ?_
      refine lv_if_lt (tgt := 36) hx hb dX5_castSpell_20 (by decide) (fun c_4 => ?_) (fun c_4 => ?_)
      · refine lv_ldc (own := "HeroTable$Table") (index := 83) (v := (-1000002)) hx hb hown (htg _ k396) dX5_castSpell_36 ?_
        have hP9 := hP.sub (ws' := [(t0, .inr (6, [.ref th, .ref ts, .ref tg, .ref td, .int 0, .ref tr, .int (-1), .int 0, .int 0, .int 0, .long 0, .int 0, .int 0]))]) [0] rfl
        have hD9 := hD.sub (ws' := [(t0, .inr (6, [.ref th, .ref ts, .ref tg, .ref td, .int 0, .ref tr, .int (-1), .int 0, .int 0, .int 0, .long 0, .int 0, .int 0]))]) [0] (by decide) rfl
        refine W.widen (k := 0) (n := 0) (Nat.le_of_ble_eq_true rfl) (Nat.le_of_ble_eq_true rfl) ?_
        exact W.iret (v := (-1000002)) hx hb hr (fun t ht hW => ⟨⟨(-1000002), [(t0, .inr (6, [.ref th, .ref ts, .ref tg, .ref td, .int 0, .ref tr, .int (-1), .int 0, .int 0, .int 0, .long 0, .int 0, .int 0]))], rfl, Or.inr (⟨fun hh => absurd c_4 hh.1.2, rfl, rfl⟩), by rw [ht]; exact hP9, va_K.moved hW.alike hK, hD9⟩, hS.F ht⟩) hS.2.2 dX5_castSpell_38
      · refine lv_iload hx hb dX5_castSpell_23 (lv_at hl 0 rfl) ?_
        refine lv_if_eq (tgt := 39) hx hb dX5_castSpell_25 (by decide) (fun c_5 => ?_) (fun c_5 => absurd (by decide) c_5)
        refine lv_aload_n hx hb dX5_castSpell_39 rfl (lv_at hl 1 rfl) ?_
        have hPc := hP.sub (ws' := [(t0, .inr (6, [.ref th, .ref ts, .ref tg, .ref td, .int 0, .ref tr, .int (-1), .int 0, .int 0, .int 0, .long 0, .int 0, .int 0]))]) [0] rfl
        have hDc := hD.sub (ws' := [(t0, .inr (6, [.ref th, .ref ts, .ref tg, .ref td, .int 0, .ref tr, .int (-1), .int 0, .int 0, .int 0, .long 0, .int 0, .int 0]))]) [0] (by decide) rfl
        have hFc := va_free (wc := [(t0, .inr (6, [.ref th, .ref ts, .ref tg, .ref td, .int 0, .ref tr, .int (-1), .int 0, .int 0, .int 0, .long 0, .int 0, .int 0]))]) hD hS hA [0] rfl
        refine q_ci (wr := []) (va_runV (As := []) (rest := []) ⟨hx, hb, hml, hown, htg⟩ (c_X5_isTurnOn l hfl g t0 th ts tg td tr  H.size) ⟨(qB htg k400 k51 k397 ok_X5_isTurnOn rfl rfl ⟨Nat.le_of_ble_eq_true rfl, Nat.le_of_ble_eq_true rfl⟩), htg _ k398, htg _ k399⟩ ⟨(q_pre [.ref t0] hPc hDc hK hS hT hFc).1, va_recv hK hP (ci := 6) (q0 := 0) rfl rfl, (q_pre [.ref t0] hPc hDc hK hS hT hFc).2⟩ rfl rfl hl.1 rfl (lv_room (Nat.le_of_ble_eq_true rfl)) dX5_castSpell_40 ⟨Nat.le_of_ble_eq_true rfl, Nat.le_of_ble_eq_true rfl⟩) hP hD hS hFc [0] [] rfl rfl (by decide) (by decide) (fun r9 u9 H locs hw hP hD hS => ?_)
        try dsimp only at hw
        rcases hw with ⟨rfl, rfl⟩
        have hP : va_P g.1 CLS [(t0, .inr (6, [.ref th, .ref ts, .ref tg, .ref td, .int 0, .ref tr, .int (-1), .int 0, .int 0, .int 0, .long 0, .int 0, .int 0]))] H := hP
        have hD : va_D A [(t0, .inr (6, [.ref th, .ref ts, .ref tg, .ref td, .int 0, .ref tr, .int (-1), .int 0, .int 0, .int 0, .long 0, .int 0, .int 0]))] := hD
        refine W.widen (k := 0) (n := 0) (Nat.le_of_ble_eq_true rfl) (Nat.le_of_ble_eq_true rfl) ?_
        refine lv_if_ne (tgt := 49) hx hb dX5_castSpell_43 (by decide) (fun c_6 => absurd (by decide) c_6) (fun c_6 => ?_)
        refine lv_ldc (own := "HeroTable$Table") (index := 88) (v := (-1000003)) hx hb hown (htg _ k401) dX5_castSpell_46 ?_
        have hP9 := hP.sub (ws' := [(t0, .inr (6, [.ref th, .ref ts, .ref tg, .ref td, .int 0, .ref tr, .int (-1), .int 0, .int 0, .int 0, .long 0, .int 0, .int 0]))]) [0] rfl
        have hD9 := hD.sub (ws' := [(t0, .inr (6, [.ref th, .ref ts, .ref tg, .ref td, .int 0, .ref tr, .int (-1), .int 0, .int 0, .int 0, .long 0, .int 0, .int 0]))]) [0] (by decide) rfl
        refine W.widen (k := 0) (n := 0) (Nat.le_of_ble_eq_true rfl) (Nat.le_of_ble_eq_true rfl) ?_
        exact W.iret (v := (-1000003)) hx hb hr (fun t ht hW => ⟨⟨(-1000003), [(t0, .inr (6, [.ref th, .ref ts, .ref tg, .ref td, .int 0, .ref tr, .int (-1), .int 0, .int 0, .int 0, .long 0, .int 0, .int 0]))], rfl, Or.inl ⟨⟨⟨c_2, c_4⟩, Or.inl c_1⟩, rfl, rfl⟩, by rw [ht]; exact hP9, va_K.moved hW.alike hK, hD9⟩, hS.F ht⟩) hS.2.2 dX5_castSpell_48
    · have hP : va_P g.1 CLS [(t0, .inr (6, [.ref th, .ref ts, .ref tg, .ref td, .int 0, .ref tr, .int (-1), .int 0, .int 0, .int 0, .long 0, .int 0, .int 0]))] H := hP
      have hD : va_D A [(t0, .inr (6, [.ref th, .ref ts, .ref tg, .ref td, .int 0, .ref tr, .int (-1), .int 0, .int 0, .int 0, .long 0, .int 0, .int 0]))] := hD
      refine W.widen (k := 0) (n := 0) (Nat.le_of_ble_eq_true rfl) (Nat.le_of_ble_eq_true rfl) ?_
      refine lv_if_lt (tgt := 36) hx hb dX5_castSpell_20 (by decide) (fun c_7 => ?_) (fun c_7 => absurd (by decide) c_7)
      refine lv_ldc (own := "HeroTable$Table") (index := 83) (v := (-1000002)) hx hb hown (htg _ k396) dX5_castSpell_36 ?_
      have hP9 := hP.sub (ws' := [(t0, .inr (6, [.ref th, .ref ts, .ref tg, .ref td, .int 0, .ref tr, .int (-1), .int 0, .int 0, .int 0, .long 0, .int 0, .int 0]))]) [0] rfl
      have hD9 := hD.sub (ws' := [(t0, .inr (6, [.ref th, .ref ts, .ref tg, .ref td, .int 0, .ref tr, .int (-1), .int 0, .int 0, .int 0, .long 0, .int 0, .int 0]))]) [0] (by decide) rfl
      refine W.widen (k := 0) (n := 0) (Nat.le_of_ble_eq_true rfl) (Nat.le_of_ble_eq_true rfl) ?_
      exact W.iret (v := (-1000002)) hx hb hr (fun t ht hW => ⟨⟨(-1000002), [(t0, .inr (6, [.ref th, .ref ts, .ref tg, .ref td, .int 0, .ref tr, .int (-1), .int 0, .int 0, .int 0, .long 0, .int 0, .int 0]))], rfl, Or.inr (⟨fun hh => absurd hh.1.1 c_3, rfl, rfl⟩), by rw [ht]; exact hP9, va_K.moved hW.alike hK, hD9⟩, hS.F ht⟩) hS.2.2 dX5_castSpell_38
  · refine lv_iconst (v := 1) hx hb dX5_castSpell_6 (by decide) ?_
    refine lv_goto (tgt := 11) hx hb dX5_castSpell_7 (by decide) ?_
    refine lv_istore (lv' := [(4, .int 1), (0, .ref t0), (1, .int n1), (2, .int n2), (3, .int n3)]) hx hb dX5_castSpell_11 hl (by decide) rfl (fun ls hl => ?_)
    refine q_ldcSW hx hb hown (hT.2.1 _ (List.mem_of_getElem? (i := 1) rfl)) dX5_castSpell_13 ?_
    refine lv_iload_n hx hb dX5_castSpell_16 rfl (lv_at hl 2 rfl) ?_
    have hPc := hP.sub (ws' := []) [] rfl
    have hDc := hD.sub (ws' := []) [] (by decide) rfl
    have hFc := va_free (wc := []) hD hS hA [] rfl
    refine q_ci (wr := [(t0, .inr (6, [.ref th, .ref ts, .ref tg, .ref td, .int 0, .ref tr, .int (-1), .int 0, .int 0, .int 0, .long 0, .int 0, .int 0]))]) (va_runV (As := [.int n1]) (rest := []) ⟨hx, hb, hml, hown, htg⟩ (c_J0_indexOf_1 l hfl g n1  H.size) ⟨(qB htg k428 k77 k425 ok_J0_indexOf_0f7a4 rfl rfl ⟨Nat.le_of_ble_eq_true rfl, Nat.le_of_ble_eq_true rfl⟩), htg _ k426, htg _ k427⟩ ⟨(q_pre [.ref (g.2.2 11), .int n1] hPc hDc hK hS hT hFc).1, q_recvS hT hS (i := 1) (by decide), (q_pre [.ref (g.2.2 11), .int n1] hPc hDc hK hS hT hFc).2⟩ rfl rfl hl.1 rfl (lv_room (Nat.le_of_ble_eq_true rfl)) dX5_castSpell_17 ⟨Nat.le_of_ble_eq_true rfl, Nat.le_of_ble_eq_true rfl⟩) hP hD hS hFc [] [0] rfl rfl (by decide) (by decide) (fun r9 u9 H locs hw hP hD hS => ?_)
    try dsimp only at hw
    rcases hw with ⟨c_8, rfl, rfl⟩ | ⟨c_9, rfl, rfl⟩
    · have hP : va_P g.1 CLS [(t0, .inr (6, [.ref th, .ref ts, .ref tg, .ref td, .int 0, .ref tr, .int (-1), .int 0, .int 0, .int 0, .long 0, .int 0, .int 0]))] H := hP
      have hD : va_D A [(t0, .inr (6, [.ref th, .ref ts, .ref tg, .ref td, .int 0, .ref tr, .int (-1), .int 0, .int 0, .int 0, .long 0, .int 0, .int 0]))] := hD
      refine W.widen (k := 0) (n := 0) (Nat.le_of_ble_eq_true rfl) (Nat.le_of_ble_eq_true rfl) ?_
      refine lv_if_lt (tgt := 36) hx hb dX5_castSpell_20 (by decide) (fun c_10 => ?_) (fun c_10 => ?_)
      · refine lv_ldc (own := "HeroTable$Table") (index := 83) (v := (-1000002)) hx hb hown (htg _ k396) dX5_castSpell_36 ?_
        have hP9 := hP.sub (ws' := [(t0, .inr (6, [.ref th, .ref ts, .ref tg, .ref td, .int 0, .ref tr, .int (-1), .int 0, .int 0, .int 0, .long 0, .int 0, .int 0]))]) [0] rfl
        have hD9 := hD.sub (ws' := [(t0, .inr (6, [.ref th, .ref ts, .ref tg, .ref td, .int 0, .ref tr, .int (-1), .int 0, .int 0, .int 0, .long 0, .int 0, .int 0]))]) [0] (by decide) rfl
        refine W.widen (k := 0) (n := 0) (Nat.le_of_ble_eq_true rfl) (Nat.le_of_ble_eq_true rfl) ?_
        exact W.iret (v := (-1000002)) hx hb hr (fun t ht hW => ⟨⟨(-1000002), [(t0, .inr (6, [.ref th, .ref ts, .ref tg, .ref td, .int 0, .ref tr, .int (-1), .int 0, .int 0, .int 0, .long 0, .int 0, .int 0]))], rfl, Or.inr (⟨fun hh => absurd c_10 hh.1.2, rfl, rfl⟩), by rw [ht]; exact hP9, va_K.moved hW.alike hK, hD9⟩, hS.F ht⟩) hS.2.2 dX5_castSpell_38
      · refine lv_iload hx hb dX5_castSpell_23 (lv_at hl 0 rfl) ?_
        refine lv_if_eq (tgt := 39) hx hb dX5_castSpell_25 (by decide) (fun c_11 => absurd c_11 (by decide)) (fun c_11 => ?_)
        refine lv_iload_n hx hb dX5_castSpell_28 rfl (lv_at hl 3 rfl) ?_
        refine lv_iload_n hx hb dX5_castSpell_29 rfl (lv_at hl 4 rfl) ?_
        have hPc := hP.sub (ws' := []) [] rfl
        have hDc := hD.sub (ws' := []) [] (by decide) rfl
        have hFc := va_free (wc := []) hD hS hA [] rfl
        refine q_ci (wr := [(t0, .inr (6, [.ref th, .ref ts, .ref tg, .ref td, .int 0, .ref tr, .int (-1), .int 0, .int 0, .int 0, .long 0, .int 0, .int 0]))]) (va_runS (As := [.int n2, .int n3]) (rest := []) ⟨hx, hb, hml, hown, htg⟩ (c_X1_isCell l hfl g n2 n3  H.size) ⟨(qB htg k395 k53 k393 ok_X1_isCell rfl rfl ⟨Nat.le_of_ble_eq_true rfl, Nat.le_of_ble_eq_true rfl⟩), htg _ k394⟩ (q_pre [.int n2, .int n3] hPc hDc hK hS hT hFc) rfl rfl hl.1 rfl (lv_room (Nat.le_of_ble_eq_true rfl)) dX5_castSpell_30 ⟨Nat.le_of_ble_eq_true rfl, Nat.le_of_ble_eq_true rfl⟩) hP hD hS hFc [] [0] rfl rfl (by decide) (by decide) (fun r9 u9 H locs hw hP hD hS => ?_)
        try dsimp only at hw
        rcases hw with ⟨c_12, rfl, rfl⟩ | ⟨c_13, rfl, rfl⟩
        · have hP : va_P g.1 CLS [(t0, .inr (6, [.ref th, .ref ts, .ref tg, .ref td, .int 0, .ref tr, .int (-1), .int 0, .int 0, .int 0, .long 0, .int 0, .int 0]))] H := hP
          have hD : va_D A [(t0, .inr (6, [.ref th, .ref ts, .ref tg, .ref td, .int 0, .ref tr, .int (-1), .int 0, .int 0, .int 0, .long 0, .int 0, .int 0]))] := hD
          refine W.widen (k := 0) (n := 0) (Nat.le_of_ble_eq_true rfl) (Nat.le_of_ble_eq_true rfl) ?_
          refine lv_if_ne (tgt := 39) hx hb dX5_castSpell_33 (by decide) (fun c_14 => ?_) (fun c_14 => absurd c_14 (by decide))
          refine lv_aload_n hx hb dX5_castSpell_39 rfl (lv_at hl 1 rfl) ?_
          have hPc := hP.sub (ws' := [(t0, .inr (6, [.ref th, .ref ts, .ref tg, .ref td, .int 0, .ref tr, .int (-1), .int 0, .int 0, .int 0, .long 0, .int 0, .int 0]))]) [0] rfl
          have hDc := hD.sub (ws' := [(t0, .inr (6, [.ref th, .ref ts, .ref tg, .ref td, .int 0, .ref tr, .int (-1), .int 0, .int 0, .int 0, .long 0, .int 0, .int 0]))]) [0] (by decide) rfl
          have hFc := va_free (wc := [(t0, .inr (6, [.ref th, .ref ts, .ref tg, .ref td, .int 0, .ref tr, .int (-1), .int 0, .int 0, .int 0, .long 0, .int 0, .int 0]))]) hD hS hA [0] rfl
          refine q_ci (wr := []) (va_runV (As := []) (rest := []) ⟨hx, hb, hml, hown, htg⟩ (c_X5_isTurnOn l hfl g t0 th ts tg td tr  H.size) ⟨(qB htg k400 k51 k397 ok_X5_isTurnOn rfl rfl ⟨Nat.le_of_ble_eq_true rfl, Nat.le_of_ble_eq_true rfl⟩), htg _ k398, htg _ k399⟩ ⟨(q_pre [.ref t0] hPc hDc hK hS hT hFc).1, va_recv hK hP (ci := 6) (q0 := 0) rfl rfl, (q_pre [.ref t0] hPc hDc hK hS hT hFc).2⟩ rfl rfl hl.1 rfl (lv_room (Nat.le_of_ble_eq_true rfl)) dX5_castSpell_40 ⟨Nat.le_of_ble_eq_true rfl, Nat.le_of_ble_eq_true rfl⟩) hP hD hS hFc [0] [] rfl rfl (by decide) (by decide) (fun r9 u9 H locs hw hP hD hS => ?_)
          try dsimp only at hw
          rcases hw with ⟨rfl, rfl⟩
          have hP : va_P g.1 CLS [(t0, .inr (6, [.ref th, .ref ts, .ref tg, .ref td, .int 0, .ref tr, .int (-1), .int 0, .int 0, .int 0, .long 0, .int 0, .int 0]))] H := hP
          have hD : va_D A [(t0, .inr (6, [.ref th, .ref ts, .ref tg, .ref td, .int 0, .ref tr, .int (-1), .int 0, .int 0, .int 0, .long 0, .int 0, .int 0]))] := hD
          refine W.widen (k := 0) (n := 0) (Nat.le_of_ble_eq_true rfl) (Nat.le_of_ble_eq_true rfl) ?_
          refine lv_if_ne (tgt := 49) hx hb dX5_castSpell_43 (by decide) (fun c_15 => absurd (by decide) c_15) (fun c_15 => ?_)
          refine lv_ldc (own := "HeroTable$Table") (index := 88) (v := (-1000003)) hx hb hown (htg _ k401) dX5_castSpell_46 ?_
          have hP9 := hP.sub (ws' := [(t0, .inr (6, [.ref th, .ref ts, .ref tg, .ref td, .int 0, .ref tr, .int (-1), .int 0, .int 0, .int 0, .long 0, .int 0, .int 0]))]) [0] rfl
          have hD9 := hD.sub (ws' := [(t0, .inr (6, [.ref th, .ref ts, .ref tg, .ref td, .int 0, .ref tr, .int (-1), .int 0, .int 0, .int 0, .long 0, .int 0, .int 0]))]) [0] (by decide) rfl
          refine W.widen (k := 0) (n := 0) (Nat.le_of_ble_eq_true rfl) (Nat.le_of_ble_eq_true rfl) ?_
          exact W.iret (v := (-1000003)) hx hb hr (fun t ht hW => ⟨⟨(-1000003), [(t0, .inr (6, [.ref th, .ref ts, .ref tg, .ref td, .int 0, .ref tr, .int (-1), .int 0, .int 0, .int 0, .long 0, .int 0, .int 0]))], rfl, Or.inl ⟨⟨⟨c_8, c_10⟩, Or.inr c_12⟩, rfl, rfl⟩, by rw [ht]; exact hP9, va_K.moved hW.alike hK, hD9⟩, hS.F ht⟩) hS.2.2 dX5_castSpell_48
        · have hP : va_P g.1 CLS [(t0, .inr (6, [.ref th, .ref ts, .ref tg, .ref td, .int 0, .ref tr, .int (-1), .int 0, .int 0, .int 0, .long 0, .int 0, .int 0]))] H := hP
          have hD : va_D A [(t0, .inr (6, [.ref th, .ref ts, .ref tg, .ref td, .int 0, .ref tr, .int (-1), .int 0, .int 0, .int 0, .long 0, .int 0, .int 0]))] := hD
          refine W.widen (k := 0) (n := 0) (Nat.le_of_ble_eq_true rfl) (Nat.le_of_ble_eq_true rfl) ?_
          refine lv_if_ne (tgt := 39) hx hb dX5_castSpell_33 (by decide) (fun c_16 => absurd (by decide) c_16) (fun c_16 => ?_)
          refine lv_ldc (own := "HeroTable$Table") (index := 83) (v := (-1000002)) hx hb hown (htg _ k396) dX5_castSpell_36 ?_
          have hP9 := hP.sub (ws' := [(t0, .inr (6, [.ref th, .ref ts, .ref tg, .ref td, .int 0, .ref tr, .int (-1), .int 0, .int 0, .int 0, .long 0, .int 0, .int 0]))]) [0] rfl
          have hD9 := hD.sub (ws' := [(t0, .inr (6, [.ref th, .ref ts, .ref tg, .ref td, .int 0, .ref tr, .int (-1), .int 0, .int 0, .int 0, .long 0, .int 0, .int 0]))]) [0] (by decide) rfl
          refine W.widen (k := 0) (n := 0) (Nat.le_of_ble_eq_true rfl) (Nat.le_of_ble_eq_true rfl) ?_
          exact W.iret (v := (-1000002)) hx hb hr (fun t ht hW => ⟨⟨(-1000002), [(t0, .inr (6, [.ref th, .ref ts, .ref tg, .ref td, .int 0, .ref tr, .int (-1), .int 0, .int 0, .int 0, .long 0, .int 0, .int 0]))], rfl, Or.inr (⟨fun hh => hh.2.elim (fun e => absurd e c_1) (fun e => absurd e c_13), rfl, rfl⟩), by rw [ht]; exact hP9, va_K.moved hW.alike hK, hD9⟩, hS.F ht⟩) hS.2.2 dX5_castSpell_38
    · have hP : va_P g.1 CLS [(t0, .inr (6, [.ref th, .ref ts, .ref tg, .ref td, .int 0, .ref tr, .int (-1), .int 0, .int 0, .int 0, .long 0, .int 0, .int 0]))] H := hP
      have hD : va_D A [(t0, .inr (6, [.ref th, .ref ts, .ref tg, .ref td, .int 0, .ref tr, .int (-1), .int 0, .int 0, .int 0, .long 0, .int 0, .int 0]))] := hD
      refine W.widen (k := 0) (n := 0) (Nat.le_of_ble_eq_true rfl) (Nat.le_of_ble_eq_true rfl) ?_
      refine lv_if_lt (tgt := 36) hx hb dX5_castSpell_20 (by decide) (fun c_17 => ?_) (fun c_17 => absurd (by decide) c_17)
      refine lv_ldc (own := "HeroTable$Table") (index := 83) (v := (-1000002)) hx hb hown (htg _ k396) dX5_castSpell_36 ?_
      have hP9 := hP.sub (ws' := [(t0, .inr (6, [.ref th, .ref ts, .ref tg, .ref td, .int 0, .ref tr, .int (-1), .int 0, .int 0, .int 0, .long 0, .int 0, .int 0]))]) [0] rfl
      have hD9 := hD.sub (ws' := [(t0, .inr (6, [.ref th, .ref ts, .ref tg, .ref td, .int 0, .ref tr, .int (-1), .int 0, .int 0, .int 0, .long 0, .int 0, .int 0]))]) [0] (by decide) rfl
      refine W.widen (k := 0) (n := 0) (Nat.le_of_ble_eq_true rfl) (Nat.le_of_ble_eq_true rfl) ?_
      exact W.iret (v := (-1000002)) hx hb hr (fun t ht hW => ⟨⟨(-1000002), [(t0, .inr (6, [.ref th, .ref ts, .ref tg, .ref td, .int 0, .ref tr, .int (-1), .int 0, .int 0, .int 0, .long 0, .int 0, .int 0]))], rfl, Or.inr (⟨fun hh => absurd hh.1.1 c_9, rfl, rfl⟩), by rw [ht]; exact hP9, va_K.moved hW.alike hK, hD9⟩, hS.F ht⟩) hS.2.2 dX5_castSpell_38

set_option maxHeartbeats 4000000 in
set_option maxRecDepth 100000 in
theorem c_X5_areNumbersSound (l : Launch) (hfl : l.stackTraces = false) (g : GP) (t0 : Nat) (th : Nat) (ts : Nat) (tg : Nat) (td : Nat) (tr : Nat)  : CI l yX5_areNumbersSound (wG yX5_areNumbersSound cX5_areNumbersSound 3 (Option.some Jvm.ClassFile.FieldType.boolean)) (LV 1 0 0) g [.ref t0] ([(t0, .inr (6, [.ref th, .ref ts, .ref tg, .ref td, .int 0, .ref tr, .int (-1), .int 0, .int 0, .int 0, .long 0, .int 0, .int 0]))]) (fun (r : Int32) (u : va_W) => r = 1 ∧ u = [(t0, .inr (6, [.ref th, .ref ts, .ref tg, .ref td, .int 0, .ref tr, .int (-1), .int 0, .int 0, .int 0, .long 0, .int 0, .int 0]))]) := by
  intro sz
  refine Met.ofW (cc := cX5_areNumbersSound) (maxL := 3) (ret := (Option.some Jvm.ClassFile.FieldType.boolean)) (by decide) rfl ?_
  intro p e s m args below meth c s₁ B hml hv
  obtain ⟨rfl, hsz, hP, hK, hD0, hT0⟩ := hv
  have hx := B.exec
  have hb := B.bytes
  have hr := B.returns
  have hts := atoms_spec (ws := (wG yX5_areNumbersSound cX5_areNumbersSound 3 (Option.some Jvm.ClassFile.FieldType.boolean))) B.pre
  have htg : ∀ w ∈ G9, w.before _ s = true := fun w h => hts w (List.mem_cons_of_mem _ h)
  have hown : s.vm.findClass "HeroTable$Table" = some m.cls := findClass_of_methodNamed B.named
  have hlocks := B.notSynchronized
  subst hsz
  have hD := hD0.self (sz := s.heap.size)
  have hT := hT0
  clear hT0
  generalize hAe : va_A [(t0, .inr (6, [.ref th, .ref ts, .ref tg, .ref td, .int 0, .ref tr, .int (-1), .int 0, .int 0, .int 0, .long 0, .int 0, .int 0]))] s.heap.size = A at hD hT ⊢
  have hA : ∀ q : Nat, s.heap.size ≤ q → A q := fun q h => by rw [← hAe]; exact Or.inr h
  obtain ⟨H, hH0⟩ : ∃ H, H = s.heap := ⟨_, rfl⟩
  have hS : va_S A s.heap H [] := by rw [hH0]; exact va_S.rf
  have hP : va_P g.1 CLS [(t0, .inr (6, [.ref th, .ref ts, .ref tg, .ref td, .int 0, .ref tr, .int (-1), .int 0, .int 0, .int 0, .long 0, .int 0, .int 0]))] H := by rw [hH0]; exact hP
  rw [← hH0]
  have hl := lv_entry ([.ref t0]) (n := 3) (Nat.le_of_ble_eq_true rfl)
  rw [lg_entry_eq]
  generalize (lg_sl ([.ref t0]) ++ List.replicate (3 - (lg_sl ([.ref t0])).length) Slot.unset).toArray = ls at hl ⊢
  have hl : lv_has ls 3 [(0, .ref t0)] := hl
  refine lv_iconst (v := 0) hx hb dX5_areNumbersSound_0 (by decide) ?_
  refine lv_istore_n (lv' := [(1, .int 0), (0, .ref t0)]) hx hb dX5_areNumbersSound_1 rfl hl (by decide) rfl (fun ls hl => ?_)
  refine lv_iload_n hx hb dX5_areNumbersSound_2 rfl (lv_at hl 0 rfl) ?_
  refine lv_aload_n hx hb dX5_areNumbersSound_3 rfl (lv_at hl 1 rfl) ?_
  refine va_get (D := g.1) (ci := 6) (v := .int 0) (C := RX5) (T := TX5) (N := 13) hx hb htg inG_X5 hown hK hP 0 rfl rfl 4 (by decide) (htg _ k254) (fun _ h9 => h9) rfl dX5_areNumbersSound_4 ?_
  refine lv_icmp_ge (tgt := 52) hx hb dX5_areNumbersSound_7 (by decide) (fun c_1 => ?_) (fun c_1 => absurd (by decide) c_1)
  refine lv_iconst (v := 1) hx hb dX5_areNumbersSound_52 (by decide) ?_
  have hP9 := hP.sub (ws' := [(t0, .inr (6, [.ref th, .ref ts, .ref tg, .ref td, .int 0, .ref tr, .int (-1), .int 0, .int 0, .int 0, .long 0, .int 0, .int 0]))]) [0] rfl
  have hD9 := hD.sub (ws' := [(t0, .inr (6, [.ref th, .ref ts, .ref tg, .ref td, .int 0, .ref tr, .int (-1), .int 0, .int 0, .int 0, .long 0, .int 0, .int 0]))]) [0] (by decide) rfl
  refine W.widen (k := 0) (n := 0) (Nat.le_of_ble_eq_true rfl) (Nat.le_of_ble_eq_true rfl) ?_
  exact W.zret (v := 1) hx hb hr rfl (fun t ht hW => ⟨⟨1, [(t0, .inr (6, [.ref th, .ref ts, .ref tg, .ref td, .int 0, .ref tr, .int (-1), .int 0, .int 0, .int 0, .long 0, .int 0, .int 0]))], rfl, ⟨rfl, rfl⟩, by rw [ht]; exact hP9, va_K.moved hW.alike hK, hD9⟩, hS.F ht⟩) hS.2.2 dX5_areNumbersSound_53

set_option maxHeartbeats 4000000 in
set_option maxRecDepth 100000 in
theorem c_X5_areCellsSingle (l : Launch) (hfl : l.stackTraces = false) (g : GP) (t0 : Nat) (th : Nat) (ts : Nat) (tg : Nat) (td : Nat) (tr : Nat)  : CI l yX5_areCellsSingle (wG yX5_areCellsSingle cX5_areCellsSingle 2 (Option.some Jvm.ClassFile.FieldType.boolean)) (LV 1 0 0) g [.ref t0] ([(t0, .inr (6, [.ref th, .ref ts, .ref tg, .ref td, .int 0, .ref tr, .int (-1), .int 0, .int 0, .int 0, .long 0, .int 0, .int 0]))]) (fun (r : Int32) (u : va_W) => r = 1 ∧ u = [(t0, .inr (6, [.ref th, .ref ts, .ref tg, .ref td, .int 0, .ref tr, .int (-1), .int 0, .int 0, .int 0, .long 0, .int 0, .int 0]))]) := by
  intro sz
  refine Met.ofW (cc := cX5_areCellsSingle) (maxL := 2) (ret := (Option.some Jvm.ClassFile.FieldType.boolean)) (by decide) rfl ?_
  intro p e s m args below meth c s₁ B hml hv
  obtain ⟨rfl, hsz, hP, hK, hD0, hT0⟩ := hv
  have hx := B.exec
  have hb := B.bytes
  have hr := B.returns
  have hts := atoms_spec (ws := (wG yX5_areCellsSingle cX5_areCellsSingle 2 (Option.some Jvm.ClassFile.FieldType.boolean))) B.pre
  have htg : ∀ w ∈ G9, w.before _ s = true := fun w h => hts w (List.mem_cons_of_mem _ h)
  have hown : s.vm.findClass "HeroTable$Table" = some m.cls := findClass_of_methodNamed B.named
  have hlocks := B.notSynchronized
  subst hsz
  have hD := hD0.self (sz := s.heap.size)
  have hT := hT0
  clear hT0
  generalize hAe : va_A [(t0, .inr (6, [.ref th, .ref ts, .ref tg, .ref td, .int 0, .ref tr, .int (-1), .int 0, .int 0, .int 0, .long 0, .int 0, .int 0]))] s.heap.size = A at hD hT ⊢
  have hA : ∀ q : Nat, s.heap.size ≤ q → A q := fun q h => by rw [← hAe]; exact Or.inr h
  obtain ⟨H, hH0⟩ : ∃ H, H = s.heap := ⟨_, rfl⟩
  have hS : va_S A s.heap H [] := by rw [hH0]; exact va_S.rf
  have hP : va_P g.1 CLS [(t0, .inr (6, [.ref th, .ref ts, .ref tg, .ref td, .int 0, .ref tr, .int (-1), .int 0, .int 0, .int 0, .long 0, .int 0, .int 0]))] H := by rw [hH0]; exact hP
  rw [← hH0]
  have hl := lv_entry ([.ref t0]) (n := 2) (Nat.le_of_ble_eq_true rfl)
  rw [lg_entry_eq]
  generalize (lg_sl ([.ref t0]) ++ List.replicate (2 - (lg_sl ([.ref t0])).length) Slot.unset).toArray = ls at hl ⊢
  have hl : lv_has ls 2 [(0, .ref t0)] := hl
  refine lv_iconst (v := 0) hx hb dX5_areCellsSingle_0 (by decide) ?_
  refine lv_istore_n (lv' := [(1, .int 0), (0, .ref t0)]) hx hb dX5_areCellsSingle_1 rfl hl (by decide) rfl (fun ls hl => ?_)
  refine lv_iload_n hx hb dX5_areCellsSingle_2 rfl (lv_at hl 0 rfl) ?_
  refine lv_aload_n hx hb dX5_areCellsSingle_3 rfl (lv_at hl 1 rfl) ?_
  refine va_get (D := g.1) (ci := 6) (v := .int 0) (C := RX5) (T := TX5) (N := 13) hx hb htg inG_X5 hown hK hP 0 rfl rfl 4 (by decide) (htg _ k254) (fun _ h9 => h9) rfl dX5_areCellsSingle_4 ?_
  refine lv_icmp_ge (tgt := 44) hx hb dX5_areCellsSingle_7 (by decide) (fun c_1 => ?_) (fun c_1 => absurd (by decide) c_1)
  refine lv_iconst (v := 1) hx hb dX5_areCellsSingle_44 (by decide) ?_
  have hP9 := hP.sub (ws' := [(t0, .inr (6, [.ref th, .ref ts, .ref tg, .ref td, .int 0, .ref tr, .int (-1), .int 0, .int 0, .int 0, .long 0, .int 0, .int 0]))]) [0] rfl
  have hD9 := hD.sub (ws' := [(t0, .inr (6, [.ref th, .ref ts, .ref tg, .ref td, .int 0, .ref tr, .int (-1), .int 0, .int 0, .int 0, .long 0, .int 0, .int 0]))]) [0] (by decide) rfl
  refine W.widen (k := 0) (n := 0) (Nat.le_of_ble_eq_true rfl) (Nat.le_of_ble_eq_true rfl) ?_
  exact W.zret (v := 1) hx hb hr rfl (fun t ht hW => ⟨⟨1, [(t0, .inr (6, [.ref th, .ref ts, .ref tg, .ref td, .int 0, .ref tr, .int (-1), .int 0, .int 0, .int 0, .long 0, .int 0, .int 0]))], rfl, ⟨rfl, rfl⟩, by rw [ht]; exact hP9, va_K.moved hW.alike hK, hD9⟩, hS.F ht⟩) hS.2.2 dX5_areCellsSingle_45

set_option maxHeartbeats 4000000 in
set_option maxRecDepth 100000 in
theorem c_X5_hasLivesOf (l : Launch) (hfl : l.stackTraces = false) (g : GP) (t0 : Nat) (th : Nat) (ts : Nat) (tg : Nat) (td : Nat) (tr : Nat) (u0 : Nat) (uh : Nat) (us : Nat) (ug : Nat) (ud : Nat) (ur : Nat)  : CI l yX5_hasLivesOf (wG yX5_hasLivesOf cX5_hasLivesOf 3 (Option.some Jvm.ClassFile.FieldType.boolean)) (LV 1 0 0) g [.ref t0, .ref u0] ([(t0, .inr (6, [.ref th, .ref ts, .ref tg, .ref td, .int 0, .ref tr, .int (-1), .int 0, .int 0, .int 0, .long 0, .int 0, .int 0])), (u0, .inr (6, [.ref uh, .ref us, .ref ug, .ref ud, .int 0, .ref ur, .int (-1), .int 0, .int 0, .int 0, .long 0, .int 0, .int 0]))]) (fun (r : Int32) (u : va_W) => r = 1 ∧ u = [(t0, .inr (6, [.ref th, .ref ts, .ref tg, .ref td, .int 0, .ref tr, .int (-1), .int 0, .int 0, .int 0, .long 0, .int 0, .int 0])), (u0, .inr (6, [.ref uh, .ref us, .ref ug, .ref ud, .int 0, .ref ur, .int (-1), .int 0, .int 0, .int 0, .long 0, .int 0, .int 0]))]) := by
  intro sz
  refine Met.ofW (cc := cX5_hasLivesOf) (maxL := 3) (ret := (Option.some Jvm.ClassFile.FieldType.boolean)) (by decide) rfl ?_
  intro p e s m args below meth c s₁ B hml hv
  obtain ⟨rfl, hsz, hP, hK, hD0, hT0⟩ := hv
  have hx := B.exec
  have hb := B.bytes
  have hr := B.returns
  have hts := atoms_spec (ws := (wG yX5_hasLivesOf cX5_hasLivesOf 3 (Option.some Jvm.ClassFile.FieldType.boolean))) B.pre
  have htg : ∀ w ∈ G9, w.before _ s = true := fun w h => hts w (List.mem_cons_of_mem _ h)
  have hown : s.vm.findClass "HeroTable$Table" = some m.cls := findClass_of_methodNamed B.named
  have hlocks := B.notSynchronized
  subst hsz
  have hD := hD0.self (sz := s.heap.size)
  have hT := hT0
  clear hT0
  generalize hAe : va_A [(t0, .inr (6, [.ref th, .ref ts, .ref tg, .ref td, .int 0, .ref tr, .int (-1), .int 0, .int 0, .int 0, .long 0, .int 0, .int 0])), (u0, .inr (6, [.ref uh, .ref us, .ref ug, .ref ud, .int 0, .ref ur, .int (-1), .int 0, .int 0, .int 0, .long 0, .int 0, .int 0]))] s.heap.size = A at hD hT ⊢
  have hA : ∀ q : Nat, s.heap.size ≤ q → A q := fun q h => by rw [← hAe]; exact Or.inr h
  obtain ⟨H, hH0⟩ : ∃ H, H = s.heap := ⟨_, rfl⟩
  have hS : va_S A s.heap H [] := by rw [hH0]; exact va_S.rf
  have hP : va_P g.1 CLS [(t0, .inr (6, [.ref th, .ref ts, .ref tg, .ref td, .int 0, .ref tr, .int (-1), .int 0, .int 0, .int 0, .long 0, .int 0, .int 0])), (u0, .inr (6, [.ref uh, .ref us, .ref ug, .ref ud, .int 0, .ref ur, .int (-1), .int 0, .int 0, .int 0, .long 0, .int 0, .int 0]))] H := by rw [hH0]; exact hP
  rw [← hH0]
  have hl := lv_entry ([.ref t0, .ref u0]) (n := 3) (Nat.le_of_ble_eq_true rfl)
  rw [lg_entry_eq]
  generalize (lg_sl ([.ref t0, .ref u0]) ++ List.replicate (3 - (lg_sl ([.ref t0, .ref u0])).length) Slot.unset).toArray = ls at hl ⊢
  have hl : lv_has ls 3 [(0, .ref t0), (1, .ref u0)] := hl
  refine lv_aload_n hx hb dX5_hasLivesOf_0 rfl (lv_at hl 0 rfl) ?_
  refine va_get (D := g.1) (ci := 6) (v := .int 0) (C := RX5) (T := TX5) (N := 13) hx hb htg inG_X5 hown hK hP 0 rfl rfl 4 (by decide) (htg _ k254) (fun _ h9 => h9) rfl dX5_hasLivesOf_1 ?_
  refine lv_aload_n hx hb dX5_hasLivesOf_4 rfl (lv_at hl 1 rfl) ?_
  refine va_get (D := g.1) (ci := 6) (v := .int 0) (C := RX5) (T := TX5) (N := 13) hx hb htg inG_X5 hown hK hP 1 rfl rfl 4 (by decide) (htg _ k254) (fun _ h9 => h9) rfl dX5_hasLivesOf_5 ?_
  refine lv_icmp_eq (tgt := 13) hx hb dX5_hasLivesOf_8 (by decide) (fun c_1 => ?_) (fun c_1 => absurd (by decide) c_1)
  refine lv_iconst (v := 0) hx hb dX5_hasLivesOf_13 (by decide) ?_
  refine lv_istore_n (lv' := [(2, .int 0), (0, .ref t0), (1, .ref u0)]) hx hb dX5_hasLivesOf_14 rfl hl (by decide) rfl (fun ls hl => ?_)
  refine lv_iload_n hx hb dX5_hasLivesOf_15 rfl (lv_at hl 0 rfl) ?_
  refine lv_aload_n hx hb dX5_hasLivesOf_16 rfl (lv_at hl 1 rfl) ?_
  refine va_get (D := g.1) (ci := 6) (v := .int 0) (C := RX5) (T := TX5) (N := 13) hx hb htg inG_X5 hown hK hP 0 rfl rfl 4 (by decide) (htg _ k254) (fun _ h9 => h9) rfl dX5_hasLivesOf_17 ?_
  refine lv_icmp_ge (tgt := 52) hx hb dX5_hasLivesOf_20 (by decide) (fun c_2 => ?_) (fun c_2 => absurd (by decide) c_2)
  refine lv_iconst (v := 1) hx hb dX5_hasLivesOf_52 (by decide) ?_
  have hP9 := hP.sub (ws' := [(t0, .inr (6, [.ref th, .ref ts, .ref tg, .ref td, .int 0, .ref tr, .int (-1), .int 0, .int 0, .int 0, .long 0, .int 0, .int 0])), (u0, .inr (6, [.ref uh, .ref us, .ref ug, .ref ud, .int 0, .ref ur, .int (-1), .int 0, .int 0, .int 0, .long 0, .int 0, .int 0]))]) [0, 1] rfl
  have hD9 := hD.sub (ws' := [(t0, .inr (6, [.ref th, .ref ts, .ref tg, .ref td, .int 0, .ref tr, .int (-1), .int 0, .int 0, .int 0, .long 0, .int 0, .int 0])), (u0, .inr (6, [.ref uh, .ref us, .ref ug, .ref ud, .int 0, .ref ur, .int (-1), .int 0, .int 0, .int 0, .long 0, .int 0, .int 0]))]) [0, 1] (by decide) rfl
  refine W.widen (k := 0) (n := 0) (Nat.le_of_ble_eq_true rfl) (Nat.le_of_ble_eq_true rfl) ?_
  exact W.zret (v := 1) hx hb hr rfl (fun t ht hW => ⟨⟨1, [(t0, .inr (6, [.ref th, .ref ts, .ref tg, .ref td, .int 0, .ref tr, .int (-1), .int 0, .int 0, .int 0, .long 0, .int 0, .int 0])), (u0, .inr (6, [.ref uh, .ref us, .ref ug, .ref ud, .int 0, .ref ur, .int (-1), .int 0, .int 0, .int 0, .long 0, .int 0, .int 0]))], rfl, ⟨rfl, rfl⟩, by rw [ht]; exact hP9, va_K.moved hW.alike hK, hD9⟩, hS.F ht⟩) hS.2.2 dX5_hasLivesOf_53
