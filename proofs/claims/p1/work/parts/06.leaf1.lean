def okCell (x y : Int32) : Prop := (0 ≤ x.toInt ∧ x.toInt < 8) ∧ (0 ≤ y.toInt ∧ y.toInt < 8)
theorem cellJ {x y a b : Int32} (ho : okCell x y) (ea : a = 8 * y) (eb : b = a + x) : ∃ j : Nat, j < 64 ∧ b = nI j := by
  obtain ⟨⟨h1, h2⟩, h3, h4⟩ := ho
  have hx : x = nI x.toInt.toNat := Int32.toInt_inj.mp (by rw [nI_toInt (by omega)]; omega)
  have hy : y = nI y.toInt.toNat := Int32.toInt_inj.mp (by rw [nI_toInt (by omega)]; omega)
  refine ⟨8 * y.toInt.toNat + x.toInt.toNat, by omega, ?_⟩
  have e8 : (8 : Int32) = nI 8 := rfl
  rw [eb, ea, e8]
  conv => lhs; rw [hx, hy]
  rw [pk_mul, nI_add]
theorem cellIn {x y a b : Int32} (ho : okCell x y) (ea : a = 8 * y) (eb : b = a + x) : vp_in b 64 := by
  obtain ⟨j, hj, e⟩ := cellJ ho ea eb
  rw [e]
  exact vp_in_nI hj (by decide)
theorem cellAt {x y a b : Int32} {f : Nat → Int32} (hf : ∀ j : Nat, j < 64 → f j = 46) (ho : okCell x y) (ea : a = 8 * y) (eb : b = a + x) : f b.toNatClampNeg = 46 := by
  obtain ⟨j, hj, e⟩ := cellJ ho ea eb
  rw [e, nI_clamp (by omega)]
  exact hf j hj
theorem k144 : (Jvm.Cond.methodLink "HeroTable$Dice" (3 : Nat) ({ cls := "java/lang/Object", name := "<init>", desc := "()V" } : Jvm.MethodName)) ∈ G9 := g9 144 (by decide +kernel) rfl
theorem k98 : (Jvm.Cond.instanceMethod ({ cls := "java/lang/Object", name := "<init>", desc := "()V" } : Jvm.MethodName)) ∈ G9 := g9 98 (by decide +kernel) rfl
theorem k99 : (Jvm.Cond.code ({ cls := "java/lang/Object", name := "<init>", desc := "()V" } : Jvm.MethodName) object_method_1_code (1 : Nat) (Option.none : Option Jvm.ClassFile.FieldType)) ∈ G9 := g9 99 (by decide +kernel) rfl
theorem k156 : (Jvm.Cond.arrayClass Jvm.ClassFile.FieldType.int) ∈ G9 := g9 156 (by decide +kernel) rfl
theorem k149 : (Jvm.Cond.lays "HeroTable$Dice" "HeroTable$Dice" "values" "[I") ∈ G9 := g9 149 (by decide +kernel) rfl
theorem k151 : (Jvm.Cond.lays "HeroTable$Dice" "HeroTable$Dice" "told" "I") ∈ G9 := g9 151 (by decide +kernel) rfl
theorem k153 : (Jvm.Cond.lays "HeroTable$Dice" "HeroTable$Dice" "used" "I") ∈ G9 := g9 153 (by decide +kernel) rfl
theorem inG_X0 : ∀ w ∈ u_ws RX0 TX0 3, w ∈ G9 := by
  intro w h
  have h : w ∈ [u_lay RX0 TX0 0, u_lay RX0 TX0 1, u_lay RX0 TX0 2] := h
  simp only [List.mem_cons, List.not_mem_nil, or_false] at h
  rcases h with rfl | rfl | rfl
  · exact k149
  · exact k151
  · exact k153
theorem k145 : (Jvm.Cond.fieldLink "HeroTable$Dice" (9 : Nat) "HeroTable$Dice" "values" "[I") ∈ G9 := g9 145 (by decide +kernel) rfl
theorem k146 : (Jvm.Cond.fieldLink "HeroTable$Dice" (15 : Nat) "HeroTable$Dice" "told" "I") ∈ G9 := g9 146 (by decide +kernel) rfl
theorem k148 : (Jvm.Cond.fieldLink "HeroTable$Dice" (19 : Nat) "HeroTable$Dice" "used" "I") ∈ G9 := g9 148 (by decide +kernel) rfl
theorem k133 : (Jvm.Cond.methodLink "HeroTable$Ground" (1 : Nat) ({ cls := "java/lang/Object", name := "<init>", desc := "()V" } : Jvm.MethodName)) ∈ G9 := g9 133 (by decide +kernel) rfl
theorem k138 : (Jvm.Cond.arrayClass Jvm.ClassFile.FieldType.char) ∈ G9 := g9 138 (by decide +kernel) rfl
theorem k135 : (Jvm.Cond.laysFinal "HeroTable$Ground" "HeroTable$Ground" "cells" "[C") ∈ G9 := g9 135 (by decide +kernel) rfl
theorem inG_X1 : ∀ w ∈ u_ws RX1 TX1 1, w ∈ G9 := by
  intro w h
  have h : w ∈ [u_lay RX1 TX1 0] := h
  simp only [List.mem_cons, List.not_mem_nil, or_false] at h
  rcases h with rfl
  · exact k135
theorem k134 : (Jvm.Cond.fieldLink "HeroTable$Ground" (7 : Nat) "HeroTable$Ground" "cells" "[C") ∈ G9 := g9 134 (by decide +kernel) rfl
theorem k395 : (Jvm.Cond.code ({ cls := "HeroTable$Ground", name := "isCell", desc := "(II)Z" } : Jvm.MethodName) prog_3_method_2_code (2 : Nat) (Option.some Jvm.ClassFile.FieldType.boolean)) ∈ G9 := g9 395 (by decide +kernel) rfl
theorem k53 : (Jvm.Cond.initialized "HeroTable$Ground") ∈ G9 := g9 53 (by decide +kernel) rfl
theorem k406 : (Jvm.Cond.methodLink "HeroTable$Ground" (23 : Nat) ({ cls := "HeroTable$Ground", name := "isCell", desc := "(II)Z" } : Jvm.MethodName)) ∈ G9 := g9 406 (by decide +kernel) rfl
theorem ok_X1_isCell : okN yX1_isCell 2 := by decide +kernel
theorem k394 : (Jvm.Cond.static ({ cls := "HeroTable$Ground", name := "isCell", desc := "(II)Z" } : Jvm.MethodName)) ∈ G9 := g9 394 (by decide +kernel) rfl
theorem k161 : (Jvm.Cond.methodLink "HeroTable$Hero" (3 : Nat) ({ cls := "java/lang/Object", name := "<init>", desc := "()V" } : Jvm.MethodName)) ∈ G9 := g9 161 (by decide +kernel) rfl
theorem k207 : (Jvm.Cond.lays "HeroTable$Hero" "HeroTable$Hero" "side" "I") ∈ G9 := g9 207 (by decide +kernel) rfl
theorem k209 : (Jvm.Cond.lays "HeroTable$Hero" "HeroTable$Hero" "life" "I") ∈ G9 := g9 209 (by decide +kernel) rfl
theorem k211 : (Jvm.Cond.lays "HeroTable$Hero" "HeroTable$Hero" "greatestLife" "I") ∈ G9 := g9 211 (by decide +kernel) rfl
theorem k213 : (Jvm.Cond.lays "HeroTable$Hero" "HeroTable$Hero" "initiative" "I") ∈ G9 := g9 213 (by decide +kernel) rfl
theorem k215 : (Jvm.Cond.lays "HeroTable$Hero" "HeroTable$Hero" "x" "I") ∈ G9 := g9 215 (by decide +kernel) rfl
theorem k217 : (Jvm.Cond.lays "HeroTable$Hero" "HeroTable$Hero" "y" "I") ∈ G9 := g9 217 (by decide +kernel) rfl
theorem k219 : (Jvm.Cond.lays "HeroTable$Hero" "HeroTable$Hero" "spare" "I") ∈ G9 := g9 219 (by decide +kernel) rfl
theorem k221 : (Jvm.Cond.lays "HeroTable$Hero" "HeroTable$Hero" "slotsLeft" "I") ∈ G9 := g9 221 (by decide +kernel) rfl
theorem k223 : (Jvm.Cond.lays "HeroTable$Hero" "HeroTable$Hero" "minded" "I") ∈ G9 := g9 223 (by decide +kernel) rfl
theorem k225 : (Jvm.Cond.lays "HeroTable$Hero" "HeroTable$Hero" "hasReaction" "Z") ∈ G9 := g9 225 (by decide +kernel) rfl
theorem k227 : (Jvm.Cond.lays "HeroTable$Hero" "HeroTable$Hero" "trigger" "C") ∈ G9 := g9 227 (by decide +kernel) rfl
theorem k229 : (Jvm.Cond.lays "HeroTable$Hero" "HeroTable$Hero" "reaction" "C") ∈ G9 := g9 229 (by decide +kernel) rfl
theorem k231 : (Jvm.Cond.laysFinal "HeroTable$Hero" "HeroTable$Hero" "bases" "[I") ∈ G9 := g9 231 (by decide +kernel) rfl
theorem k233 : (Jvm.Cond.laysFinal "HeroTable$Hero" "HeroTable$Hero" "numbers" "[I") ∈ G9 := g9 233 (by decide +kernel) rfl
theorem k235 : (Jvm.Cond.laysFinal "HeroTable$Hero" "HeroTable$Hero" "isStale" "[Z") ∈ G9 := g9 235 (by decide +kernel) rfl
theorem k237 : (Jvm.Cond.laysFinal "HeroTable$Hero" "HeroTable$Hero" "afflictions" "[I") ∈ G9 := g9 237 (by decide +kernel) rfl
theorem k239 : (Jvm.Cond.laysFinal "HeroTable$Hero" "HeroTable$Hero" "isImmune" "[Z") ∈ G9 := g9 239 (by decide +kernel) rfl
theorem inG_X2 : ∀ w ∈ u_ws RX2 TX2 17, w ∈ G9 := by
  intro w h
  have h : w ∈ [u_lay RX2 TX2 0, u_lay RX2 TX2 1, u_lay RX2 TX2 2, u_lay RX2 TX2 3, u_lay RX2 TX2 4, u_lay RX2 TX2 5, u_lay RX2 TX2 6, u_lay RX2 TX2 7, u_lay RX2 TX2 8, u_lay RX2 TX2 9, u_lay RX2 TX2 10, u_lay RX2 TX2 11, u_lay RX2 TX2 12, u_lay RX2 TX2 13, u_lay RX2 TX2 14, u_lay RX2 TX2 15, u_lay RX2 TX2 16] := h
  simp only [List.mem_cons, List.not_mem_nil, or_false] at h
  rcases h with rfl | rfl | rfl | rfl | rfl | rfl | rfl | rfl | rfl | rfl | rfl | rfl | rfl | rfl | rfl | rfl | rfl
  · exact k207
  · exact k209
  · exact k211
  · exact k213
  · exact k215
  · exact k217
  · exact k219
  · exact k221
  · exact k223
  · exact k225
  · exact k227
  · exact k229
  · exact k231
  · exact k233
  · exact k235
  · exact k237
  · exact k239
theorem k195 : (Jvm.Cond.fieldLink "HeroTable$Hero" (9 : Nat) "HeroTable$Hero" "bases" "[I") ∈ G9 := g9 195 (by decide +kernel) rfl
theorem k198 : (Jvm.Cond.fieldLink "HeroTable$Hero" (15 : Nat) "HeroTable$Hero" "numbers" "[I") ∈ G9 := g9 198 (by decide +kernel) rfl
theorem k242 : (Jvm.Cond.arrayClass Jvm.ClassFile.FieldType.boolean) ∈ G9 := g9 242 (by decide +kernel) rfl
theorem k200 : (Jvm.Cond.fieldLink "HeroTable$Hero" (18 : Nat) "HeroTable$Hero" "isStale" "[Z") ∈ G9 := g9 200 (by decide +kernel) rfl
theorem k203 : (Jvm.Cond.fieldLink "HeroTable$Hero" (22 : Nat) "HeroTable$Hero" "afflictions" "[I") ∈ G9 := g9 203 (by decide +kernel) rfl
theorem k205 : (Jvm.Cond.fieldLink "HeroTable$Hero" (25 : Nat) "HeroTable$Hero" "isImmune" "[Z") ∈ G9 := g9 205 (by decide +kernel) rfl
theorem k162 : (Jvm.Cond.fieldLink "HeroTable$Hero" (28 : Nat) "HeroTable$Hero" "side" "I") ∈ G9 := g9 162 (by decide +kernel) rfl
theorem k164 : (Jvm.Cond.fieldLink "HeroTable$Hero" (32 : Nat) "HeroTable$Hero" "life" "I") ∈ G9 := g9 164 (by decide +kernel) rfl
theorem k167 : (Jvm.Cond.fieldLink "HeroTable$Hero" (35 : Nat) "HeroTable$Hero" "greatestLife" "I") ∈ G9 := g9 167 (by decide +kernel) rfl
theorem k169 : (Jvm.Cond.fieldLink "HeroTable$Hero" (38 : Nat) "HeroTable$Hero" "initiative" "I") ∈ G9 := g9 169 (by decide +kernel) rfl
theorem k171 : (Jvm.Cond.fieldLink "HeroTable$Hero" (41 : Nat) "HeroTable$Hero" "x" "I") ∈ G9 := g9 171 (by decide +kernel) rfl
theorem k174 : (Jvm.Cond.fieldLink "HeroTable$Hero" (44 : Nat) "HeroTable$Hero" "y" "I") ∈ G9 := g9 174 (by decide +kernel) rfl
theorem k177 : (Jvm.Cond.fieldLink "HeroTable$Hero" (47 : Nat) "HeroTable$Hero" "spare" "I") ∈ G9 := g9 177 (by decide +kernel) rfl
theorem k180 : (Jvm.Cond.fieldLink "HeroTable$Hero" (50 : Nat) "HeroTable$Hero" "slotsLeft" "I") ∈ G9 := g9 180 (by decide +kernel) rfl
theorem k183 : (Jvm.Cond.fieldLink "HeroTable$Hero" (53 : Nat) "HeroTable$Hero" "minded" "I") ∈ G9 := g9 183 (by decide +kernel) rfl
theorem k187 : (Jvm.Cond.fieldLink "HeroTable$Hero" (56 : Nat) "HeroTable$Hero" "hasReaction" "Z") ∈ G9 := g9 187 (by decide +kernel) rfl
theorem k190 : (Jvm.Cond.fieldLink "HeroTable$Hero" (60 : Nat) "HeroTable$Hero" "trigger" "C") ∈ G9 := g9 190 (by decide +kernel) rfl
theorem k193 : (Jvm.Cond.fieldLink "HeroTable$Hero" (64 : Nat) "HeroTable$Hero" "reaction" "C") ∈ G9 := g9 193 (by decide +kernel) rfl
theorem k414 : (Jvm.Cond.methodLink "HeroTable$Hero" (70 : Nat) ({ cls := "java/lang/System", name := "arraycopy", desc := "(Ljava/lang/Object;ILjava/lang/Object;II)V" } : Jvm.MethodName)) ∈ G9 := g9 414 (by decide +kernel) rfl
theorem k416 : (Jvm.Cond.native ({ cls := "java/lang/System", name := "arraycopy", desc := "(Ljava/lang/Object;ILjava/lang/Object;II)V" } : Jvm.MethodName)) ∈ G9 := g9 416 (by decide +kernel) rfl
theorem k415 : (Jvm.Cond.static ({ cls := "java/lang/System", name := "arraycopy", desc := "(Ljava/lang/Object;ILjava/lang/Object;II)V" } : Jvm.MethodName)) ∈ G9 := g9 415 (by decide +kernel) rfl
theorem k62 : (Jvm.Cond.initialized "java/lang/System") ∈ G9 := g9 62 (by decide +kernel) rfl
theorem k419 : (Jvm.Cond.code ({ cls := "java/util/Arrays", name := "fill", desc := "([II)V" } : Jvm.MethodName) prog_47_method_103_code (4 : Nat) (Option.none : Option Jvm.ClassFile.FieldType)) ∈ G9 := g9 419 (by decide +kernel) rfl
theorem k63 : (Jvm.Cond.initialized "java/util/Arrays") ∈ G9 := g9 63 (by decide +kernel) rfl
theorem k417 : (Jvm.Cond.methodLink "HeroTable$Hero" (76 : Nat) ({ cls := "java/util/Arrays", name := "fill", desc := "([II)V" } : Jvm.MethodName)) ∈ G9 := g9 417 (by decide +kernel) rfl
theorem ok_J7_fill_53178 : okN yJ7_fill_53178 2 := by decide +kernel
theorem k418 : (Jvm.Cond.static ({ cls := "java/util/Arrays", name := "fill", desc := "([II)V" } : Jvm.MethodName)) ∈ G9 := g9 418 (by decide +kernel) rfl
theorem k113 : (Jvm.Cond.methodLink "HeroTable$Sources" (3 : Nat) ({ cls := "java/lang/Object", name := "<init>", desc := "()V" } : Jvm.MethodName)) ∈ G9 := g9 113 (by decide +kernel) rfl
theorem k114 : (Jvm.Cond.classLink "HeroTable$Sources" (9 : Nat) "HeroTable$Source") ∈ G9 := g9 114 (by decide +kernel) rfl
theorem k121 : (Jvm.Cond.laysFinal "HeroTable$Sources" "HeroTable$Sources" "heroes" "[LHeroTable$Hero;") ∈ G9 := g9 121 (by decide +kernel) rfl
theorem k123 : (Jvm.Cond.lays "HeroTable$Sources" "HeroTable$Sources" "rows" "[LHeroTable$Source;") ∈ G9 := g9 123 (by decide +kernel) rfl
theorem k125 : (Jvm.Cond.lays "HeroTable$Sources" "HeroTable$Sources" "count" "I") ∈ G9 := g9 125 (by decide +kernel) rfl
theorem inG_X4 : ∀ w ∈ u_ws RX4 TX4 3, w ∈ G9 := by
  intro w h
  have h : w ∈ [u_lay RX4 TX4 0, u_lay RX4 TX4 1, u_lay RX4 TX4 2] := h
  simp only [List.mem_cons, List.not_mem_nil, or_false] at h
  rcases h with rfl | rfl | rfl
  · exact k121
  · exact k123
  · exact k125
theorem k117 : (Jvm.Cond.fieldLink "HeroTable$Sources" (11 : Nat) "HeroTable$Sources" "rows" "[LHeroTable$Source;") ∈ G9 := g9 117 (by decide +kernel) rfl
theorem k116 : (Jvm.Cond.fieldLink "HeroTable$Sources" (17 : Nat) "HeroTable$Sources" "heroes" "[LHeroTable$Hero;") ∈ G9 := g9 116 (by decide +kernel) rfl
theorem k118 : (Jvm.Cond.fieldLink "HeroTable$Sources" (21 : Nat) "HeroTable$Sources" "count" "I") ∈ G9 := g9 118 (by decide +kernel) rfl
theorem k301 : (Jvm.Cond.methodLink "HeroTable$Transcript" (3 : Nat) ({ cls := "java/lang/Object", name := "<init>", desc := "()V" } : Jvm.MethodName)) ∈ G9 := g9 301 (by decide +kernel) rfl
theorem k305 : (Jvm.Cond.lays "HeroTable$Transcript" "HeroTable$Transcript" "rows" "[I") ∈ G9 := g9 305 (by decide +kernel) rfl
theorem k307 : (Jvm.Cond.lays "HeroTable$Transcript" "HeroTable$Transcript" "count" "I") ∈ G9 := g9 307 (by decide +kernel) rfl
theorem inG_X6 : ∀ w ∈ u_ws RX6 TX6 2, w ∈ G9 := by
  intro w h
  have h : w ∈ [u_lay RX6 TX6 0, u_lay RX6 TX6 1] := h
  simp only [List.mem_cons, List.not_mem_nil, or_false] at h
  rcases h with rfl | rfl
  · exact k305
  · exact k307
theorem k302 : (Jvm.Cond.fieldLink "HeroTable$Transcript" (9 : Nat) "HeroTable$Transcript" "rows" "[I") ∈ G9 := g9 302 (by decide +kernel) rfl
theorem k303 : (Jvm.Cond.fieldLink "HeroTable$Transcript" (15 : Nat) "HeroTable$Transcript" "count" "I") ∈ G9 := g9 303 (by decide +kernel) rfl
theorem dX0_init_0 : decode cX0_init 0 = .ok (.aload_n 0, 1) := by decide +kernel
theorem dX0_init_1 : decode cX0_init 1 = .ok (.invokespecial 3, 3) := by decide +kernel
theorem dX0_init_4 : decode cX0_init 4 = .ok (.aload_n 0, 1) := by decide +kernel
theorem dX0_init_5 : decode cX0_init 5 = .ok (.bipush 16, 2) := by decide +kernel
theorem dX0_init_7 : decode cX0_init 7 = .ok (.newarray .int, 2) := by decide +kernel
theorem dX0_init_9 : decode cX0_init 9 = .ok (.putfield 9, 3) := by decide +kernel
theorem dX0_init_12 : decode cX0_init 12 = .ok (.return_, 1) := by decide +kernel
theorem dX0_clear_0 : decode cX0_clear 0 = .ok (.aload_n 0, 1) := by decide +kernel
theorem dX0_clear_1 : decode cX0_clear 1 = .ok (.iconst 0, 1) := by decide +kernel
theorem dX0_clear_2 : decode cX0_clear 2 = .ok (.putfield 15, 3) := by decide +kernel
theorem dX0_clear_5 : decode cX0_clear 5 = .ok (.aload_n 0, 1) := by decide +kernel
theorem dX0_clear_6 : decode cX0_clear 6 = .ok (.iconst 0, 1) := by decide +kernel
theorem dX0_clear_7 : decode cX0_clear 7 = .ok (.putfield 19, 3) := by decide +kernel
theorem dX0_clear_10 : decode cX0_clear 10 = .ok (.return_, 1) := by decide +kernel
theorem dX0_hear_0 : decode cX0_hear 0 = .ok (.aload_n 0, 1) := by decide +kernel
theorem dX0_hear_1 : decode cX0_hear 1 = .ok (.getfield 15, 3) := by decide +kernel
theorem dX0_hear_4 : decode cX0_hear 4 = .ok (.sipush 512, 3) := by decide +kernel
theorem dX0_hear_7 : decode cX0_hear 7 = .ok (.if_icmp .lt 4, 3) := by decide +kernel
theorem dX0_hear_11 : decode cX0_hear 11 = .ok (.aload_n 0, 1) := by decide +kernel
theorem dX0_hear_12 : decode cX0_hear 12 = .ok (.getfield 15, 3) := by decide +kernel
theorem dX0_hear_15 : decode cX0_hear 15 = .ok (.aload_n 0, 1) := by decide +kernel
theorem dX0_hear_16 : decode cX0_hear 16 = .ok (.getfield 9, 3) := by decide +kernel
theorem dX0_hear_19 : decode cX0_hear 19 = .ok (.arraylength, 1) := by decide +kernel
theorem dX0_hear_20 : decode cX0_hear 20 = .ok (.if_icmp .lt 20, 3) := by decide +kernel
theorem dX0_hear_40 : decode cX0_hear 40 = .ok (.aload_n 0, 1) := by decide +kernel
theorem dX0_hear_41 : decode cX0_hear 41 = .ok (.getfield 9, 3) := by decide +kernel
theorem dX0_hear_44 : decode cX0_hear 44 = .ok (.aload_n 0, 1) := by decide +kernel
theorem dX0_hear_45 : decode cX0_hear 45 = .ok (.getfield 15, 3) := by decide +kernel
theorem dX0_hear_48 : decode cX0_hear 48 = .ok (.iload_n 1, 1) := by decide +kernel
theorem dX0_hear_49 : decode cX0_hear 49 = .ok (.iastore, 1) := by decide +kernel
theorem dX0_hear_50 : decode cX0_hear 50 = .ok (.aload_n 0, 1) := by decide +kernel
theorem dX0_hear_51 : decode cX0_hear 51 = .ok (.dup, 1) := by decide +kernel
theorem dX0_hear_52 : decode cX0_hear 52 = .ok (.getfield 15, 3) := by decide +kernel
theorem dX0_hear_55 : decode cX0_hear 55 = .ok (.iconst 1, 1) := by decide +kernel
theorem dX0_hear_56 : decode cX0_hear 56 = .ok (.iadd, 1) := by decide +kernel
theorem dX0_hear_57 : decode cX0_hear 57 = .ok (.putfield 15, 3) := by decide +kernel
theorem dX0_hear_60 : decode cX0_hear 60 = .ok (.return_, 1) := by decide +kernel
theorem dX0_left_0 : decode cX0_left 0 = .ok (.aload_n 0, 1) := by decide +kernel
theorem dX0_left_1 : decode cX0_left 1 = .ok (.getfield 15, 3) := by decide +kernel
theorem dX0_left_4 : decode cX0_left 4 = .ok (.aload_n 0, 1) := by decide +kernel
theorem dX0_left_5 : decode cX0_left 5 = .ok (.getfield 19, 3) := by decide +kernel
theorem dX0_left_8 : decode cX0_left 8 = .ok (.isub, 1) := by decide +kernel
theorem dX0_left_9 : decode cX0_left 9 = .ok (.ireturn, 1) := by decide +kernel
theorem dX1_isCell_0 : decode cX1_isCell 0 = .ok (.iload_n 0, 1) := by decide +kernel
theorem dX1_isCell_1 : decode cX1_isCell 1 = .ok (.ifCond .lt 23, 3) := by decide +kernel
theorem dX1_isCell_4 : decode cX1_isCell 4 = .ok (.iload_n 0, 1) := by decide +kernel
theorem dX1_isCell_5 : decode cX1_isCell 5 = .ok (.bipush 8, 2) := by decide +kernel
theorem dX1_isCell_7 : decode cX1_isCell 7 = .ok (.if_icmp .ge 17, 3) := by decide +kernel
theorem dX1_isCell_10 : decode cX1_isCell 10 = .ok (.iload_n 1, 1) := by decide +kernel
theorem dX1_isCell_11 : decode cX1_isCell 11 = .ok (.ifCond .lt 13, 3) := by decide +kernel
theorem dX1_isCell_14 : decode cX1_isCell 14 = .ok (.iload_n 1, 1) := by decide +kernel
theorem dX1_isCell_15 : decode cX1_isCell 15 = .ok (.bipush 8, 2) := by decide +kernel
theorem dX1_isCell_17 : decode cX1_isCell 17 = .ok (.if_icmp .ge 7, 3) := by decide +kernel
theorem dX1_isCell_20 : decode cX1_isCell 20 = .ok (.iconst 1, 1) := by decide +kernel
theorem dX1_isCell_21 : decode cX1_isCell 21 = .ok (.goto 4, 3) := by decide +kernel
theorem dX1_isCell_24 : decode cX1_isCell 24 = .ok (.iconst 0, 1) := by decide +kernel
theorem dX1_isCell_25 : decode cX1_isCell 25 = .ok (.ireturn, 1) := by decide +kernel
theorem dX1_init_0 : decode cX1_init 0 = .ok (.aload_n 0, 1) := by decide +kernel
theorem dX1_init_1 : decode cX1_init 1 = .ok (.invokespecial 1, 3) := by decide +kernel
theorem dX1_init_4 : decode cX1_init 4 = .ok (.aload_n 0, 1) := by decide +kernel
theorem dX1_init_5 : decode cX1_init 5 = .ok (.bipush 64, 2) := by decide +kernel
theorem dX1_init_7 : decode cX1_init 7 = .ok (.newarray .char, 2) := by decide +kernel
theorem dX1_init_9 : decode cX1_init 9 = .ok (.putfield 7, 3) := by decide +kernel
theorem dX1_init_12 : decode cX1_init 12 = .ok (.return_, 1) := by decide +kernel
theorem dX1_level_0 : decode cX1_level 0 = .ok (.iconst 0, 1) := by decide +kernel
theorem dX1_level_1 : decode cX1_level 1 = .ok (.istore_n 1, 1) := by decide +kernel
theorem dX1_level_2 : decode cX1_level 2 = .ok (.iload_n 1, 1) := by decide +kernel
theorem dX1_level_3 : decode cX1_level 3 = .ok (.aload_n 0, 1) := by decide +kernel
theorem dX1_level_4 : decode cX1_level 4 = .ok (.getfield 7, 3) := by decide +kernel
theorem dX1_level_7 : decode cX1_level 7 = .ok (.arraylength, 1) := by decide +kernel
theorem dX1_level_8 : decode cX1_level 8 = .ok (.if_icmp .ge 17, 3) := by decide +kernel
theorem dX1_level_11 : decode cX1_level 11 = .ok (.aload_n 0, 1) := by decide +kernel
theorem dX1_level_12 : decode cX1_level 12 = .ok (.getfield 7, 3) := by decide +kernel
theorem dX1_level_15 : decode cX1_level 15 = .ok (.iload_n 1, 1) := by decide +kernel
theorem dX1_level_16 : decode cX1_level 16 = .ok (.bipush 46, 2) := by decide +kernel
theorem dX1_level_18 : decode cX1_level 18 = .ok (.castore, 1) := by decide +kernel
theorem dX1_level_19 : decode cX1_level 19 = .ok (.iinc 1 1, 3) := by decide +kernel
theorem dX1_level_22 : decode cX1_level 22 = .ok (.goto (-20), 3) := by decide +kernel
theorem dX1_level_25 : decode cX1_level 25 = .ok (.return_, 1) := by decide +kernel
theorem dX1_at_0 : decode cX1_at 0 = .ok (.iload_n 1, 1) := by decide +kernel
theorem dX1_at_1 : decode cX1_at 1 = .ok (.iload_n 2, 1) := by decide +kernel
theorem dX1_at_2 : decode cX1_at 2 = .ok (.invokestatic 23, 3) := by decide +kernel
theorem dX1_at_5 : decode cX1_at 5 = .ok (.ifCond .eq 17, 3) := by decide +kernel
theorem dX1_at_8 : decode cX1_at 8 = .ok (.aload_n 0, 1) := by decide +kernel
theorem dX1_at_9 : decode cX1_at 9 = .ok (.getfield 7, 3) := by decide +kernel
theorem dX1_at_12 : decode cX1_at 12 = .ok (.bipush 8, 2) := by decide +kernel
theorem dX1_at_14 : decode cX1_at 14 = .ok (.iload_n 2, 1) := by decide +kernel
theorem dX1_at_15 : decode cX1_at 15 = .ok (.imul, 1) := by decide +kernel
theorem dX1_at_16 : decode cX1_at 16 = .ok (.iload_n 1, 1) := by decide +kernel
theorem dX1_at_17 : decode cX1_at 17 = .ok (.iadd, 1) := by decide +kernel
theorem dX1_at_18 : decode cX1_at 18 = .ok (.caload, 1) := by decide +kernel
theorem dX1_at_19 : decode cX1_at 19 = .ok (.goto 5, 3) := by decide +kernel
theorem dX1_at_24 : decode cX1_at 24 = .ok (.ireturn, 1) := by decide +kernel
theorem dX1_lay_0 : decode cX1_lay 0 = .ok (.iload_n 1, 1) := by decide +kernel
theorem dX1_lay_1 : decode cX1_lay 1 = .ok (.iload_n 2, 1) := by decide +kernel
theorem dX1_lay_2 : decode cX1_lay 2 = .ok (.invokestatic 23, 3) := by decide +kernel
theorem dX1_lay_5 : decode cX1_lay 5 = .ok (.ifCond .eq 15, 3) := by decide +kernel
theorem dX1_lay_8 : decode cX1_lay 8 = .ok (.aload_n 0, 1) := by decide +kernel
theorem dX1_lay_9 : decode cX1_lay 9 = .ok (.getfield 7, 3) := by decide +kernel
theorem dX1_lay_12 : decode cX1_lay 12 = .ok (.bipush 8, 2) := by decide +kernel
theorem dX1_lay_14 : decode cX1_lay 14 = .ok (.iload_n 2, 1) := by decide +kernel
theorem dX1_lay_15 : decode cX1_lay 15 = .ok (.imul, 1) := by decide +kernel
theorem dX1_lay_16 : decode cX1_lay 16 = .ok (.iload_n 1, 1) := by decide +kernel
theorem dX1_lay_17 : decode cX1_lay 17 = .ok (.iadd, 1) := by decide +kernel
theorem dX1_lay_18 : decode cX1_lay 18 = .ok (.iload_n 3, 1) := by decide +kernel
theorem dX1_lay_19 : decode cX1_lay 19 = .ok (.castore, 1) := by decide +kernel
theorem dX1_lay_20 : decode cX1_lay 20 = .ok (.return_, 1) := by decide +kernel
theorem dX2_init_0 : decode cX2_init 0 = .ok (.aload_n 0, 1) := by decide +kernel
theorem dX2_init_1 : decode cX2_init 1 = .ok (.invokespecial 3, 3) := by decide +kernel
theorem dX2_init_4 : decode cX2_init 4 = .ok (.aload_n 0, 1) := by decide +kernel
theorem dX2_init_5 : decode cX2_init 5 = .ok (.iconst 5, 1) := by decide +kernel
theorem dX2_init_6 : decode cX2_init 6 = .ok (.newarray .int, 2) := by decide +kernel
theorem dX2_init_8 : decode cX2_init 8 = .ok (.putfield 9, 3) := by decide +kernel
theorem dX2_init_11 : decode cX2_init 11 = .ok (.aload_n 0, 1) := by decide +kernel
theorem dX2_init_12 : decode cX2_init 12 = .ok (.iconst 5, 1) := by decide +kernel
theorem dX2_init_13 : decode cX2_init 13 = .ok (.newarray .int, 2) := by decide +kernel
theorem dX2_init_15 : decode cX2_init 15 = .ok (.putfield 15, 3) := by decide +kernel
theorem dX2_init_18 : decode cX2_init 18 = .ok (.aload_n 0, 1) := by decide +kernel
theorem dX2_init_19 : decode cX2_init 19 = .ok (.iconst 5, 1) := by decide +kernel
theorem dX2_init_20 : decode cX2_init 20 = .ok (.newarray .boolean, 2) := by decide +kernel
theorem dX2_init_22 : decode cX2_init 22 = .ok (.putfield 18, 3) := by decide +kernel
theorem dX2_init_25 : decode cX2_init 25 = .ok (.aload_n 0, 1) := by decide +kernel
theorem dX2_init_26 : decode cX2_init 26 = .ok (.bipush 6, 2) := by decide +kernel
theorem dX2_init_28 : decode cX2_init 28 = .ok (.newarray .int, 2) := by decide +kernel
theorem dX2_init_30 : decode cX2_init 30 = .ok (.putfield 22, 3) := by decide +kernel
theorem dX2_init_33 : decode cX2_init 33 = .ok (.aload_n 0, 1) := by decide +kernel
theorem dX2_init_34 : decode cX2_init 34 = .ok (.bipush 6, 2) := by decide +kernel
theorem dX2_init_36 : decode cX2_init 36 = .ok (.newarray .boolean, 2) := by decide +kernel
theorem dX2_init_38 : decode cX2_init 38 = .ok (.putfield 25, 3) := by decide +kernel
theorem dX2_init_41 : decode cX2_init 41 = .ok (.return_, 1) := by decide +kernel
theorem dJ7_fill_53178_0 : decode cJ7_fill_53178 0 = .ok (.iconst 0, 1) := by decide +kernel
theorem dJ7_fill_53178_1 : decode cJ7_fill_53178 1 = .ok (.istore_n 2, 1) := by decide +kernel
theorem dJ7_fill_53178_2 : decode cJ7_fill_53178 2 = .ok (.aload_n 0, 1) := by decide +kernel
theorem dJ7_fill_53178_3 : decode cJ7_fill_53178 3 = .ok (.arraylength, 1) := by decide +kernel
theorem dJ7_fill_53178_4 : decode cJ7_fill_53178 4 = .ok (.istore_n 3, 1) := by decide +kernel
theorem dJ7_fill_53178_5 : decode cJ7_fill_53178 5 = .ok (.iload_n 2, 1) := by decide +kernel
theorem dJ7_fill_53178_6 : decode cJ7_fill_53178 6 = .ok (.iload_n 3, 1) := by decide +kernel
theorem dJ7_fill_53178_7 : decode cJ7_fill_53178 7 = .ok (.if_icmp .ge 13, 3) := by decide +kernel
theorem dJ7_fill_53178_10 : decode cJ7_fill_53178 10 = .ok (.aload_n 0, 1) := by decide +kernel
theorem dJ7_fill_53178_11 : decode cJ7_fill_53178 11 = .ok (.iload_n 2, 1) := by decide +kernel
theorem dJ7_fill_53178_12 : decode cJ7_fill_53178 12 = .ok (.iload_n 1, 1) := by decide +kernel
theorem dJ7_fill_53178_13 : decode cJ7_fill_53178 13 = .ok (.iastore, 1) := by decide +kernel
theorem dJ7_fill_53178_14 : decode cJ7_fill_53178 14 = .ok (.iinc 2 1, 3) := by decide +kernel
theorem dJ7_fill_53178_17 : decode cJ7_fill_53178 17 = .ok (.goto (-12), 3) := by decide +kernel
theorem dJ7_fill_53178_20 : decode cJ7_fill_53178 20 = .ok (.return_, 1) := by decide +kernel
theorem dX2_start_0 : decode cX2_start 0 = .ok (.aload_n 0, 1) := by decide +kernel
theorem dX2_start_1 : decode cX2_start 1 = .ok (.iload_n 1, 1) := by decide +kernel
theorem dX2_start_2 : decode cX2_start 2 = .ok (.putfield 28, 3) := by decide +kernel
theorem dX2_start_5 : decode cX2_start 5 = .ok (.aload_n 0, 1) := by decide +kernel
theorem dX2_start_6 : decode cX2_start 6 = .ok (.iload_n 2, 1) := by decide +kernel
theorem dX2_start_7 : decode cX2_start 7 = .ok (.putfield 32, 3) := by decide +kernel
theorem dX2_start_10 : decode cX2_start 10 = .ok (.aload_n 0, 1) := by decide +kernel
theorem dX2_start_11 : decode cX2_start 11 = .ok (.iload_n 2, 1) := by decide +kernel
theorem dX2_start_12 : decode cX2_start 12 = .ok (.putfield 35, 3) := by decide +kernel
theorem dX2_start_15 : decode cX2_start 15 = .ok (.aload_n 0, 1) := by decide +kernel
theorem dX2_start_16 : decode cX2_start 16 = .ok (.iload_n 3, 1) := by decide +kernel
theorem dX2_start_17 : decode cX2_start 17 = .ok (.putfield 38, 3) := by decide +kernel
theorem dX2_start_20 : decode cX2_start 20 = .ok (.aload_n 0, 1) := by decide +kernel
theorem dX2_start_21 : decode cX2_start 21 = .ok (.iload 4, 2) := by decide +kernel
theorem dX2_start_23 : decode cX2_start 23 = .ok (.putfield 41, 3) := by decide +kernel
theorem dX2_start_26 : decode cX2_start 26 = .ok (.aload_n 0, 1) := by decide +kernel
theorem dX2_start_27 : decode cX2_start 27 = .ok (.iload 5, 2) := by decide +kernel
theorem dX2_start_29 : decode cX2_start 29 = .ok (.putfield 44, 3) := by decide +kernel
theorem dX2_start_32 : decode cX2_start 32 = .ok (.aload_n 0, 1) := by decide +kernel
theorem dX2_start_33 : decode cX2_start 33 = .ok (.iconst 0, 1) := by decide +kernel
theorem dX2_start_34 : decode cX2_start 34 = .ok (.putfield 47, 3) := by decide +kernel
theorem dX2_start_37 : decode cX2_start 37 = .ok (.aload_n 0, 1) := by decide +kernel
theorem dX2_start_38 : decode cX2_start 38 = .ok (.iconst 3, 1) := by decide +kernel
theorem dX2_start_39 : decode cX2_start 39 = .ok (.putfield 50, 3) := by decide +kernel
theorem dX2_start_42 : decode cX2_start 42 = .ok (.aload_n 0, 1) := by decide +kernel
theorem dX2_start_43 : decode cX2_start 43 = .ok (.iconst 0, 1) := by decide +kernel
theorem dX2_start_44 : decode cX2_start 44 = .ok (.putfield 53, 3) := by decide +kernel
theorem dX2_start_47 : decode cX2_start 47 = .ok (.aload_n 0, 1) := by decide +kernel
theorem dX2_start_48 : decode cX2_start 48 = .ok (.iconst 0, 1) := by decide +kernel
theorem dX2_start_49 : decode cX2_start 49 = .ok (.putfield 56, 3) := by decide +kernel
theorem dX2_start_52 : decode cX2_start 52 = .ok (.aload_n 0, 1) := by decide +kernel
theorem dX2_start_53 : decode cX2_start 53 = .ok (.bipush 32, 2) := by decide +kernel
theorem dX2_start_55 : decode cX2_start 55 = .ok (.putfield 60, 3) := by decide +kernel
theorem dX2_start_58 : decode cX2_start 58 = .ok (.aload_n 0, 1) := by decide +kernel
theorem dX2_start_59 : decode cX2_start 59 = .ok (.bipush 32, 2) := by decide +kernel
theorem dX2_start_61 : decode cX2_start 61 = .ok (.putfield 64, 3) := by decide +kernel
theorem dX2_start_64 : decode cX2_start 64 = .ok (.getstatic 67, 3) := by decide +kernel
theorem dX2_start_67 : decode cX2_start 67 = .ok (.iconst 0, 1) := by decide +kernel
theorem dX2_start_68 : decode cX2_start 68 = .ok (.aload_n 0, 1) := by decide +kernel
theorem dX2_start_69 : decode cX2_start 69 = .ok (.getfield 9, 3) := by decide +kernel
theorem dX2_start_72 : decode cX2_start 72 = .ok (.iconst 0, 1) := by decide +kernel
theorem dX2_start_73 : decode cX2_start 73 = .ok (.iconst 5, 1) := by decide +kernel
theorem dX2_start_74 : decode cX2_start 74 = .ok (.invokestatic 70, 3) := by decide +kernel
theorem dX2_start_77 : decode cX2_start 77 = .ok (.getstatic 67, 3) := by decide +kernel
theorem dX2_start_80 : decode cX2_start 80 = .ok (.iconst 0, 1) := by decide +kernel
theorem dX2_start_81 : decode cX2_start 81 = .ok (.aload_n 0, 1) := by decide +kernel
theorem dX2_start_82 : decode cX2_start 82 = .ok (.getfield 15, 3) := by decide +kernel
theorem dX2_start_85 : decode cX2_start 85 = .ok (.iconst 0, 1) := by decide +kernel
theorem dX2_start_86 : decode cX2_start 86 = .ok (.iconst 5, 1) := by decide +kernel
theorem dX2_start_87 : decode cX2_start 87 = .ok (.invokestatic 70, 3) := by decide +kernel
theorem dX2_start_90 : decode cX2_start 90 = .ok (.aload_n 0, 1) := by decide +kernel
theorem dX2_start_91 : decode cX2_start 91 = .ok (.getfield 22, 3) := by decide +kernel
theorem dX2_start_94 : decode cX2_start 94 = .ok (.iconst 0, 1) := by decide +kernel
theorem dX2_start_95 : decode cX2_start 95 = .ok (.invokestatic 76, 3) := by decide +kernel
theorem dX2_start_98 : decode cX2_start 98 = .ok (.iconst 0, 1) := by decide +kernel
theorem dX2_start_99 : decode cX2_start 99 = .ok (.istore 6, 2) := by decide +kernel
theorem dX2_start_101 : decode cX2_start 101 = .ok (.iload 6, 2) := by decide +kernel
theorem dX2_start_103 : decode cX2_start 103 = .ok (.aload_n 0, 1) := by decide +kernel
theorem dX2_start_104 : decode cX2_start 104 = .ok (.getfield 18, 3) := by decide +kernel
theorem dX2_start_107 : decode cX2_start 107 = .ok (.arraylength, 1) := by decide +kernel
theorem dX2_start_108 : decode cX2_start 108 = .ok (.if_icmp .ge 17, 3) := by decide +kernel
theorem dX2_start_111 : decode cX2_start 111 = .ok (.aload_n 0, 1) := by decide +kernel
theorem dX2_start_112 : decode cX2_start 112 = .ok (.getfield 18, 3) := by decide +kernel
theorem dX2_start_115 : decode cX2_start 115 = .ok (.iload 6, 2) := by decide +kernel
theorem dX2_start_117 : decode cX2_start 117 = .ok (.iconst 0, 1) := by decide +kernel
theorem dX2_start_118 : decode cX2_start 118 = .ok (.bastore, 1) := by decide +kernel
theorem dX2_start_119 : decode cX2_start 119 = .ok (.iinc 6 1, 3) := by decide +kernel
theorem dX2_start_122 : decode cX2_start 122 = .ok (.goto (-21), 3) := by decide +kernel
theorem dX2_start_125 : decode cX2_start 125 = .ok (.iconst 0, 1) := by decide +kernel
theorem dX2_start_126 : decode cX2_start 126 = .ok (.istore 6, 2) := by decide +kernel
theorem dX2_start_128 : decode cX2_start 128 = .ok (.iload 6, 2) := by decide +kernel
theorem dX2_start_130 : decode cX2_start 130 = .ok (.aload_n 0, 1) := by decide +kernel
theorem dX2_start_131 : decode cX2_start 131 = .ok (.getfield 25, 3) := by decide +kernel
theorem dX2_start_134 : decode cX2_start 134 = .ok (.arraylength, 1) := by decide +kernel
theorem dX2_start_135 : decode cX2_start 135 = .ok (.if_icmp .ge 17, 3) := by decide +kernel
theorem dX2_start_138 : decode cX2_start 138 = .ok (.aload_n 0, 1) := by decide +kernel
theorem dX2_start_139 : decode cX2_start 139 = .ok (.getfield 25, 3) := by decide +kernel
theorem dX2_start_142 : decode cX2_start 142 = .ok (.iload 6, 2) := by decide +kernel
theorem dX2_start_144 : decode cX2_start 144 = .ok (.iconst 0, 1) := by decide +kernel
theorem dX2_start_145 : decode cX2_start 145 = .ok (.bastore, 1) := by decide +kernel
theorem dX2_start_146 : decode cX2_start 146 = .ok (.iinc 6 1, 3) := by decide +kernel
theorem dX2_start_149 : decode cX2_start 149 = .ok (.goto (-21), 3) := by decide +kernel
theorem dX2_start_152 : decode cX2_start 152 = .ok (.return_, 1) := by decide +kernel
theorem dX4_init_0 : decode cX4_init 0 = .ok (.aload_n 0, 1) := by decide +kernel
theorem dX4_init_1 : decode cX4_init 1 = .ok (.invokespecial 3, 3) := by decide +kernel
theorem dX4_init_4 : decode cX4_init 4 = .ok (.aload_n 0, 1) := by decide +kernel
theorem dX4_init_5 : decode cX4_init 5 = .ok (.iconst 0, 1) := by decide +kernel
theorem dX4_init_6 : decode cX4_init 6 = .ok (.anewarray 9, 3) := by decide +kernel
theorem dX4_init_9 : decode cX4_init 9 = .ok (.putfield 11, 3) := by decide +kernel
theorem dX4_init_12 : decode cX4_init 12 = .ok (.aload_n 0, 1) := by decide +kernel
theorem dX4_init_13 : decode cX4_init 13 = .ok (.aload_n 1, 1) := by decide +kernel
theorem dX4_init_14 : decode cX4_init 14 = .ok (.putfield 17, 3) := by decide +kernel
theorem dX4_init_17 : decode cX4_init 17 = .ok (.return_, 1) := by decide +kernel
theorem dX4_clear_0 : decode cX4_clear 0 = .ok (.aload_n 0, 1) := by decide +kernel
theorem dX4_clear_1 : decode cX4_clear 1 = .ok (.iconst 0, 1) := by decide +kernel
theorem dX4_clear_2 : decode cX4_clear 2 = .ok (.putfield 21, 3) := by decide +kernel
theorem dX4_clear_5 : decode cX4_clear 5 = .ok (.return_, 1) := by decide +kernel
theorem dX4_isSource_0 : decode cX4_isSource 0 = .ok (.iload_n 1, 1) := by decide +kernel
theorem dX4_isSource_1 : decode cX4_isSource 1 = .ok (.ifCond .lt 15, 3) := by decide +kernel
theorem dX4_isSource_4 : decode cX4_isSource 4 = .ok (.iload_n 1, 1) := by decide +kernel
theorem dX4_isSource_5 : decode cX4_isSource 5 = .ok (.aload_n 0, 1) := by decide +kernel
theorem dX4_isSource_6 : decode cX4_isSource 6 = .ok (.getfield 21, 3) := by decide +kernel
theorem dX4_isSource_9 : decode cX4_isSource 9 = .ok (.if_icmp .ge 7, 3) := by decide +kernel
theorem dX4_isSource_16 : decode cX4_isSource 16 = .ok (.iconst 0, 1) := by decide +kernel
theorem dX4_isSource_17 : decode cX4_isSource 17 = .ok (.ireturn, 1) := by decide +kernel
theorem dX4_areMinded_0 : decode cX4_areMinded 0 = .ok (.iconst 0, 1) := by decide +kernel
theorem dX4_areMinded_1 : decode cX4_areMinded 1 = .ok (.istore_n 1, 1) := by decide +kernel
theorem dX4_areMinded_2 : decode cX4_areMinded 2 = .ok (.iload_n 1, 1) := by decide +kernel
theorem dX4_areMinded_3 : decode cX4_areMinded 3 = .ok (.aload_n 0, 1) := by decide +kernel
theorem dX4_areMinded_4 : decode cX4_areMinded 4 = .ok (.getfield 21, 3) := by decide +kernel
theorem dX4_areMinded_7 : decode cX4_areMinded 7 = .ok (.if_icmp .ge 48, 3) := by decide +kernel
theorem dX4_areMinded_55 : decode cX4_areMinded 55 = .ok (.iconst 1, 1) := by decide +kernel
theorem dX4_areMinded_56 : decode cX4_areMinded 56 = .ok (.ireturn, 1) := by decide +kernel
theorem dX6_init_0 : decode cX6_init 0 = .ok (.aload_n 0, 1) := by decide +kernel
theorem dX6_init_1 : decode cX6_init 1 = .ok (.invokespecial 3, 3) := by decide +kernel
theorem dX6_init_4 : decode cX6_init 4 = .ok (.aload_n 0, 1) := by decide +kernel
theorem dX6_init_5 : decode cX6_init 5 = .ok (.sipush 128, 3) := by decide +kernel
theorem dX6_init_8 : decode cX6_init 8 = .ok (.newarray .int, 2) := by decide +kernel
theorem dX6_init_10 : decode cX6_init 10 = .ok (.putfield 9, 3) := by decide +kernel
theorem dX6_init_13 : decode cX6_init 13 = .ok (.return_, 1) := by decide +kernel
theorem dX6_keep_0 : decode cX6_keep 0 = .ok (.aload_n 0, 1) := by decide +kernel
theorem dX6_keep_1 : decode cX6_keep 1 = .ok (.getfield 15, 3) := by decide +kernel
theorem dX6_keep_4 : decode cX6_keep 4 = .ok (.sipush 512, 3) := by decide +kernel
theorem dX6_keep_7 : decode cX6_keep 7 = .ok (.if_icmp .lt 4, 3) := by decide +kernel
theorem dX6_keep_11 : decode cX6_keep 11 = .ok (.aload_n 0, 1) := by decide +kernel
theorem dX6_keep_12 : decode cX6_keep 12 = .ok (.getfield 15, 3) := by decide +kernel
theorem dX6_keep_15 : decode cX6_keep 15 = .ok (.bipush 8, 2) := by decide +kernel
theorem dX6_keep_17 : decode cX6_keep 17 = .ok (.imul, 1) := by decide +kernel
theorem dX6_keep_18 : decode cX6_keep 18 = .ok (.istore 8, 2) := by decide +kernel
theorem dX6_keep_20 : decode cX6_keep 20 = .ok (.iload 8, 2) := by decide +kernel
theorem dX6_keep_22 : decode cX6_keep 22 = .ok (.bipush 8, 2) := by decide +kernel
theorem dX6_keep_24 : decode cX6_keep 24 = .ok (.iadd, 1) := by decide +kernel
theorem dX6_keep_25 : decode cX6_keep 25 = .ok (.aload_n 0, 1) := by decide +kernel
theorem dX6_keep_26 : decode cX6_keep 26 = .ok (.getfield 9, 3) := by decide +kernel
theorem dX6_keep_29 : decode cX6_keep 29 = .ok (.arraylength, 1) := by decide +kernel
theorem dX6_keep_30 : decode cX6_keep 30 = .ok (.if_icmp .le 21, 3) := by decide +kernel
theorem dX6_keep_51 : decode cX6_keep 51 = .ok (.aload_n 0, 1) := by decide +kernel
theorem dX6_keep_52 : decode cX6_keep 52 = .ok (.getfield 9, 3) := by decide +kernel
theorem dX6_keep_55 : decode cX6_keep 55 = .ok (.iload 8, 2) := by decide +kernel
theorem dX6_keep_57 : decode cX6_keep 57 = .ok (.iload_n 1, 1) := by decide +kernel
theorem dX6_keep_58 : decode cX6_keep 58 = .ok (.iastore, 1) := by decide +kernel
theorem dX6_keep_59 : decode cX6_keep 59 = .ok (.aload_n 0, 1) := by decide +kernel
theorem dX6_keep_60 : decode cX6_keep 60 = .ok (.getfield 9, 3) := by decide +kernel
theorem dX6_keep_63 : decode cX6_keep 63 = .ok (.iload 8, 2) := by decide +kernel
theorem dX6_keep_65 : decode cX6_keep 65 = .ok (.iconst 1, 1) := by decide +kernel
theorem dX6_keep_66 : decode cX6_keep 66 = .ok (.iadd, 1) := by decide +kernel
theorem dX6_keep_67 : decode cX6_keep 67 = .ok (.iload_n 2, 1) := by decide +kernel
theorem dX6_keep_68 : decode cX6_keep 68 = .ok (.iastore, 1) := by decide +kernel
theorem dX6_keep_69 : decode cX6_keep 69 = .ok (.aload_n 0, 1) := by decide +kernel
theorem dX6_keep_70 : decode cX6_keep 70 = .ok (.getfield 9, 3) := by decide +kernel
theorem dX6_keep_73 : decode cX6_keep 73 = .ok (.iload 8, 2) := by decide +kernel
theorem dX6_keep_75 : decode cX6_keep 75 = .ok (.iconst 2, 1) := by decide +kernel
theorem dX6_keep_76 : decode cX6_keep 76 = .ok (.iadd, 1) := by decide +kernel
theorem dX6_keep_77 : decode cX6_keep 77 = .ok (.iload_n 3, 1) := by decide +kernel
theorem dX6_keep_78 : decode cX6_keep 78 = .ok (.iastore, 1) := by decide +kernel
theorem dX6_keep_79 : decode cX6_keep 79 = .ok (.aload_n 0, 1) := by decide +kernel
theorem dX6_keep_80 : decode cX6_keep 80 = .ok (.getfield 9, 3) := by decide +kernel
theorem dX6_keep_83 : decode cX6_keep 83 = .ok (.iload 8, 2) := by decide +kernel
theorem dX6_keep_85 : decode cX6_keep 85 = .ok (.iconst 3, 1) := by decide +kernel
theorem dX6_keep_86 : decode cX6_keep 86 = .ok (.iadd, 1) := by decide +kernel
theorem dX6_keep_87 : decode cX6_keep 87 = .ok (.iload 4, 2) := by decide +kernel
theorem dX6_keep_89 : decode cX6_keep 89 = .ok (.iastore, 1) := by decide +kernel
theorem dX6_keep_90 : decode cX6_keep 90 = .ok (.aload_n 0, 1) := by decide +kernel
theorem dX6_keep_91 : decode cX6_keep 91 = .ok (.getfield 9, 3) := by decide +kernel
theorem dX6_keep_94 : decode cX6_keep 94 = .ok (.iload 8, 2) := by decide +kernel
theorem dX6_keep_96 : decode cX6_keep 96 = .ok (.iconst 4, 1) := by decide +kernel
theorem dX6_keep_97 : decode cX6_keep 97 = .ok (.iadd, 1) := by decide +kernel
theorem dX6_keep_98 : decode cX6_keep 98 = .ok (.iload 5, 2) := by decide +kernel
theorem dX6_keep_100 : decode cX6_keep 100 = .ok (.iastore, 1) := by decide +kernel
theorem dX6_keep_101 : decode cX6_keep 101 = .ok (.aload_n 0, 1) := by decide +kernel
theorem dX6_keep_102 : decode cX6_keep 102 = .ok (.getfield 9, 3) := by decide +kernel
theorem dX6_keep_105 : decode cX6_keep 105 = .ok (.iload 8, 2) := by decide +kernel
theorem dX6_keep_107 : decode cX6_keep 107 = .ok (.iconst 5, 1) := by decide +kernel
theorem dX6_keep_108 : decode cX6_keep 108 = .ok (.iadd, 1) := by decide +kernel
theorem dX6_keep_109 : decode cX6_keep 109 = .ok (.iload 6, 2) := by decide +kernel
theorem dX6_keep_111 : decode cX6_keep 111 = .ok (.iastore, 1) := by decide +kernel
theorem dX6_keep_112 : decode cX6_keep 112 = .ok (.aload_n 0, 1) := by decide +kernel
theorem dX6_keep_113 : decode cX6_keep 113 = .ok (.getfield 9, 3) := by decide +kernel
theorem dX6_keep_116 : decode cX6_keep 116 = .ok (.iload 8, 2) := by decide +kernel
theorem dX6_keep_118 : decode cX6_keep 118 = .ok (.bipush 6, 2) := by decide +kernel
theorem dX6_keep_120 : decode cX6_keep 120 = .ok (.iadd, 1) := by decide +kernel
theorem dX6_keep_121 : decode cX6_keep 121 = .ok (.iload 7, 2) := by decide +kernel
theorem dX6_keep_123 : decode cX6_keep 123 = .ok (.iastore, 1) := by decide +kernel
theorem dX6_keep_124 : decode cX6_keep 124 = .ok (.aload_n 0, 1) := by decide +kernel
theorem dX6_keep_125 : decode cX6_keep 125 = .ok (.dup, 1) := by decide +kernel
theorem dX6_keep_126 : decode cX6_keep 126 = .ok (.getfield 15, 3) := by decide +kernel
theorem dX6_keep_129 : decode cX6_keep 129 = .ok (.iconst 1, 1) := by decide +kernel
theorem dX6_keep_130 : decode cX6_keep 130 = .ok (.iadd, 1) := by decide +kernel
theorem dX6_keep_131 : decode cX6_keep 131 = .ok (.putfield 15, 3) := by decide +kernel
theorem dX6_keep_134 : decode cX6_keep 134 = .ok (.return_, 1) := by decide +kernel
set_option maxHeartbeats 4000000 in
set_option maxRecDepth 100000 in
theorem c_X0_init (l : Launch) (hfl : l.stackTraces = false) (g : GP) (z0 : Nat)  : CV l yX0_init (wG yX0_init cX0_init 1 (Option.none : Option Jvm.ClassFile.FieldType)) (LV 2 1 16) g [.ref z0] ([(z0, .inr (2, [.null, .int 0, .int 0]))]) (fun (u : va_W) => ∃ (q1 : Nat), u = [(z0, .inr (2, [.ref q1, .int 0, .int 0])), (q1, .inl (g.2.1 1, 16, .inl (fun _ => 0)))]) := by
  intro sz
  refine Met.ofW (cc := cX0_init) (maxL := 1) (ret := (Option.none : Option Jvm.ClassFile.FieldType)) (by decide) rfl ?_
  intro p e s m args below meth c s₁ B hml hv
  obtain ⟨rfl, hsz, hP, hK, hD0, hT0⟩ := hv
  have hx := B.exec
  have hb := B.bytes
  have hr := B.returns
  have hts := atoms_spec (ws := (wG yX0_init cX0_init 1 (Option.none : Option Jvm.ClassFile.FieldType))) B.pre
  have htg : ∀ w ∈ G9, w.before _ s = true := fun w h => hts w (List.mem_cons_of_mem _ h)
  have hown : s.vm.findClass "HeroTable$Dice" = some m.cls := findClass_of_methodNamed B.named
  have hlocks := B.notSynchronized
  have hin : meth.name = "<init>" := (name_of_methodNamed B.named B.method).1
  subst hsz
  have hD := hD0.self (sz := s.heap.size)
  have hT := hT0
  clear hT0
  generalize hAe : va_A [(z0, .inr (2, [.null, .int 0, .int 0]))] s.heap.size = A at hD hT ⊢
  have hA : ∀ q : Nat, s.heap.size ≤ q → A q := fun q h => by rw [← hAe]; exact Or.inr h
  obtain ⟨H, hH0⟩ : ∃ H, H = s.heap := ⟨_, rfl⟩
  have hS : va_S A s.heap H [] := by rw [hH0]; exact va_S.rf
  have hP : va_P g.1 CLS [(z0, .inr (2, [.null, .int 0, .int 0]))] H := by rw [hH0]; exact hP
  rw [← hH0]
  have hl := lv_entry ([.ref z0]) (n := 1) (Nat.le_of_ble_eq_true rfl)
  rw [lg_entry_eq]
  generalize (lg_sl ([.ref z0]) ++ List.replicate (1 - (lg_sl ([.ref z0])).length) Slot.unset).toArray = ls at hl ⊢
  have hl : lv_has ls 1 [(0, .ref z0)] := hl
  refine lv_aload_n hx hb dX0_init_0 rfl (lv_at hl 0 rfl) ?_
  refine W.objInit hx hb hown (htg _ k144) (htg _ k98) (htg _ k99) rfl (by rw [hml]; exact hl.1) rfl dX0_init_1 (Nat.le_of_ble_eq_true rfl) (Nat.le_of_ble_eq_true rfl) ?_
  refine W.eq (g2 := F0 m 4 ls []) rfl ?_
  refine lv_aload_n hx hb dX0_init_4 rfl (lv_at hl 0 rfl) ?_
  refine lv_bipush (v := 16) hx hb dX0_init_5 (by decide) ?_
  refine va_newa (atype := .int) (ty := .int) (a0 := (16, .inl (fun _ => 0))) (N' := 16) hx hb (htg _ k156) rfl hK hP hD hS hA (fun _ => rfl) (by decide) (by decide) (by decide) (Nat.le_of_ble_eq_true rfl) (Nat.le_of_ble_eq_true rfl) dX0_init_7 (fun q_1 cA H hK9 hP hD hS => ?_)
  obtain rfl := q_arr hK9 (t0 := 1) rfl (by decide)
  clear hK9
  have hP : va_P g.1 CLS [(z0, .inr (2, [.null, .int 0, .int 0])), (q_1, .inl (g.2.1 1, 16, .inl (fun _ => 0)))] H := hP
  have hD : va_D A [(z0, .inr (2, [.null, .int 0, .int 0])), (q_1, .inl (g.2.1 1, 16, .inl (fun _ => 0)))] := hD
  refine W.widen (k := 1) (n := 16) (Nat.le_of_ble_eq_true rfl) (Nat.le_of_ble_eq_true rfl) ?_
  refine va_put (D := g.1) (ci := 2) (v := .ref q_1) (ty := (.array .int)) (C := RX0) (T := TX0) (N := 3) hx hb htg inG_X0 tyX0 tyX0_ok nmX0 hown hK hP hD hS 0 rfl rfl 0 (by decide) (htg _ k145) (fun _ h9 => h9) rfl (by decide +kernel) rfl rfl (Nat.le_of_ble_eq_true rfl) dX0_init_9 (fun H locs hP hD hS => ?_)
  have hP : va_P g.1 CLS [(z0, .inr (2, [.ref q_1, .int 0, .int 0])), (q_1, .inl (g.2.1 1, 16, .inl (fun _ => 0)))] H := hP
  have hD : va_D A [(z0, .inr (2, [.ref q_1, .int 0, .int 0])), (q_1, .inl (g.2.1 1, 16, .inl (fun _ => 0)))] := hD
  have hP9 := hP.sub (ws' := [(z0, .inr (2, [.ref q_1, .int 0, .int 0])), (q_1, .inl (g.2.1 1, 16, .inl (fun _ => 0)))]) [0, 1] rfl
  have hD9 := hD.sub (ws' := [(z0, .inr (2, [.ref q_1, .int 0, .int 0])), (q_1, .inl (g.2.1 1, 16, .inl (fun _ => 0)))]) [0, 1] (by decide) rfl
  refine W.widen (k := 1) (n := 16) (Nat.le_of_ble_eq_true rfl) (Nat.le_of_ble_eq_true rfl) ?_
  exact W.vret hx hb hr (fun t ht hW => ⟨⟨[(z0, .inr (2, [.ref q_1, .int 0, .int 0])), (q_1, .inl (g.2.1 1, 16, .inl (fun _ => 0)))], rfl, ⟨q_1, rfl⟩, by rw [ht]; exact hP9, va_K.moved hW.alike hK, hD9⟩, hS.F ht⟩) hS.2.2 dX0_init_12

set_option maxHeartbeats 4000000 in
set_option maxRecDepth 100000 in
theorem c_X0_clear (l : Launch) (hfl : l.stackTraces = false) (g : GP) (z0 : Nat) (zv : Nat) (n1 : Int32) (n2 : Int32)  : CV l yX0_clear (wG yX0_clear cX0_clear 1 (Option.none : Option Jvm.ClassFile.FieldType)) (LV 1 0 0) g [.ref z0] ([(z0, .inr (2, [.ref zv, .int n1, .int n2]))]) (fun (u : va_W) => u = [(z0, .inr (2, [.ref zv, .int 0, .int 0]))]) := by
  intro sz
  refine Met.ofW (cc := cX0_clear) (maxL := 1) (ret := (Option.none : Option Jvm.ClassFile.FieldType)) (by decide) rfl ?_
  intro p e s m args below meth c s₁ B hml hv
  obtain ⟨rfl, hsz, hP, hK, hD0, hT0⟩ := hv
  have hx := B.exec
  have hb := B.bytes
  have hr := B.returns
  have hts := atoms_spec (ws := (wG yX0_clear cX0_clear 1 (Option.none : Option Jvm.ClassFile.FieldType))) B.pre
  have htg : ∀ w ∈ G9, w.before _ s = true := fun w h => hts w (List.mem_cons_of_mem _ h)
  have hown : s.vm.findClass "HeroTable$Dice" = some m.cls := findClass_of_methodNamed B.named
  have hlocks := B.notSynchronized
  subst hsz
  have hD := hD0.self (sz := s.heap.size)
  have hT := hT0
  clear hT0
  generalize hAe : va_A [(z0, .inr (2, [.ref zv, .int n1, .int n2]))] s.heap.size = A at hD hT ⊢
  have hA : ∀ q : Nat, s.heap.size ≤ q → A q := fun q h => by rw [← hAe]; exact Or.inr h
  obtain ⟨H, hH0⟩ : ∃ H, H = s.heap := ⟨_, rfl⟩
  have hS : va_S A s.heap H [] := by rw [hH0]; exact va_S.rf
  have hP : va_P g.1 CLS [(z0, .inr (2, [.ref zv, .int n1, .int n2]))] H := by rw [hH0]; exact hP
  rw [← hH0]
  have hl := lv_entry ([.ref z0]) (n := 1) (Nat.le_of_ble_eq_true rfl)
  rw [lg_entry_eq]
  generalize (lg_sl ([.ref z0]) ++ List.replicate (1 - (lg_sl ([.ref z0])).length) Slot.unset).toArray = ls at hl ⊢
  have hl : lv_has ls 1 [(0, .ref z0)] := hl
  refine lv_aload_n hx hb dX0_clear_0 rfl (lv_at hl 0 rfl) ?_
  refine lv_iconst (v := 0) hx hb dX0_clear_1 (by decide) ?_
  refine va_put (D := g.1) (ci := 2) (v := .int 0) (ty := .int) (C := RX0) (T := TX0) (N := 3) hx hb htg inG_X0 tyX0 tyX0_ok nmX0 hown hK hP hD hS 0 rfl rfl 1 (by decide) (htg _ k146) (fun _ h9 => h9) rfl (by decide +kernel) rfl rfl (Nat.le_of_ble_eq_true rfl) dX0_clear_2 (fun H locs hP hD hS => ?_)
  have hP : va_P g.1 CLS [(z0, .inr (2, [.ref zv, .int 0, .int n2]))] H := hP
  have hD : va_D A [(z0, .inr (2, [.ref zv, .int 0, .int n2]))] := hD
  refine lv_aload_n hx hb dX0_clear_5 rfl (lv_at hl 0 rfl) ?_
  refine lv_iconst (v := 0) hx hb dX0_clear_6 (by decide) ?_
  refine va_put (D := g.1) (ci := 2) (v := .int 0) (ty := .int) (C := RX0) (T := TX0) (N := 3) hx hb htg inG_X0 tyX0 tyX0_ok nmX0 hown hK hP hD hS 0 rfl rfl 2 (by decide) (htg _ k148) (fun _ h9 => h9) rfl (by decide +kernel) rfl rfl (Nat.le_of_ble_eq_true rfl) dX0_clear_7 (fun H locs hP hD hS => ?_)
  have hP : va_P g.1 CLS [(z0, .inr (2, [.ref zv, .int 0, .int 0]))] H := hP
  have hD : va_D A [(z0, .inr (2, [.ref zv, .int 0, .int 0]))] := hD
  have hP9 := hP.sub (ws' := [(z0, .inr (2, [.ref zv, .int 0, .int 0]))]) [0] rfl
  have hD9 := hD.sub (ws' := [(z0, .inr (2, [.ref zv, .int 0, .int 0]))]) [0] (by decide) rfl
  refine W.widen (k := 0) (n := 0) (Nat.le_of_ble_eq_true rfl) (Nat.le_of_ble_eq_true rfl) ?_
  exact W.vret hx hb hr (fun t ht hW => ⟨⟨[(z0, .inr (2, [.ref zv, .int 0, .int 0]))], rfl, rfl, by rw [ht]; exact hP9, va_K.moved hW.alike hK, hD9⟩, hS.F ht⟩) hS.2.2 dX0_clear_10

set_option maxHeartbeats 4000000 in
set_option maxRecDepth 100000 in
theorem c_X0_hear (l : Launch) (hfl : l.stackTraces = false) (g : GP) (z0 : Nat) (zv : Nat) (n1 : Int32) (f1 : Nat → Int32)  : CV l yX0_hear (wG yX0_hear cX0_hear 2 (Option.none : Option Jvm.ClassFile.FieldType)) (LV 1 0 0) g [.ref z0, .int n1] ([(z0, .inr (2, [.ref zv, .int 0, .int 0])), (zv, .inl (g.2.1 1, 16, .inl f1))]) (fun (u : va_W) => ∃ (f2 : Nat → Int32), u = [(z0, .inr (2, [.ref zv, .int 1, .int 0])), (zv, .inl (g.2.1 1, 16, .inl f2))]) := by
  intro sz
  refine Met.ofW (cc := cX0_hear) (maxL := 2) (ret := (Option.none : Option Jvm.ClassFile.FieldType)) (by decide) rfl ?_
  intro p e s m args below meth c s₁ B hml hv
  obtain ⟨rfl, hsz, hP, hK, hD0, hT0⟩ := hv
  have hx := B.exec
  have hb := B.bytes
  have hr := B.returns
  have hts := atoms_spec (ws := (wG yX0_hear cX0_hear 2 (Option.none : Option Jvm.ClassFile.FieldType))) B.pre
  have htg : ∀ w ∈ G9, w.before _ s = true := fun w h => hts w (List.mem_cons_of_mem _ h)
  have hown : s.vm.findClass "HeroTable$Dice" = some m.cls := findClass_of_methodNamed B.named
  have hlocks := B.notSynchronized
  subst hsz
  have hD := hD0.self (sz := s.heap.size)
  have hT := hT0
  clear hT0
  generalize hAe : va_A [(z0, .inr (2, [.ref zv, .int 0, .int 0])), (zv, .inl (g.2.1 1, 16, .inl f1))] s.heap.size = A at hD hT ⊢
  have hA : ∀ q : Nat, s.heap.size ≤ q → A q := fun q h => by rw [← hAe]; exact Or.inr h
  obtain ⟨H, hH0⟩ : ∃ H, H = s.heap := ⟨_, rfl⟩
  have hS : va_S A s.heap H [] := by rw [hH0]; exact va_S.rf
  have hP : va_P g.1 CLS [(z0, .inr (2, [.ref zv, .int 0, .int 0])), (zv, .inl (g.2.1 1, 16, .inl f1))] H := by rw [hH0]; exact hP
  rw [← hH0]
  have hl := lv_entry ([.ref z0, .int n1]) (n := 2) (Nat.le_of_ble_eq_true rfl)
  rw [lg_entry_eq]
  generalize (lg_sl ([.ref z0, .int n1]) ++ List.replicate (2 - (lg_sl ([.ref z0, .int n1])).length) Slot.unset).toArray = ls at hl ⊢
  have hl : lv_has ls 2 [(0, .ref z0), (1, .int n1)] := hl
  refine lv_aload_n hx hb dX0_hear_0 rfl (lv_at hl 0 rfl) ?_
  refine va_get (D := g.1) (ci := 2) (v := .int 0) (C := RX0) (T := TX0) (N := 3) hx hb htg inG_X0 hown hK hP 0 rfl rfl 1 (by decide) (htg _ k146) (fun _ h9 => h9) rfl dX0_hear_1 ?_
  refine lv_sipush (v := 512) hx hb dX0_hear_4 (by decide) ?_
  refine lv_icmp_lt (tgt := 11) hx hb dX0_hear_7 (by decide) (fun c_1 => ?_) (fun c_1 => absurd (by decide) c_1)
  refine lv_aload_n hx hb dX0_hear_11 rfl (lv_at hl 0 rfl) ?_
  refine va_get (D := g.1) (ci := 2) (v := .int 0) (C := RX0) (T := TX0) (N := 3) hx hb htg inG_X0 hown hK hP 0 rfl rfl 1 (by decide) (htg _ k146) (fun _ h9 => h9) rfl dX0_hear_12 ?_
  refine lv_aload_n hx hb dX0_hear_15 rfl (lv_at hl 0 rfl) ?_
  refine va_get (D := g.1) (ci := 2) (v := .ref zv) (C := RX0) (T := TX0) (N := 3) hx hb htg inG_X0 hown hK hP 0 rfl rfl 0 (by decide) (htg _ k145) (fun _ h9 => h9) rfl dX0_hear_16 ?_
  refine va_alen (v := 16) hx hb hK hP 1 1 rfl rfl rfl dX0_hear_19 ?_
  refine lv_icmp_lt (tgt := 40) hx hb dX0_hear_20 (by decide) (fun c_2 => ?_) (fun c_2 => absurd (by decide) c_2)
  refine lv_aload_n hx hb dX0_hear_40 rfl (lv_at hl 0 rfl) ?_
  refine va_get (D := g.1) (ci := 2) (v := .ref zv) (C := RX0) (T := TX0) (N := 3) hx hb htg inG_X0 hown hK hP 0 rfl rfl 0 (by decide) (htg _ k145) (fun _ h9 => h9) rfl dX0_hear_41 ?_
  refine lv_aload_n hx hb dX0_hear_44 rfl (lv_at hl 0 rfl) ?_
  refine va_get (D := g.1) (ci := 2) (v := .int 0) (C := RX0) (T := TX0) (N := 3) hx hb htg inG_X0 hown hK hP 0 rfl rfl 1 (by decide) (htg _ k146) (fun _ h9 => h9) rfl dX0_hear_45 ?_
  refine lv_iload_n hx hb dX0_hear_48 rfl (lv_at hl 1 rfl) ?_
  refine va_iast hx hb hK hP hD hS 1 1 rfl rfl (i := 0) (vp_in_iff.mpr (by decide)) dX0_hear_49 (fun H locs hP hD hS => ?_)
  have hP : va_P g.1 CLS [(z0, .inr (2, [.ref zv, .int 0, .int 0])), (zv, .inl (g.2.1 1, 16, .inl (upd f1 0 n1)))] H := hP
  have hD : va_D A [(z0, .inr (2, [.ref zv, .int 0, .int 0])), (zv, .inl (g.2.1 1, 16, .inl (upd f1 0 n1)))] := hD
  refine lv_aload_n hx hb dX0_hear_50 rfl (lv_at hl 0 rfl) ?_
  refine lv_dup hx hb dX0_hear_51 rfl ?_
  refine va_get (D := g.1) (ci := 2) (v := .int 0) (C := RX0) (T := TX0) (N := 3) hx hb htg inG_X0 hown hK hP 0 rfl rfl 1 (by decide) (htg _ k146) (fun _ h9 => h9) rfl dX0_hear_52 ?_
  refine lv_iconst (v := 1) hx hb dX0_hear_55 (by decide) ?_
  refine lv_iadd hx hb dX0_hear_56 ?_
  refine lv_topi (fun x_3 ex_3 => ?_)
  obtain rfl : x_3 = 1 := ex_3.trans (by decide)
  refine va_put (D := g.1) (ci := 2) (v := .int 1) (ty := .int) (C := RX0) (T := TX0) (N := 3) hx hb htg inG_X0 tyX0 tyX0_ok nmX0 hown hK hP hD hS 0 rfl rfl 1 (by decide) (htg _ k146) (fun _ h9 => h9) rfl (by decide +kernel) rfl rfl (Nat.le_of_ble_eq_true rfl) dX0_hear_57 (fun H locs hP hD hS => ?_)
  have hP : va_P g.1 CLS [(z0, .inr (2, [.ref zv, .int 1, .int 0])), (zv, .inl (g.2.1 1, 16, .inl (upd f1 0 n1)))] H := hP
  have hD : va_D A [(z0, .inr (2, [.ref zv, .int 1, .int 0])), (zv, .inl (g.2.1 1, 16, .inl (upd f1 0 n1)))] := hD
  have hP9 := hP.sub (ws' := [(z0, .inr (2, [.ref zv, .int 1, .int 0])), (zv, .inl (g.2.1 1, 16, .inl (upd f1 0 n1)))]) [0, 1] rfl
  have hD9 := hD.sub (ws' := [(z0, .inr (2, [.ref zv, .int 1, .int 0])), (zv, .inl (g.2.1 1, 16, .inl (upd f1 0 n1)))]) [0, 1] (by decide) rfl
  refine W.widen (k := 0) (n := 0) (Nat.le_of_ble_eq_true rfl) (Nat.le_of_ble_eq_true rfl) ?_
  exact W.vret hx hb hr (fun t ht hW => ⟨⟨[(z0, .inr (2, [.ref zv, .int 1, .int 0])), (zv, .inl (g.2.1 1, 16, .inl (upd f1 0 n1)))], rfl, ⟨(upd f1 0 n1), rfl⟩, by rw [ht]; exact hP9, va_K.moved hW.alike hK, hD9⟩, hS.F ht⟩) hS.2.2 dX0_hear_60

set_option maxHeartbeats 4000000 in
set_option maxRecDepth 100000 in
theorem c_X0_left (l : Launch) (hfl : l.stackTraces = false) (g : GP) (z0 : Nat) (zv : Nat) (n1 : Int32)  : CI l yX0_left (wG yX0_left cX0_left 1 (Option.some Jvm.ClassFile.FieldType.int)) (LV 1 0 0) g [.ref z0] ([(z0, .inr (2, [.ref zv, .int n1, .int 0]))]) (fun (r : Int32) (u : va_W) => r = n1 ∧ u = [(z0, .inr (2, [.ref zv, .int n1, .int 0]))]) := by
  intro sz
  refine Met.ofW (cc := cX0_left) (maxL := 1) (ret := (Option.some Jvm.ClassFile.FieldType.int)) (by decide) rfl ?_
  intro p e s m args below meth c s₁ B hml hv
  obtain ⟨rfl, hsz, hP, hK, hD0, hT0⟩ := hv
  have hx := B.exec
  have hb := B.bytes
  have hr := B.returns
  have hts := atoms_spec (ws := (wG yX0_left cX0_left 1 (Option.some Jvm.ClassFile.FieldType.int))) B.pre
  have htg : ∀ w ∈ G9, w.before _ s = true := fun w h => hts w (List.mem_cons_of_mem _ h)
  have hown : s.vm.findClass "HeroTable$Dice" = some m.cls := findClass_of_methodNamed B.named
  have hlocks := B.notSynchronized
  subst hsz
  have hD := hD0.self (sz := s.heap.size)
  have hT := hT0
  clear hT0
  generalize hAe : va_A [(z0, .inr (2, [.ref zv, .int n1, .int 0]))] s.heap.size = A at hD hT ⊢
  have hA : ∀ q : Nat, s.heap.size ≤ q → A q := fun q h => by rw [← hAe]; exact Or.inr h
  obtain ⟨H, hH0⟩ : ∃ H, H = s.heap := ⟨_, rfl⟩
  have hS : va_S A s.heap H [] := by rw [hH0]; exact va_S.rf
  have hP : va_P g.1 CLS [(z0, .inr (2, [.ref zv, .int n1, .int 0]))] H := by rw [hH0]; exact hP
  rw [← hH0]
  have hl := lv_entry ([.ref z0]) (n := 1) (Nat.le_of_ble_eq_true rfl)
  rw [lg_entry_eq]
  generalize (lg_sl ([.ref z0]) ++ List.replicate (1 - (lg_sl ([.ref z0])).length) Slot.unset).toArray = ls at hl ⊢
  have hl : lv_has ls 1 [(0, .ref z0)] := hl
  refine lv_aload_n hx hb dX0_left_0 rfl (lv_at hl 0 rfl) ?_
  refine va_get (D := g.1) (ci := 2) (v := .int n1) (C := RX0) (T := TX0) (N := 3) hx hb htg inG_X0 hown hK hP 0 rfl rfl 1 (by decide) (htg _ k146) (fun _ h9 => h9) rfl dX0_left_1 ?_
  refine lv_aload_n hx hb dX0_left_4 rfl (lv_at hl 0 rfl) ?_
  refine va_get (D := g.1) (ci := 2) (v := .int 0) (C := RX0) (T := TX0) (N := 3) hx hb htg inG_X0 hown hK hP 0 rfl rfl 2 (by decide) (htg _ k148) (fun _ h9 => h9) rfl dX0_left_5 ?_
  refine lv_isub hx hb dX0_left_8 ?_
  refine lv_topi (fun x_1 ex_1 => ?_)
  have hP9 := hP.sub (ws' := [(z0, .inr (2, [.ref zv, .int n1, .int 0]))]) [0] rfl
  have hD9 := hD.sub (ws' := [(z0, .inr (2, [.ref zv, .int n1, .int 0]))]) [0] (by decide) rfl
  refine W.widen (k := 0) (n := 0) (Nat.le_of_ble_eq_true rfl) (Nat.le_of_ble_eq_true rfl) ?_
  exact W.iret (v := x_1) hx hb hr (fun t ht hW => ⟨⟨x_1, [(z0, .inr (2, [.ref zv, .int n1, .int 0]))], rfl, ⟨ex_1.trans (by simp), rfl⟩, by rw [ht]; exact hP9, va_K.moved hW.alike hK, hD9⟩, hS.F ht⟩) hS.2.2 dX0_left_9

set_option maxHeartbeats 4000000 in
set_option maxRecDepth 100000 in
theorem c_X1_isCell (l : Launch) (hfl : l.stackTraces = false) (g : GP) (n1 : Int32) (n2 : Int32)  : CI l yX1_isCell (wG yX1_isCell cX1_isCell 2 (Option.some Jvm.ClassFile.FieldType.boolean)) (LV 1 0 0) g [.int n1, .int n2] ([]) (fun (r : Int32) (u : va_W) => ((okCell n1 n2) ∧ r = 1 ∧ u = []) ∨ ((¬ okCell n1 n2) ∧ r = 0 ∧ u = [])) := by
  intro sz
  refine Met.ofW (cc := cX1_isCell) (maxL := 2) (ret := (Option.some Jvm.ClassFile.FieldType.boolean)) (by decide) rfl ?_
  intro p e s m args below meth c s₁ B hml hv
  obtain ⟨rfl, hsz, hP, hK, hD0, hT0⟩ := hv
  have hx := B.exec
  have hb := B.bytes
  have hr := B.returns
  have hts := atoms_spec (ws := (wG yX1_isCell cX1_isCell 2 (Option.some Jvm.ClassFile.FieldType.boolean))) B.pre
  have htg : ∀ w ∈ G9, w.before _ s = true := fun w h => hts w (List.mem_cons_of_mem _ h)
  have hown : s.vm.findClass "HeroTable$Ground" = some m.cls := findClass_of_methodNamed B.named
  have hlocks := B.notSynchronized
  subst hsz
  have hD := hD0.self (sz := s.heap.size)
  have hT := hT0
  clear hT0
  generalize hAe : va_A [] s.heap.size = A at hD hT ⊢
  have hA : ∀ q : Nat, s.heap.size ≤ q → A q := fun q h => by rw [← hAe]; exact Or.inr h
  obtain ⟨H, hH0⟩ : ∃ H, H = s.heap := ⟨_, rfl⟩
  have hS : va_S A s.heap H [] := by rw [hH0]; exact va_S.rf
  have hP : va_P g.1 CLS [] H := by rw [hH0]; exact hP
  rw [← hH0]
  have hl := lv_entry ([.int n1, .int n2]) (n := 2) (Nat.le_of_ble_eq_true rfl)
  rw [lg_entry_eq]
  generalize (lg_sl ([.int n1, .int n2]) ++ List.replicate (2 - (lg_sl ([.int n1, .int n2])).length) Slot.unset).toArray = ls at hl ⊢
  have hl : lv_has ls 2 [(0, .int n1), (1, .int n2)] := hl
  refine lv_iload_n hx hb dX1_isCell_0 rfl (lv_at hl 0 rfl) ?_
  refine lv_if_lt (tgt := 24) hx hb dX1_isCell_1 (by decide) (fun c_1 => ?_) (fun c_1 => ?_)
  · refine lv_iconst (v := 0) hx hb dX1_isCell_24 (by decide) ?_
    have hP9 := hP.sub (ws' := []) [] rfl
    have hD9 := hD.sub (ws' := []) [] (by decide) rfl
    refine W.widen (k := 0) (n := 0) (Nat.le_of_ble_eq_true rfl) (Nat.le_of_ble_eq_true rfl) ?_
    exact W.zret (v := 0) hx hb hr rfl (fun t ht hW => ⟨⟨0, [], rfl, Or.inr (⟨by simp only [okCell]; simp only [fa_lt, fa_le, fa_eq, li0, li1, li5, li7, li8, li9, li20, li30, li40, li50, li97, li99, li103, li109, li115, li120, li255, lin1, lin20] at c_1 ⊢; omega, rfl, rfl⟩), by rw [ht]; exact hP9, va_K.moved hW.alike hK, hD9⟩, hS.F ht⟩) hS.2.2 dX1_isCell_25
  · refine lv_iload_n hx hb dX1_isCell_4 rfl (lv_at hl 0 rfl) ?_
    refine lv_bipush (v := 8) hx hb dX1_isCell_5 (by decide) ?_
    refine lv_icmp_ge (tgt := 24) hx hb dX1_isCell_7 (by decide) (fun c_2 => ?_) (fun c_2 => ?_)
    · refine lv_iconst (v := 0) hx hb dX1_isCell_24 (by decide) ?_
      have hP9 := hP.sub (ws' := []) [] rfl
      have hD9 := hD.sub (ws' := []) [] (by decide) rfl
      refine W.widen (k := 0) (n := 0) (Nat.le_of_ble_eq_true rfl) (Nat.le_of_ble_eq_true rfl) ?_
      exact W.zret (v := 0) hx hb hr rfl (fun t ht hW => ⟨⟨0, [], rfl, Or.inr (⟨by simp only [okCell]; simp only [fa_lt, fa_le, fa_eq, li0, li1, li5, li7, li8, li9, li20, li30, li40, li50, li97, li99, li103, li109, li115, li120, li255, lin1, lin20] at c_1 c_2 ⊢; omega, rfl, rfl⟩), by rw [ht]; exact hP9, va_K.moved hW.alike hK, hD9⟩, hS.F ht⟩) hS.2.2 dX1_isCell_25
    · refine lv_iload_n hx hb dX1_isCell_10 rfl (lv_at hl 1 rfl) ?_
      refine lv_if_lt (tgt := 24) hx hb dX1_isCell_11 (by decide) (fun c_3 => ?_) (fun c_3 => ?_)
      · refine lv_iconst (v := 0) hx hb dX1_isCell_24 (by decide) ?_
        have hP9 := hP.sub (ws' := []) [] rfl
        have hD9 := hD.sub (ws' := []) [] (by decide) rfl
        refine W.widen (k := 0) (n := 0) (Nat.le_of_ble_eq_true rfl) (Nat.le_of_ble_eq_true rfl) ?_
        exact W.zret (v := 0) hx hb hr rfl (fun t ht hW => ⟨⟨0, [], rfl, Or.inr (⟨by simp only [okCell]; simp only [fa_lt, fa_le, fa_eq, li0, li1, li5, li7, li8, li9, li20, li30, li40, li50, li97, li99, li103, li109, li115, li120, li255, lin1, lin20] at c_1 c_2 c_3 ⊢; omega, rfl, rfl⟩), by rw [ht]; exact hP9, va_K.moved hW.alike hK, hD9⟩, hS.F ht⟩) hS.2.2 dX1_isCell_25
      · refine lv_iload_n hx hb dX1_isCell_14 rfl (lv_at hl 1 rfl) ?_
        refine lv_bipush (v := 8) hx hb dX1_isCell_15 (by decide) ?_
        refine lv_icmp_ge (tgt := 24) hx hb dX1_isCell_17 (by decide) (fun c_4 => ?_) (fun c_4 => ?_)
        · refine lv_iconst (v := 0) hx hb dX1_isCell_24 (by decide) ?_
          have hP9 := hP.sub (ws' := []) [] rfl
          have hD9 := hD.sub (ws' := []) [] (by decide) rfl
          refine W.widen (k := 0) (n := 0) (Nat.le_of_ble_eq_true rfl) (Nat.le_of_ble_eq_true rfl) ?_
          exact W.zret (v := 0) hx hb hr rfl (fun t ht hW => ⟨⟨0, [], rfl, Or.inr (⟨by simp only [okCell]; simp only [fa_lt, fa_le, fa_eq, li0, li1, li5, li7, li8, li9, li20, li30, li40, li50, li97, li99, li103, li109, li115, li120, li255, lin1, lin20] at c_1 c_2 c_3 c_4 ⊢; omega, rfl, rfl⟩), by rw [ht]; exact hP9, va_K.moved hW.alike hK, hD9⟩, hS.F ht⟩) hS.2.2 dX1_isCell_25
        · refine lv_iconst (v := 1) hx hb dX1_isCell_20 (by decide) ?_
          refine lv_goto (tgt := 25) hx hb dX1_isCell_21 (by decide) ?_
          have hP9 := hP.sub (ws' := []) [] rfl
          have hD9 := hD.sub (ws' := []) [] (by decide) rfl
          refine W.widen (k := 0) (n := 0) (Nat.le_of_ble_eq_true rfl) (Nat.le_of_ble_eq_true rfl) ?_
          exact W.zret (v := 1) hx hb hr rfl (fun t ht hW => ⟨⟨1, [], rfl, Or.inl ⟨by simp only [okCell]; simp only [fa_lt, fa_le, fa_eq, li0, li1, li5, li7, li8, li9, li20, li30, li40, li50, li97, li99, li103, li109, li115, li120, li255, lin1, lin20] at c_1 c_2 c_3 c_4 ⊢; omega, rfl, rfl⟩, by rw [ht]; exact hP9, va_K.moved hW.alike hK, hD9⟩, hS.F ht⟩) hS.2.2 dX1_isCell_25

set_option maxHeartbeats 4000000 in
set_option maxRecDepth 100000 in
theorem c_X1_init (l : Launch) (hfl : l.stackTraces = false) (g : GP) (z0 : Nat)  : CV l yX1_init (wG yX1_init cX1_init 1 (Option.none : Option Jvm.ClassFile.FieldType)) (LV 2 1 64) g [.ref z0] ([(z0, .inr (3, [.null]))]) (fun (u : va_W) => ∃ (q1 : Nat), u = [(z0, .inr (3, [.ref q1])), (q1, .inl (g.2.1 0, 64, .inl (fun _ => 0)))]) := by
  intro sz
  refine Met.ofW (cc := cX1_init) (maxL := 1) (ret := (Option.none : Option Jvm.ClassFile.FieldType)) (by decide) rfl ?_
  intro p e s m args below meth c s₁ B hml hv
  obtain ⟨rfl, hsz, hP, hK, hD0, hT0⟩ := hv
  have hx := B.exec
  have hb := B.bytes
  have hr := B.returns
  have hts := atoms_spec (ws := (wG yX1_init cX1_init 1 (Option.none : Option Jvm.ClassFile.FieldType))) B.pre
  have htg : ∀ w ∈ G9, w.before _ s = true := fun w h => hts w (List.mem_cons_of_mem _ h)
  have hown : s.vm.findClass "HeroTable$Ground" = some m.cls := findClass_of_methodNamed B.named
  have hlocks := B.notSynchronized
  have hin : meth.name = "<init>" := (name_of_methodNamed B.named B.method).1
  subst hsz
  have hD := hD0.self (sz := s.heap.size)
  have hT := hT0
  clear hT0
  generalize hAe : va_A [(z0, .inr (3, [.null]))] s.heap.size = A at hD hT ⊢
  have hA : ∀ q : Nat, s.heap.size ≤ q → A q := fun q h => by rw [← hAe]; exact Or.inr h
  obtain ⟨H, hH0⟩ : ∃ H, H = s.heap := ⟨_, rfl⟩
  have hS : va_S A s.heap H [] := by rw [hH0]; exact va_S.rf
  have hP : va_P g.1 CLS [(z0, .inr (3, [.null]))] H := by rw [hH0]; exact hP
  rw [← hH0]
  have hl := lv_entry ([.ref z0]) (n := 1) (Nat.le_of_ble_eq_true rfl)
  rw [lg_entry_eq]
  generalize (lg_sl ([.ref z0]) ++ List.replicate (1 - (lg_sl ([.ref z0])).length) Slot.unset).toArray = ls at hl ⊢
  have hl : lv_has ls 1 [(0, .ref z0)] := hl
  refine lv_aload_n hx hb dX1_init_0 rfl (lv_at hl 0 rfl) ?_
  refine W.objInit hx hb hown (htg _ k133) (htg _ k98) (htg _ k99) rfl (by rw [hml]; exact hl.1) rfl dX1_init_1 (Nat.le_of_ble_eq_true rfl) (Nat.le_of_ble_eq_true rfl) ?_
  refine W.eq (g2 := F0 m 4 ls []) rfl ?_
  refine lv_aload_n hx hb dX1_init_4 rfl (lv_at hl 0 rfl) ?_
  refine lv_bipush (v := 64) hx hb dX1_init_5 (by decide) ?_
  refine va_newa (atype := .char) (ty := .char) (a0 := (64, .inl (fun _ => 0))) (N' := 64) hx hb (htg _ k138) rfl hK hP hD hS hA (fun _ => rfl) (by decide) (by decide) (by decide) (Nat.le_of_ble_eq_true rfl) (Nat.le_of_ble_eq_true rfl) dX1_init_7 (fun q_1 cA H hK9 hP hD hS => ?_)
  obtain rfl := q_arr hK9 (t0 := 0) rfl (by decide)
  clear hK9
  have hP : va_P g.1 CLS [(z0, .inr (3, [.null])), (q_1, .inl (g.2.1 0, 64, .inl (fun _ => 0)))] H := hP
  have hD : va_D A [(z0, .inr (3, [.null])), (q_1, .inl (g.2.1 0, 64, .inl (fun _ => 0)))] := hD
  refine W.widen (k := 1) (n := 64) (Nat.le_of_ble_eq_true rfl) (Nat.le_of_ble_eq_true rfl) ?_
  refine va_putF (D := g.1) (ci := 3) (v := .ref q_1) (ty := (.array .char)) (C := RX1) (T := TX1) (N := 1) hx hb htg inG_X1 tyX1 tyX1_ok nmX1 hown hK hP hD hS 0 rfl rfl 0 (by decide) (htg _ k134) (fun _ h9 => h9) rfl hin rfl (by decide +kernel) rfl rfl (Nat.le_of_ble_eq_true rfl) dX1_init_9 (fun H locs hP hD hS => ?_)
  have hP : va_P g.1 CLS [(z0, .inr (3, [.ref q_1])), (q_1, .inl (g.2.1 0, 64, .inl (fun _ => 0)))] H := hP
  have hD : va_D A [(z0, .inr (3, [.ref q_1])), (q_1, .inl (g.2.1 0, 64, .inl (fun _ => 0)))] := hD
  have hP9 := hP.sub (ws' := [(z0, .inr (3, [.ref q_1])), (q_1, .inl (g.2.1 0, 64, .inl (fun _ => 0)))]) [0, 1] rfl
  have hD9 := hD.sub (ws' := [(z0, .inr (3, [.ref q_1])), (q_1, .inl (g.2.1 0, 64, .inl (fun _ => 0)))]) [0, 1] (by decide) rfl
  refine W.widen (k := 1) (n := 64) (Nat.le_of_ble_eq_true rfl) (Nat.le_of_ble_eq_true rfl) ?_
  exact W.vret hx hb hr (fun t ht hW => ⟨⟨[(z0, .inr (3, [.ref q_1])), (q_1, .inl (g.2.1 0, 64, .inl (fun _ => 0)))], rfl, ⟨q_1, rfl⟩, by rw [ht]; exact hP9, va_K.moved hW.alike hK, hD9⟩, hS.F ht⟩) hS.2.2 dX1_init_12

set_option maxHeartbeats 4000000 in
set_option maxRecDepth 100000 in
theorem c_X1_level (l : Launch) (hfl : l.stackTraces = false) (g : GP) (z0 : Nat) (zc : Nat) (f1 : Nat → Int32)  : CV l yX1_level (wG yX1_level cX1_level 2 (Option.none : Option Jvm.ClassFile.FieldType)) (LV 1 0 0) g [.ref z0] ([(z0, .inr (3, [.ref zc])), (zc, .inl (g.2.1 0, 64, .inl f1))]) (fun (u : va_W) => ∃ (f2 : Nat → Int32), (∀ j : Nat, j < 64 → f2 j = 46) ∧ u = [(z0, .inr (3, [.ref zc])), (zc, .inl (g.2.1 0, 64, .inl f2))]) := by
  intro sz
  refine Met.ofW (cc := cX1_level) (maxL := 2) (ret := (Option.none : Option Jvm.ClassFile.FieldType)) (by decide) rfl ?_
  intro p e s m args below meth c s₁ B hml hv
  obtain ⟨rfl, hsz, hP, hK, hD0, hT0⟩ := hv
  have hx := B.exec
  have hb := B.bytes
  have hr := B.returns
  have hts := atoms_spec (ws := (wG yX1_level cX1_level 2 (Option.none : Option Jvm.ClassFile.FieldType))) B.pre
  have htg : ∀ w ∈ G9, w.before _ s = true := fun w h => hts w (List.mem_cons_of_mem _ h)
  have hown : s.vm.findClass "HeroTable$Ground" = some m.cls := findClass_of_methodNamed B.named
  have hlocks := B.notSynchronized
  subst hsz
  have hD := hD0.self (sz := s.heap.size)
  have hT := hT0
  clear hT0
  generalize hAe : va_A [(z0, .inr (3, [.ref zc])), (zc, .inl (g.2.1 0, 64, .inl f1))] s.heap.size = A at hD hT ⊢
  have hA : ∀ q : Nat, s.heap.size ≤ q → A q := fun q h => by rw [← hAe]; exact Or.inr h
  obtain ⟨H, hH0⟩ : ∃ H, H = s.heap := ⟨_, rfl⟩
  have hS : va_S A s.heap H [] := by rw [hH0]; exact va_S.rf
  have hP : va_P g.1 CLS [(z0, .inr (3, [.ref zc])), (zc, .inl (g.2.1 0, 64, .inl f1))] H := by rw [hH0]; exact hP
  rw [← hH0]
  have hl := lv_entry ([.ref z0]) (n := 2) (Nat.le_of_ble_eq_true rfl)
  rw [lg_entry_eq]
  generalize (lg_sl ([.ref z0]) ++ List.replicate (2 - (lg_sl ([.ref z0])).length) Slot.unset).toArray = ls at hl ⊢
  have hl : lv_has ls 2 [(0, .ref z0)] := hl
  refine lv_iconst (v := 0) hx hb dX1_level_0 (by decide) ?_
  refine lv_istore_n (lv' := [(1, .int 0), (0, .ref z0)]) hx hb dX1_level_1 rfl hl (by decide) rfl (fun ls hl => ?_)
  refine q_loop 64 (fun i9 f9 H locs ls => (∀ j : Nat, j < i9 → f9 j = 46) ∧ va_P g.1 CLS [(z0, .inr (3, [.ref zc])), (zc, .inl (g.2.1 0, 64, .inl f9))] H ∧ va_D A [(z0, .inr (3, [.ref zc])), (zc, .inl (g.2.1 0, 64, .inl f9))] ∧ va_S A s.heap H locs ∧ lv_has ls 2 [(1, .int (nI i9)), (0, .ref z0)]) (fun i9 f9 H locs ls hi hp ih => ?_) (fun f9 H locs ls hp => ?_) f1 ⟨fun j hj => absurd hj (Nat.not_lt_zero j), hP, hD, hS, hl⟩
  · obtain ⟨hf, hP, hD, hS, hl⟩ := hp
    refine lv_iload_n hx hb dX1_level_2 rfl (lv_at hl 0 rfl) ?_
    refine lv_aload_n hx hb dX1_level_3 rfl (lv_at hl 1 rfl) ?_
    refine va_get (D := g.1) (ci := 3) (v := .ref zc) (C := RX1) (T := TX1) (N := 1) hx hb htg inG_X1 hown hK hP 0 rfl rfl 0 (by decide) (htg _ k134) (fun _ h9 => h9) rfl dX1_level_4 ?_
    refine va_alen (v := 64) hx hb hK hP 1 0 rfl rfl rfl dX1_level_7 ?_
    refine lv_icmp_ge (tgt := 25) hx hb dX1_level_8 (by decide) (fun c9 => absurd c9 (nI_ge hi (by decide))) (fun c9 => ?_)
    refine lv_aload_n hx hb dX1_level_11 rfl (lv_at hl 1 rfl) ?_
    refine va_get (D := g.1) (ci := 3) (v := .ref zc) (C := RX1) (T := TX1) (N := 1) hx hb htg inG_X1 hown hK hP 0 rfl rfl 0 (by decide) (htg _ k134) (fun _ h9 => h9) rfl dX1_level_12 ?_
    refine lv_iload_n hx hb dX1_level_15 rfl (lv_at hl 0 rfl) ?_
    refine lv_bipush (v := 46) hx hb dX1_level_16 (by decide) ?_
    refine va_cast hx hb hK hP hD hS 1 0 rfl rfl (i := nI i9) (vp_in_nI hi (by decide)) dX1_level_18 (fun H locs hP hD hS => ?_)
    rw [nI_clamp (by omega)] at hP hD
    have hP : va_P g.1 CLS [(z0, .inr (3, [.ref zc])), (zc, .inl (g.2.1 0, 64, .inl (upd f9 i9 (vp_nar .char 46))))] H := hP
    have hD : va_D A [(z0, .inr (3, [.ref zc])), (zc, .inl (g.2.1 0, 64, .inl (upd f9 i9 (vp_nar .char 46))))] := hD
    refine lv_iinc (v := nI (i9 + 1)) (lv' := [(1, .int (nI (i9 + 1))), (0, .ref z0)]) hx hb dX1_level_19 hl (k := 0) rfl (nI_1 i9) (by decide) rfl (fun ls hl => ?_)
    refine lv_goto (tgt := 2) hx hb dX1_level_22 (by decide) ?_
    refine ih (upd f9 i9 (vp_nar .char 46)) H locs ls ⟨fun j hj => ?_, hP, hD, hS, lv_sub hl [0, 1] rfl⟩
    by_cases e : j = i9
    · rw [e]; simp only [upd, if_true]; rfl
    · simp only [upd, if_neg e]; exact hf j (by omega)
  · obtain ⟨hf, hP, hD, hS, hl⟩ := hp
    refine lv_iload_n hx hb dX1_level_2 rfl (lv_at hl 0 rfl) ?_
    refine lv_aload_n hx hb dX1_level_3 rfl (lv_at hl 1 rfl) ?_
    refine va_get (D := g.1) (ci := 3) (v := .ref zc) (C := RX1) (T := TX1) (N := 1) hx hb htg inG_X1 hown hK hP 0 rfl rfl 0 (by decide) (htg _ k134) (fun _ h9 => h9) rfl dX1_level_4 ?_
    refine va_alen (v := 64) hx hb hK hP 1 0 rfl rfl rfl dX1_level_7 ?_
    refine lv_icmp_ge (tgt := 25) hx hb dX1_level_8 (by decide) (fun c9 => ?_) (fun c9 => absurd (by decide) c9)
    have hP9 := hP.sub (ws' := [(z0, .inr (3, [.ref zc])), (zc, .inl (g.2.1 0, 64, .inl f9))]) [0, 1] rfl
    have hD9 := hD.sub (ws' := [(z0, .inr (3, [.ref zc])), (zc, .inl (g.2.1 0, 64, .inl f9))]) [0, 1] (by decide) rfl
    refine W.widen (k := 0) (n := 0) (Nat.le_of_ble_eq_true rfl) (Nat.le_of_ble_eq_true rfl) ?_
    exact W.vret hx hb hr (fun t ht hW => ⟨⟨[(z0, .inr (3, [.ref zc])), (zc, .inl (g.2.1 0, 64, .inl f9))], rfl, ⟨f9, hf, rfl⟩, by rw [ht]; exact hP9, va_K.moved hW.alike hK, hD9⟩, hS.F ht⟩) hS.2.2 dX1_level_25

set_option maxHeartbeats 4000000 in
set_option maxRecDepth 100000 in
theorem c_X1_at (l : Launch) (hfl : l.stackTraces = false) (g : GP) (z0 : Nat) (zc : Nat) (f1 : Nat → Int32) (n1 : Int32) (n2 : Int32) (hf1 : ∀ j : Nat, j < 64 → f1 j = 46) (ho : okCell n1 n2) : CI l yX1_at (wG yX1_at cX1_at 3 (Option.some Jvm.ClassFile.FieldType.char)) (LV 2 0 0) g [.ref z0, .int n1, .int n2] ([(z0, .inr (3, [.ref zc])), (zc, .inl (g.2.1 0, 64, .inl f1))]) (fun (r : Int32) (u : va_W) => r = 46 ∧ u = [(z0, .inr (3, [.ref zc])), (zc, .inl (g.2.1 0, 64, .inl f1))]) := by
  intro sz
  refine Met.ofW (cc := cX1_at) (maxL := 3) (ret := (Option.some Jvm.ClassFile.FieldType.char)) (by decide) rfl ?_
  intro p e s m args below meth c s₁ B hml hv
  obtain ⟨rfl, hsz, hP, hK, hD0, hT0⟩ := hv
  have hx := B.exec
  have hb := B.bytes
  have hr := B.returns
  have hts := atoms_spec (ws := (wG yX1_at cX1_at 3 (Option.some Jvm.ClassFile.FieldType.char))) B.pre
  have htg : ∀ w ∈ G9, w.before _ s = true := fun w h => hts w (List.mem_cons_of_mem _ h)
  have hown : s.vm.findClass "HeroTable$Ground" = some m.cls := findClass_of_methodNamed B.named
  have hlocks := B.notSynchronized
  subst hsz
  have hD := hD0.self (sz := s.heap.size)
  have hT := hT0
  clear hT0
  generalize hAe : va_A [(z0, .inr (3, [.ref zc])), (zc, .inl (g.2.1 0, 64, .inl f1))] s.heap.size = A at hD hT ⊢
  have hA : ∀ q : Nat, s.heap.size ≤ q → A q := fun q h => by rw [← hAe]; exact Or.inr h
  obtain ⟨H, hH0⟩ : ∃ H, H = s.heap := ⟨_, rfl⟩
  have hS : va_S A s.heap H [] := by rw [hH0]; exact va_S.rf
  have hP : va_P g.1 CLS [(z0, .inr (3, [.ref zc])), (zc, .inl (g.2.1 0, 64, .inl f1))] H := by rw [hH0]; exact hP
  rw [← hH0]
  have hl := lv_entry ([.ref z0, .int n1, .int n2]) (n := 3) (Nat.le_of_ble_eq_true rfl)
  rw [lg_entry_eq]
  generalize (lg_sl ([.ref z0, .int n1, .int n2]) ++ List.replicate (3 - (lg_sl ([.ref z0, .int n1, .int n2])).length) Slot.unset).toArray = ls at hl ⊢
  have hl : lv_has ls 3 [(0, .ref z0), (1, .int n1), (2, .int n2)] := hl
  refine lv_iload_n hx hb dX1_at_0 rfl (lv_at hl 1 rfl) ?_
  refine lv_iload_n hx hb dX1_at_1 rfl (lv_at hl 2 rfl) ?_
  have hPc := hP.sub (ws' := []) [] rfl
  have hDc := hD.sub (ws' := []) [] (by decide) rfl
  have hFc := va_free (wc := []) hD hS hA [] rfl
  refine q_ci (wr := [(z0, .inr (3, [.ref zc])), (zc, .inl (g.2.1 0, 64, .inl f1))]) (va_runS (As := [.int n1, .int n2]) (rest := []) ⟨hx, hb, hml, hown, htg⟩ (c_X1_isCell l hfl g n1 n2  H.size) ⟨(qB htg k395 k53 k406 ok_X1_isCell rfl rfl ⟨Nat.le_of_ble_eq_true rfl, Nat.le_of_ble_eq_true rfl⟩), htg _ k394⟩ (q_pre [.int n1, .int n2] hPc hDc hK hS hT hFc) rfl rfl hl.1 rfl (lv_room (Nat.le_of_ble_eq_true rfl)) dX1_at_2 ⟨Nat.le_of_ble_eq_true rfl, Nat.le_of_ble_eq_true rfl⟩) hP hD hS hFc [] [0, 1] rfl rfl (by decide) (by decide) (fun r9 u9 H locs hw hP hD hS => ?_)
  try dsimp only at hw
  rcases hw with ⟨c_1, rfl, rfl⟩ | ⟨c_2, rfl, rfl⟩
  · have hP : va_P g.1 CLS [(z0, .inr (3, [.ref zc])), (zc, .inl (g.2.1 0, 64, .inl f1))] H := hP
    have hD : va_D A [(z0, .inr (3, [.ref zc])), (zc, .inl (g.2.1 0, 64, .inl f1))] := hD
    refine W.widen (k := 0) (n := 0) (Nat.le_of_ble_eq_true rfl) (Nat.le_of_ble_eq_true rfl) ?_
    refine lv_if_eq (tgt := 22) hx hb dX1_at_5 (by decide) (fun c_3 => absurd c_3 (by decide)) (fun c_3 => ?_)
    refine lv_aload_n hx hb dX1_at_8 rfl (lv_at hl 0 rfl) ?_
    refine va_get (D := g.1) (ci := 3) (v := .ref zc) (C := RX1) (T := TX1) (N := 1) hx hb htg inG_X1 hown hK hP 0 rfl rfl 0 (by decide) (htg _ k134) (fun _ h9 => h9) rfl dX1_at_9 ?_
    refine lv_bipush (v := 8) hx hb dX1_at_12 (by decide) ?_
    refine lv_iload_n hx hb dX1_at_14 rfl (lv_at hl 2 rfl) ?_
    refine lv_imul hx hb dX1_at_15 ?_
    refine lv_topi (fun x_4 ex_4 => ?_)
    refine lv_iload_n hx hb dX1_at_16 rfl (lv_at hl 1 rfl) ?_
    refine lv_iadd hx hb dX1_at_17 ?_
    refine lv_topi (fun x_5 ex_5 => ?_)
    refine va_cald hx hb hK hP 1 0 rfl rfl (i := x_5) (cellIn ho ex_4 ex_5) dX1_at_18 ?_
    refine lv_topi (fun x_6 ex_6 => ?_)
    refine lv_goto (tgt := 24) hx hb dX1_at_19 (by decide) ?_
    have hP9 := hP.sub (ws' := [(z0, .inr (3, [.ref zc])), (zc, .inl (g.2.1 0, 64, .inl f1))]) [0, 1] rfl
    have hD9 := hD.sub (ws' := [(z0, .inr (3, [.ref zc])), (zc, .inl (g.2.1 0, 64, .inl f1))]) [0, 1] (by decide) rfl
    refine W.widen (k := 0) (n := 0) (Nat.le_of_ble_eq_true rfl) (Nat.le_of_ble_eq_true rfl) ?_
    exact W.zret (v := x_6) hx hb hr (by rw [ex_6, cellAt hf1 ho ex_4 ex_5]; rfl) (fun t ht hW => ⟨⟨x_6, [(z0, .inr (3, [.ref zc])), (zc, .inl (g.2.1 0, 64, .inl f1))], rfl, ⟨ex_6.trans (cellAt hf1 ho ex_4 ex_5), rfl⟩, by rw [ht]; exact hP9, va_K.moved hW.alike hK, hD9⟩, hS.F ht⟩) hS.2.2 dX1_at_24
  · exact absurd ho c_2

set_option maxHeartbeats 4000000 in
set_option maxRecDepth 100000 in
theorem c_X1_lay (l : Launch) (hfl : l.stackTraces = false) (g : GP) (z0 : Nat) (zc : Nat) (f1 : Nat → Int32) (n1 : Int32) (n2 : Int32) (n3 : Int32) (ho : okCell n1 n2) : CV l yX1_lay (wG yX1_lay cX1_lay 4 (Option.none : Option Jvm.ClassFile.FieldType)) (LV 2 0 0) g [.ref z0, .int n1, .int n2, .int n3] ([(z0, .inr (3, [.ref zc])), (zc, .inl (g.2.1 0, 64, .inl f1))]) (fun (u : va_W) => ∃ (f2 : Nat → Int32), u = [(z0, .inr (3, [.ref zc])), (zc, .inl (g.2.1 0, 64, .inl f2))]) := by
  intro sz
  refine Met.ofW (cc := cX1_lay) (maxL := 4) (ret := (Option.none : Option Jvm.ClassFile.FieldType)) (by decide) rfl ?_
  intro p e s m args below meth c s₁ B hml hv
  obtain ⟨rfl, hsz, hP, hK, hD0, hT0⟩ := hv
  have hx := B.exec
  have hb := B.bytes
  have hr := B.returns
  have hts := atoms_spec (ws := (wG yX1_lay cX1_lay 4 (Option.none : Option Jvm.ClassFile.FieldType))) B.pre
  have htg : ∀ w ∈ G9, w.before _ s = true := fun w h => hts w (List.mem_cons_of_mem _ h)
  have hown : s.vm.findClass "HeroTable$Ground" = some m.cls := findClass_of_methodNamed B.named
  have hlocks := B.notSynchronized
  subst hsz
  have hD := hD0.self (sz := s.heap.size)
  have hT := hT0
  clear hT0
  generalize hAe : va_A [(z0, .inr (3, [.ref zc])), (zc, .inl (g.2.1 0, 64, .inl f1))] s.heap.size = A at hD hT ⊢
  have hA : ∀ q : Nat, s.heap.size ≤ q → A q := fun q h => by rw [← hAe]; exact Or.inr h
  obtain ⟨H, hH0⟩ : ∃ H, H = s.heap := ⟨_, rfl⟩
  have hS : va_S A s.heap H [] := by rw [hH0]; exact va_S.rf
  have hP : va_P g.1 CLS [(z0, .inr (3, [.ref zc])), (zc, .inl (g.2.1 0, 64, .inl f1))] H := by rw [hH0]; exact hP
  rw [← hH0]
  have hl := lv_entry ([.ref z0, .int n1, .int n2, .int n3]) (n := 4) (Nat.le_of_ble_eq_true rfl)
  rw [lg_entry_eq]
  generalize (lg_sl ([.ref z0, .int n1, .int n2, .int n3]) ++ List.replicate (4 - (lg_sl ([.ref z0, .int n1, .int n2, .int n3])).length) Slot.unset).toArray = ls at hl ⊢
  have hl : lv_has ls 4 [(0, .ref z0), (1, .int n1), (2, .int n2), (3, .int n3)] := hl
  refine lv_iload_n hx hb dX1_lay_0 rfl (lv_at hl 1 rfl) ?_
  refine lv_iload_n hx hb dX1_lay_1 rfl (lv_at hl 2 rfl) ?_
  have hPc := hP.sub (ws' := []) [] rfl
  have hDc := hD.sub (ws' := []) [] (by decide) rfl
  have hFc := va_free (wc := []) hD hS hA [] rfl
  refine q_ci (wr := [(z0, .inr (3, [.ref zc])), (zc, .inl (g.2.1 0, 64, .inl f1))]) (va_runS (As := [.int n1, .int n2]) (rest := []) ⟨hx, hb, hml, hown, htg⟩ (c_X1_isCell l hfl g n1 n2  H.size) ⟨(qB htg k395 k53 k406 ok_X1_isCell rfl rfl ⟨Nat.le_of_ble_eq_true rfl, Nat.le_of_ble_eq_true rfl⟩), htg _ k394⟩ (q_pre [.int n1, .int n2] hPc hDc hK hS hT hFc) rfl rfl hl.1 rfl (lv_room (Nat.le_of_ble_eq_true rfl)) dX1_lay_2 ⟨Nat.le_of_ble_eq_true rfl, Nat.le_of_ble_eq_true rfl⟩) hP hD hS hFc [] [0, 1] rfl rfl (by decide) (by decide) (fun r9 u9 H locs hw hP hD hS => ?_)
  try dsimp only at hw
  rcases hw with ⟨c_1, rfl, rfl⟩ | ⟨c_2, rfl, rfl⟩
  · have hP : va_P g.1 CLS [(z0, .inr (3, [.ref zc])), (zc, .inl (g.2.1 0, 64, .inl f1))] H := hP
    have hD : va_D A [(z0, .inr (3, [.ref zc])), (zc, .inl (g.2.1 0, 64, .inl f1))] := hD
    refine W.widen (k := 0) (n := 0) (Nat.le_of_ble_eq_true rfl) (Nat.le_of_ble_eq_true rfl) ?_
    refine lv_if_eq (tgt := 20) hx hb dX1_lay_5 (by decide) (fun c_3 => absurd c_3 (by decide)) (fun c_3 => ?_)
    refine lv_aload_n hx hb dX1_lay_8 rfl (lv_at hl 0 rfl) ?_
    refine va_get (D := g.1) (ci := 3) (v := .ref zc) (C := RX1) (T := TX1) (N := 1) hx hb htg inG_X1 hown hK hP 0 rfl rfl 0 (by decide) (htg _ k134) (fun _ h9 => h9) rfl dX1_lay_9 ?_
    refine lv_bipush (v := 8) hx hb dX1_lay_12 (by decide) ?_
    refine lv_iload_n hx hb dX1_lay_14 rfl (lv_at hl 2 rfl) ?_
    refine lv_imul hx hb dX1_lay_15 ?_
    refine lv_topi (fun x_4 ex_4 => ?_)
    refine lv_iload_n hx hb dX1_lay_16 rfl (lv_at hl 1 rfl) ?_
    refine lv_iadd hx hb dX1_lay_17 ?_
    refine lv_topi (fun x_5 ex_5 => ?_)
    refine lv_iload_n hx hb dX1_lay_18 rfl (lv_at hl 3 rfl) ?_
    refine va_cast hx hb hK hP hD hS 1 0 rfl rfl (i := x_5) (cellIn ho ex_4 ex_5) dX1_lay_19 (fun H locs hP hD hS => ?_)
    have hP : va_P g.1 CLS [(z0, .inr (3, [.ref zc])), (zc, .inl (g.2.1 0, 64, .inl (upd f1 x_5.toNatClampNeg (vp_nar .char n3))))] H := hP
    have hD : va_D A [(z0, .inr (3, [.ref zc])), (zc, .inl (g.2.1 0, 64, .inl (upd f1 x_5.toNatClampNeg (vp_nar .char n3))))] := hD
    have hP9 := hP.sub (ws' := [(z0, .inr (3, [.ref zc])), (zc, .inl (g.2.1 0, 64, .inl (upd f1 x_5.toNatClampNeg (vp_nar .char n3))))]) [0, 1] rfl
    have hD9 := hD.sub (ws' := [(z0, .inr (3, [.ref zc])), (zc, .inl (g.2.1 0, 64, .inl (upd f1 x_5.toNatClampNeg (vp_nar .char n3))))]) [0, 1] (by decide) rfl
    refine W.widen (k := 0) (n := 0) (Nat.le_of_ble_eq_true rfl) (Nat.le_of_ble_eq_true rfl) ?_
    exact W.vret hx hb hr (fun t ht hW => ⟨⟨[(z0, .inr (3, [.ref zc])), (zc, .inl (g.2.1 0, 64, .inl (upd f1 x_5.toNatClampNeg (vp_nar .char n3))))], rfl, ⟨(upd f1 x_5.toNatClampNeg (vp_nar .char n3)), rfl⟩, by rw [ht]; exact hP9, va_K.moved hW.alike hK, hD9⟩, hS.F ht⟩) hS.2.2 dX1_lay_20
  · exact absurd ho c_2

set_option maxHeartbeats 4000000 in
set_option maxRecDepth 100000 in
theorem c_X2_init (l : Launch) (hfl : l.stackTraces = false) (g : GP) (z0 : Nat)  : CV l yX2_init (wG yX2_init cX2_init 1 (Option.none : Option Jvm.ClassFile.FieldType)) (LV 2 5 27) g [.ref z0] ([(z0, .inr (4, [.int 0, .int 0, .int 0, .int 0, .int 0, .int 0, .int 0, .int 0, .int 0, .int 0, .int 0, .int 0, .null, .null, .null, .null, .null]))]) (fun (u : va_W) => ∃ (q1 : Nat) (q2 : Nat) (q3 : Nat) (q4 : Nat) (q5 : Nat), u = [(z0, .inr (4, [.int 0, .int 0, .int 0, .int 0, .int 0, .int 0, .int 0, .int 0, .int 0, .int 0, .int 0, .int 0, .ref q1, .ref q2, .ref q3, .ref q4, .ref q5])), (q1, .inl (g.2.1 1, 5, .inl (fun _ => 0))), (q2, .inl (g.2.1 1, 5, .inl (fun _ => 0))), (q3, .inl (g.2.1 2, 5, .inl (fun _ => 0))), (q4, .inl (g.2.1 1, 6, .inl (fun _ => 0))), (q5, .inl (g.2.1 2, 6, .inl (fun _ => 0)))]) := by
  intro sz
  refine Met.ofW (cc := cX2_init) (maxL := 1) (ret := (Option.none : Option Jvm.ClassFile.FieldType)) (by decide) rfl ?_
  intro p e s m args below meth c s₁ B hml hv
  obtain ⟨rfl, hsz, hP, hK, hD0, hT0⟩ := hv
  have hx := B.exec
  have hb := B.bytes
  have hr := B.returns
  have hts := atoms_spec (ws := (wG yX2_init cX2_init 1 (Option.none : Option Jvm.ClassFile.FieldType))) B.pre
  have htg : ∀ w ∈ G9, w.before _ s = true := fun w h => hts w (List.mem_cons_of_mem _ h)
  have hown : s.vm.findClass "HeroTable$Hero" = some m.cls := findClass_of_methodNamed B.named
  have hlocks := B.notSynchronized
  have hin : meth.name = "<init>" := (name_of_methodNamed B.named B.method).1
  subst hsz
  have hD := hD0.self (sz := s.heap.size)
  have hT := hT0
  clear hT0
  generalize hAe : va_A [(z0, .inr (4, [.int 0, .int 0, .int 0, .int 0, .int 0, .int 0, .int 0, .int 0, .int 0, .int 0, .int 0, .int 0, .null, .null, .null, .null, .null]))] s.heap.size = A at hD hT ⊢
  have hA : ∀ q : Nat, s.heap.size ≤ q → A q := fun q h => by rw [← hAe]; exact Or.inr h
  obtain ⟨H, hH0⟩ : ∃ H, H = s.heap := ⟨_, rfl⟩
  have hS : va_S A s.heap H [] := by rw [hH0]; exact va_S.rf
  have hP : va_P g.1 CLS [(z0, .inr (4, [.int 0, .int 0, .int 0, .int 0, .int 0, .int 0, .int 0, .int 0, .int 0, .int 0, .int 0, .int 0, .null, .null, .null, .null, .null]))] H := by rw [hH0]; exact hP
  rw [← hH0]
  have hl := lv_entry ([.ref z0]) (n := 1) (Nat.le_of_ble_eq_true rfl)
  rw [lg_entry_eq]
  generalize (lg_sl ([.ref z0]) ++ List.replicate (1 - (lg_sl ([.ref z0])).length) Slot.unset).toArray = ls at hl ⊢
  have hl : lv_has ls 1 [(0, .ref z0)] := hl
  refine lv_aload_n hx hb dX2_init_0 rfl (lv_at hl 0 rfl) ?_
  refine W.objInit hx hb hown (htg _ k161) (htg _ k98) (htg _ k99) rfl (by rw [hml]; exact hl.1) rfl dX2_init_1 (Nat.le_of_ble_eq_true rfl) (Nat.le_of_ble_eq_true rfl) ?_
  refine W.eq (g2 := F0 m 4 ls []) rfl ?_
  refine lv_aload_n hx hb dX2_init_4 rfl (lv_at hl 0 rfl) ?_
  refine lv_iconst (v := 5) hx hb dX2_init_5 (by decide) ?_
  refine va_newa (atype := .int) (ty := .int) (a0 := (5, .inl (fun _ => 0))) (N' := 5) hx hb (htg _ k156) rfl hK hP hD hS hA (fun _ => rfl) (by decide) (by decide) (by decide) (Nat.le_of_ble_eq_true rfl) (Nat.le_of_ble_eq_true rfl) dX2_init_6 (fun q_1 cA H hK9 hP hD hS => ?_)
  obtain rfl := q_arr hK9 (t0 := 1) rfl (by decide)
  clear hK9
  have hP : va_P g.1 CLS [(z0, .inr (4, [.int 0, .int 0, .int 0, .int 0, .int 0, .int 0, .int 0, .int 0, .int 0, .int 0, .int 0, .int 0, .null, .null, .null, .null, .null])), (q_1, .inl (g.2.1 1, 5, .inl (fun _ => 0)))] H := hP
  have hD : va_D A [(z0, .inr (4, [.int 0, .int 0, .int 0, .int 0, .int 0, .int 0, .int 0, .int 0, .int 0, .int 0, .int 0, .int 0, .null, .null, .null, .null, .null])), (q_1, .inl (g.2.1 1, 5, .inl (fun _ => 0)))] := hD
  refine W.widen (k := 1) (n := 5) (Nat.le_of_ble_eq_true rfl) (Nat.le_of_ble_eq_true rfl) ?_
  refine va_putF (D := g.1) (ci := 4) (v := .ref q_1) (ty := (.array .int)) (C := RX2) (T := TX2) (N := 17) hx hb htg inG_X2 tyX2 tyX2_ok nmX2 hown hK hP hD hS 0 rfl rfl 12 (by decide) (htg _ k195) (fun _ h9 => h9) rfl hin rfl (by decide +kernel) rfl rfl (Nat.le_of_ble_eq_true rfl) dX2_init_8 (fun H locs hP hD hS => ?_)
  have hP : va_P g.1 CLS [(z0, .inr (4, [.int 0, .int 0, .int 0, .int 0, .int 0, .int 0, .int 0, .int 0, .int 0, .int 0, .int 0, .int 0, .ref q_1, .null, .null, .null, .null])), (q_1, .inl (g.2.1 1, 5, .inl (fun _ => 0)))] H := hP
  have hD : va_D A [(z0, .inr (4, [.int 0, .int 0, .int 0, .int 0, .int 0, .int 0, .int 0, .int 0, .int 0, .int 0, .int 0, .int 0, .ref q_1, .null, .null, .null, .null])), (q_1, .inl (g.2.1 1, 5, .inl (fun _ => 0)))] := hD
  refine lv_aload_n hx hb dX2_init_11 rfl (lv_at hl 0 rfl) ?_
  refine lv_iconst (v := 5) hx hb dX2_init_12 (by decide) ?_
  refine va_newa (atype := .int) (ty := .int) (a0 := (5, .inl (fun _ => 0))) (N' := 5) hx hb (htg _ k156) rfl hK hP hD hS hA (fun _ => rfl) (by decide) (by decide) (by decide) (Nat.le_of_ble_eq_true rfl) (Nat.le_of_ble_eq_true rfl) dX2_init_13 (fun q_2 cA H hK9 hP hD hS => ?_)
  obtain rfl := q_arr hK9 (t0 := 1) rfl (by decide)
  clear hK9
  have hP : va_P g.1 CLS [(z0, .inr (4, [.int 0, .int 0, .int 0, .int 0, .int 0, .int 0, .int 0, .int 0, .int 0, .int 0, .int 0, .int 0, .ref q_1, .null, .null, .null, .null])), (q_1, .inl (g.2.1 1, 5, .inl (fun _ => 0))), (q_2, .inl (g.2.1 1, 5, .inl (fun _ => 0)))] H := hP
  have hD : va_D A [(z0, .inr (4, [.int 0, .int 0, .int 0, .int 0, .int 0, .int 0, .int 0, .int 0, .int 0, .int 0, .int 0, .int 0, .ref q_1, .null, .null, .null, .null])), (q_1, .inl (g.2.1 1, 5, .inl (fun _ => 0))), (q_2, .inl (g.2.1 1, 5, .inl (fun _ => 0)))] := hD
  refine W.widen (k := 2) (n := 10) (Nat.le_of_ble_eq_true rfl) (Nat.le_of_ble_eq_true rfl) ?_
  refine va_putF (D := g.1) (ci := 4) (v := .ref q_2) (ty := (.array .int)) (C := RX2) (T := TX2) (N := 17) hx hb htg inG_X2 tyX2 tyX2_ok nmX2 hown hK hP hD hS 0 rfl rfl 13 (by decide) (htg _ k198) (fun _ h9 => h9) rfl hin rfl (by decide +kernel) rfl rfl (Nat.le_of_ble_eq_true rfl) dX2_init_15 (fun H locs hP hD hS => ?_)
  have hP : va_P g.1 CLS [(z0, .inr (4, [.int 0, .int 0, .int 0, .int 0, .int 0, .int 0, .int 0, .int 0, .int 0, .int 0, .int 0, .int 0, .ref q_1, .ref q_2, .null, .null, .null])), (q_1, .inl (g.2.1 1, 5, .inl (fun _ => 0))), (q_2, .inl (g.2.1 1, 5, .inl (fun _ => 0)))] H := hP
  have hD : va_D A [(z0, .inr (4, [.int 0, .int 0, .int 0, .int 0, .int 0, .int 0, .int 0, .int 0, .int 0, .int 0, .int 0, .int 0, .ref q_1, .ref q_2, .null, .null, .null])), (q_1, .inl (g.2.1 1, 5, .inl (fun _ => 0))), (q_2, .inl (g.2.1 1, 5, .inl (fun _ => 0)))] := hD
  refine lv_aload_n hx hb dX2_init_18 rfl (lv_at hl 0 rfl) ?_
  refine lv_iconst (v := 5) hx hb dX2_init_19 (by decide) ?_
  refine va_newa (atype := .boolean) (ty := .boolean) (a0 := (5, .inl (fun _ => 0))) (N' := 5) hx hb (htg _ k242) rfl hK hP hD hS hA (fun _ => rfl) (by decide) (by decide) (by decide) (Nat.le_of_ble_eq_true rfl) (Nat.le_of_ble_eq_true rfl) dX2_init_20 (fun q_3 cA H hK9 hP hD hS => ?_)
  obtain rfl := q_arr hK9 (t0 := 2) rfl (by decide)
  clear hK9
  have hP : va_P g.1 CLS [(z0, .inr (4, [.int 0, .int 0, .int 0, .int 0, .int 0, .int 0, .int 0, .int 0, .int 0, .int 0, .int 0, .int 0, .ref q_1, .ref q_2, .null, .null, .null])), (q_1, .inl (g.2.1 1, 5, .inl (fun _ => 0))), (q_2, .inl (g.2.1 1, 5, .inl (fun _ => 0))), (q_3, .inl (g.2.1 2, 5, .inl (fun _ => 0)))] H := hP
  have hD : va_D A [(z0, .inr (4, [.int 0, .int 0, .int 0, .int 0, .int 0, .int 0, .int 0, .int 0, .int 0, .int 0, .int 0, .int 0, .ref q_1, .ref q_2, .null, .null, .null])), (q_1, .inl (g.2.1 1, 5, .inl (fun _ => 0))), (q_2, .inl (g.2.1 1, 5, .inl (fun _ => 0))), (q_3, .inl (g.2.1 2, 5, .inl (fun _ => 0)))] := hD
  refine W.widen (k := 3) (n := 15) (Nat.le_of_ble_eq_true rfl) (Nat.le_of_ble_eq_true rfl) ?_
  refine va_putF (D := g.1) (ci := 4) (v := .ref q_3) (ty := (.array .boolean)) (C := RX2) (T := TX2) (N := 17) hx hb htg inG_X2 tyX2 tyX2_ok nmX2 hown hK hP hD hS 0 rfl rfl 14 (by decide) (htg _ k200) (fun _ h9 => h9) rfl hin rfl (by decide +kernel) rfl rfl (Nat.le_of_ble_eq_true rfl) dX2_init_22 (fun H locs hP hD hS => ?_)
  have hP : va_P g.1 CLS [(z0, .inr (4, [.int 0, .int 0, .int 0, .int 0, .int 0, .int 0, .int 0, .int 0, .int 0, .int 0, .int 0, .int 0, .ref q_1, .ref q_2, .ref q_3, .null, .null])), (q_1, .inl (g.2.1 1, 5, .inl (fun _ => 0))), (q_2, .inl (g.2.1 1, 5, .inl (fun _ => 0))), (q_3, .inl (g.2.1 2, 5, .inl (fun _ => 0)))] H := hP
  have hD : va_D A [(z0, .inr (4, [.int 0, .int 0, .int 0, .int 0, .int 0, .int 0, .int 0, .int 0, .int 0, .int 0, .int 0, .int 0, .ref q_1, .ref q_2, .ref q_3, .null, .null])), (q_1, .inl (g.2.1 1, 5, .inl (fun _ => 0))), (q_2, .inl (g.2.1 1, 5, .inl (fun _ => 0))), (q_3, .inl (g.2.1 2, 5, .inl (fun _ => 0)))] := hD
  refine lv_aload_n hx hb dX2_init_25 rfl (lv_at hl 0 rfl) ?_
  refine lv_bipush (v := 6) hx hb dX2_init_26 (by decide) ?_
  refine va_newa (atype := .int) (ty := .int) (a0 := (6, .inl (fun _ => 0))) (N' := 6) hx hb (htg _ k156) rfl hK hP hD hS hA (fun _ => rfl) (by decide) (by decide) (by decide) (Nat.le_of_ble_eq_true rfl) (Nat.le_of_ble_eq_true rfl) dX2_init_28 (fun q_4 cA H hK9 hP hD hS => ?_)
  obtain rfl := q_arr hK9 (t0 := 1) rfl (by decide)
  clear hK9
  have hP : va_P g.1 CLS [(z0, .inr (4, [.int 0, .int 0, .int 0, .int 0, .int 0, .int 0, .int 0, .int 0, .int 0, .int 0, .int 0, .int 0, .ref q_1, .ref q_2, .ref q_3, .null, .null])), (q_1, .inl (g.2.1 1, 5, .inl (fun _ => 0))), (q_2, .inl (g.2.1 1, 5, .inl (fun _ => 0))), (q_3, .inl (g.2.1 2, 5, .inl (fun _ => 0))), (q_4, .inl (g.2.1 1, 6, .inl (fun _ => 0)))] H := hP
  have hD : va_D A [(z0, .inr (4, [.int 0, .int 0, .int 0, .int 0, .int 0, .int 0, .int 0, .int 0, .int 0, .int 0, .int 0, .int 0, .ref q_1, .ref q_2, .ref q_3, .null, .null])), (q_1, .inl (g.2.1 1, 5, .inl (fun _ => 0))), (q_2, .inl (g.2.1 1, 5, .inl (fun _ => 0))), (q_3, .inl (g.2.1 2, 5, .inl (fun _ => 0))), (q_4, .inl (g.2.1 1, 6, .inl (fun _ => 0)))] := hD
  refine W.widen (k := 4) (n := 21) (Nat.le_of_ble_eq_true rfl) (Nat.le_of_ble_eq_true rfl) ?_
  refine va_putF (D := g.1) (ci := 4) (v := .ref q_4) (ty := (.array .int)) (C := RX2) (T := TX2) (N := 17) hx hb htg inG_X2 tyX2 tyX2_ok nmX2 hown hK hP hD hS 0 rfl rfl 15 (by decide) (htg _ k203) (fun _ h9 => h9) rfl hin rfl (by decide +kernel) rfl rfl (Nat.le_of_ble_eq_true rfl) dX2_init_30 (fun H locs hP hD hS => ?_)
  have hP : va_P g.1 CLS [(z0, .inr (4, [.int 0, .int 0, .int 0, .int 0, .int 0, .int 0, .int 0, .int 0, .int 0, .int 0, .int 0, .int 0, .ref q_1, .ref q_2, .ref q_3, .ref q_4, .null])), (q_1, .inl (g.2.1 1, 5, .inl (fun _ => 0))), (q_2, .inl (g.2.1 1, 5, .inl (fun _ => 0))), (q_3, .inl (g.2.1 2, 5, .inl (fun _ => 0))), (q_4, .inl (g.2.1 1, 6, .inl (fun _ => 0)))] H := hP
  have hD : va_D A [(z0, .inr (4, [.int 0, .int 0, .int 0, .int 0, .int 0, .int 0, .int 0, .int 0, .int 0, .int 0, .int 0, .int 0, .ref q_1, .ref q_2, .ref q_3, .ref q_4, .null])), (q_1, .inl (g.2.1 1, 5, .inl (fun _ => 0))), (q_2, .inl (g.2.1 1, 5, .inl (fun _ => 0))), (q_3, .inl (g.2.1 2, 5, .inl (fun _ => 0))), (q_4, .inl (g.2.1 1, 6, .inl (fun _ => 0)))] := hD
  refine lv_aload_n hx hb dX2_init_33 rfl (lv_at hl 0 rfl) ?_
  refine lv_bipush (v := 6) hx hb dX2_init_34 (by decide) ?_
  refine va_newa (atype := .boolean) (ty := .boolean) (a0 := (6, .inl (fun _ => 0))) (N' := 6) hx hb (htg _ k242) rfl hK hP hD hS hA (fun _ => rfl) (by decide) (by decide) (by decide) (Nat.le_of_ble_eq_true rfl) (Nat.le_of_ble_eq_true rfl) dX2_init_36 (fun q_5 cA H hK9 hP hD hS => ?_)
  obtain rfl := q_arr hK9 (t0 := 2) rfl (by decide)
  clear hK9
  have hP : va_P g.1 CLS [(z0, .inr (4, [.int 0, .int 0, .int 0, .int 0, .int 0, .int 0, .int 0, .int 0, .int 0, .int 0, .int 0, .int 0, .ref q_1, .ref q_2, .ref q_3, .ref q_4, .null])), (q_1, .inl (g.2.1 1, 5, .inl (fun _ => 0))), (q_2, .inl (g.2.1 1, 5, .inl (fun _ => 0))), (q_3, .inl (g.2.1 2, 5, .inl (fun _ => 0))), (q_4, .inl (g.2.1 1, 6, .inl (fun _ => 0))), (q_5, .inl (g.2.1 2, 6, .inl (fun _ => 0)))] H := hP
  have hD : va_D A [(z0, .inr (4, [.int 0, .int 0, .int 0, .int 0, .int 0, .int 0, .int 0, .int 0, .int 0, .int 0, .int 0, .int 0, .ref q_1, .ref q_2, .ref q_3, .ref q_4, .null])), (q_1, .inl (g.2.1 1, 5, .inl (fun _ => 0))), (q_2, .inl (g.2.1 1, 5, .inl (fun _ => 0))), (q_3, .inl (g.2.1 2, 5, .inl (fun _ => 0))), (q_4, .inl (g.2.1 1, 6, .inl (fun _ => 0))), (q_5, .inl (g.2.1 2, 6, .inl (fun _ => 0)))] := hD
  refine W.widen (k := 5) (n := 27) (Nat.le_of_ble_eq_true rfl) (Nat.le_of_ble_eq_true rfl) ?_
  refine va_putF (D := g.1) (ci := 4) (v := .ref q_5) (ty := (.array .boolean)) (C := RX2) (T := TX2) (N := 17) hx hb htg inG_X2 tyX2 tyX2_ok nmX2 hown hK hP hD hS 0 rfl rfl 16 (by decide) (htg _ k205) (fun _ h9 => h9) rfl hin rfl (by decide +kernel) rfl rfl (Nat.le_of_ble_eq_true rfl) dX2_init_38 (fun H locs hP hD hS => ?_)
  have hP : va_P g.1 CLS [(z0, .inr (4, [.int 0, .int 0, .int 0, .int 0, .int 0, .int 0, .int 0, .int 0, .int 0, .int 0, .int 0, .int 0, .ref q_1, .ref q_2, .ref q_3, .ref q_4, .ref q_5])), (q_1, .inl (g.2.1 1, 5, .inl (fun _ => 0))), (q_2, .inl (g.2.1 1, 5, .inl (fun _ => 0))), (q_3, .inl (g.2.1 2, 5, .inl (fun _ => 0))), (q_4, .inl (g.2.1 1, 6, .inl (fun _ => 0))), (q_5, .inl (g.2.1 2, 6, .inl (fun _ => 0)))] H := hP
  have hD : va_D A [(z0, .inr (4, [.int 0, .int 0, .int 0, .int 0, .int 0, .int 0, .int 0, .int 0, .int 0, .int 0, .int 0, .int 0, .ref q_1, .ref q_2, .ref q_3, .ref q_4, .ref q_5])), (q_1, .inl (g.2.1 1, 5, .inl (fun _ => 0))), (q_2, .inl (g.2.1 1, 5, .inl (fun _ => 0))), (q_3, .inl (g.2.1 2, 5, .inl (fun _ => 0))), (q_4, .inl (g.2.1 1, 6, .inl (fun _ => 0))), (q_5, .inl (g.2.1 2, 6, .inl (fun _ => 0)))] := hD
  have hP9 := hP.sub (ws' := [(z0, .inr (4, [.int 0, .int 0, .int 0, .int 0, .int 0, .int 0, .int 0, .int 0, .int 0, .int 0, .int 0, .int 0, .ref q_1, .ref q_2, .ref q_3, .ref q_4, .ref q_5])), (q_1, .inl (g.2.1 1, 5, .inl (fun _ => 0))), (q_2, .inl (g.2.1 1, 5, .inl (fun _ => 0))), (q_3, .inl (g.2.1 2, 5, .inl (fun _ => 0))), (q_4, .inl (g.2.1 1, 6, .inl (fun _ => 0))), (q_5, .inl (g.2.1 2, 6, .inl (fun _ => 0)))]) [0, 1, 2, 3, 4, 5] rfl
  have hD9 := hD.sub (ws' := [(z0, .inr (4, [.int 0, .int 0, .int 0, .int 0, .int 0, .int 0, .int 0, .int 0, .int 0, .int 0, .int 0, .int 0, .ref q_1, .ref q_2, .ref q_3, .ref q_4, .ref q_5])), (q_1, .inl (g.2.1 1, 5, .inl (fun _ => 0))), (q_2, .inl (g.2.1 1, 5, .inl (fun _ => 0))), (q_3, .inl (g.2.1 2, 5, .inl (fun _ => 0))), (q_4, .inl (g.2.1 1, 6, .inl (fun _ => 0))), (q_5, .inl (g.2.1 2, 6, .inl (fun _ => 0)))]) [0, 1, 2, 3, 4, 5] (by decide) rfl
  refine W.widen (k := 5) (n := 27) (Nat.le_of_ble_eq_true rfl) (Nat.le_of_ble_eq_true rfl) ?_
  exact W.vret hx hb hr (fun t ht hW => ⟨⟨[(z0, .inr (4, [.int 0, .int 0, .int 0, .int 0, .int 0, .int 0, .int 0, .int 0, .int 0, .int 0, .int 0, .int 0, .ref q_1, .ref q_2, .ref q_3, .ref q_4, .ref q_5])), (q_1, .inl (g.2.1 1, 5, .inl (fun _ => 0))), (q_2, .inl (g.2.1 1, 5, .inl (fun _ => 0))), (q_3, .inl (g.2.1 2, 5, .inl (fun _ => 0))), (q_4, .inl (g.2.1 1, 6, .inl (fun _ => 0))), (q_5, .inl (g.2.1 2, 6, .inl (fun _ => 0)))], rfl, ⟨q_1, q_2, q_3, q_4, q_5, rfl⟩, by rw [ht]; exact hP9, va_K.moved hW.alike hK, hD9⟩, hS.F ht⟩) hS.2.2 dX2_init_41

set_option maxHeartbeats 4000000 in
set_option maxRecDepth 100000 in
theorem c_J7_fill (l : Launch) (hfl : l.stackTraces = false) (g : GP) (z0 : Nat) (f1 : Nat → Int32) (n1 : Int32)  : CV l yJ7_fill_53178 (wG yJ7_fill_53178 cJ7_fill_53178 4 (Option.none : Option Jvm.ClassFile.FieldType)) (LV 1 0 0) g [.ref z0, .int n1] ([(z0, .inl (g.2.1 1, 6, .inl f1))]) (fun (u : va_W) => ∃ (f2 : Nat → Int32), u = [(z0, .inl (g.2.1 1, 6, .inl f2))]) := by
  intro sz
  refine Met.ofW (cc := cJ7_fill_53178) (maxL := 4) (ret := (Option.none : Option Jvm.ClassFile.FieldType)) (by decide) rfl ?_
  intro p e s m args below meth c s₁ B hml hv
  obtain ⟨rfl, hsz, hP, hK, hD0, hT0⟩ := hv
  have hx := B.exec
  have hb := B.bytes
  have hr := B.returns
  have hts := atoms_spec (ws := (wG yJ7_fill_53178 cJ7_fill_53178 4 (Option.none : Option Jvm.ClassFile.FieldType))) B.pre
  have htg : ∀ w ∈ G9, w.before _ s = true := fun w h => hts w (List.mem_cons_of_mem _ h)
  have hown : s.vm.findClass "java/util/Arrays" = some m.cls := findClass_of_methodNamed B.named
  have hlocks := B.notSynchronized
  subst hsz
  have hD := hD0.self (sz := s.heap.size)
  have hT := hT0
  clear hT0
  generalize hAe : va_A [(z0, .inl (g.2.1 1, 6, .inl f1))] s.heap.size = A at hD hT ⊢
  have hA : ∀ q : Nat, s.heap.size ≤ q → A q := fun q h => by rw [← hAe]; exact Or.inr h
  obtain ⟨H, hH0⟩ : ∃ H, H = s.heap := ⟨_, rfl⟩
  have hS : va_S A s.heap H [] := by rw [hH0]; exact va_S.rf
  have hP : va_P g.1 CLS [(z0, .inl (g.2.1 1, 6, .inl f1))] H := by rw [hH0]; exact hP
  rw [← hH0]
  have hl := lv_entry ([.ref z0, .int n1]) (n := 4) (Nat.le_of_ble_eq_true rfl)
  rw [lg_entry_eq]
  generalize (lg_sl ([.ref z0, .int n1]) ++ List.replicate (4 - (lg_sl ([.ref z0, .int n1])).length) Slot.unset).toArray = ls at hl ⊢
  have hl : lv_has ls 4 [(0, .ref z0), (1, .int n1)] := hl
  refine lv_iconst (v := 0) hx hb dJ7_fill_53178_0 (by decide) ?_
  refine lv_istore_n (lv' := [(2, .int 0), (0, .ref z0), (1, .int n1)]) hx hb dJ7_fill_53178_1 rfl hl (by decide) rfl (fun ls hl => ?_)
  refine lv_aload_n hx hb dJ7_fill_53178_2 rfl (lv_at hl 1 rfl) ?_
  refine va_alen (v := 6) hx hb hK hP 0 1 rfl rfl rfl dJ7_fill_53178_3 ?_
  refine lv_istore_n (lv' := [(3, .int 6), (2, .int 0), (0, .ref z0), (1, .int n1)]) hx hb dJ7_fill_53178_4 rfl hl (by decide) rfl (fun ls hl => ?_)
  refine lv_iload_n hx hb dJ7_fill_53178_5 rfl (lv_at hl 1 rfl) ?_
  refine lv_iload_n hx hb dJ7_fill_53178_6 rfl (lv_at hl 0 rfl) ?_
  refine lv_icmp_ge (tgt := 20) hx hb dJ7_fill_53178_7 (by decide) (fun c_1 => absurd c_1 (by decide)) (fun c_1 => ?_)
  refine lv_aload_n hx hb dJ7_fill_53178_10 rfl (lv_at hl 2 rfl) ?_
  refine lv_iload_n hx hb dJ7_fill_53178_11 rfl (lv_at hl 1 rfl) ?_
  refine lv_iload_n hx hb dJ7_fill_53178_12 rfl (lv_at hl 3 rfl) ?_
  refine va_iast hx hb hK hP hD hS 0 1 rfl rfl (i := 0) (vp_in_iff.mpr (by decide)) dJ7_fill_53178_13 (fun H locs hP hD hS => ?_)
  have hP : va_P g.1 CLS [(z0, .inl (g.2.1 1, 6, .inl (upd f1 0 n1)))] H := hP
  have hD : va_D A [(z0, .inl (g.2.1 1, 6, .inl (upd f1 0 n1)))] := hD
  refine lv_iinc (v := 1) (lv' := [(2, .int 1), (3, .int 6), (0, .ref z0), (1, .int n1)]) hx hb dJ7_fill_53178_14 hl (k := 1) rfl (by decide) (by decide) rfl (fun ls hl => ?_)
  refine lv_goto (tgt := 5) hx hb dJ7_fill_53178_17 (by decide) ?_
  refine lv_iload_n hx hb dJ7_fill_53178_5 rfl (lv_at hl 0 rfl) ?_
  refine lv_iload_n hx hb dJ7_fill_53178_6 rfl (lv_at hl 1 rfl) ?_
  refine lv_icmp_ge (tgt := 20) hx hb dJ7_fill_53178_7 (by decide) (fun c_2 => absurd c_2 (by decide)) (fun c_2 => ?_)
  refine lv_aload_n hx hb dJ7_fill_53178_10 rfl (lv_at hl 2 rfl) ?_
  refine lv_iload_n hx hb dJ7_fill_53178_11 rfl (lv_at hl 0 rfl) ?_
  refine lv_iload_n hx hb dJ7_fill_53178_12 rfl (lv_at hl 3 rfl) ?_
  refine va_iast hx hb hK hP hD hS 0 1 rfl rfl (i := 1) (vp_in_iff.mpr (by decide)) dJ7_fill_53178_13 (fun H locs hP hD hS => ?_)
  have hP : va_P g.1 CLS [(z0, .inl (g.2.1 1, 6, .inl (upd (upd f1 0 n1) 1 n1)))] H := hP
  have hD : va_D A [(z0, .inl (g.2.1 1, 6, .inl (upd (upd f1 0 n1) 1 n1)))] := hD
  refine lv_iinc (v := 2) (lv' := [(2, .int 2), (3, .int 6), (0, .ref z0), (1, .int n1)]) hx hb dJ7_fill_53178_14 hl (k := 0) rfl (by decide) (by decide) rfl (fun ls hl => ?_)
  refine lv_goto (tgt := 5) hx hb dJ7_fill_53178_17 (by decide) ?_
  refine lv_iload_n hx hb dJ7_fill_53178_5 rfl (lv_at hl 0 rfl) ?_
  refine lv_iload_n hx hb dJ7_fill_53178_6 rfl (lv_at hl 1 rfl) ?_
  refine lv_icmp_ge (tgt := 20) hx hb dJ7_fill_53178_7 (by decide) (fun c_3 => absurd c_3 (by decide)) (fun c_3 => ?_)
  refine lv_aload_n hx hb dJ7_fill_53178_10 rfl (lv_at hl 2 rfl) ?_
  refine lv_iload_n hx hb dJ7_fill_53178_11 rfl (lv_at hl 0 rfl) ?_
  refine lv_iload_n hx hb dJ7_fill_53178_12 rfl (lv_at hl 3 rfl) ?_
  refine va_iast hx hb hK hP hD hS 0 1 rfl rfl (i := 2) (vp_in_iff.mpr (by decide)) dJ7_fill_53178_13 (fun H locs hP hD hS => ?_)
  have hP : va_P g.1 CLS [(z0, .inl (g.2.1 1, 6, .inl (upd (upd (upd f1 0 n1) 1 n1) 2 n1)))] H := hP
  have hD : va_D A [(z0, .inl (g.2.1 1, 6, .inl (upd (upd (upd f1 0 n1) 1 n1) 2 n1)))] := hD
  refine lv_iinc (v := 3) (lv' := [(2, .int 3), (3, .int 6), (0, .ref z0), (1, .int n1)]) hx hb dJ7_fill_53178_14 hl (k := 0) rfl (by decide) (by decide) rfl (fun ls hl => ?_)
  refine lv_goto (tgt := 5) hx hb dJ7_fill_53178_17 (by decide) ?_
  refine lv_iload_n hx hb dJ7_fill_53178_5 rfl (lv_at hl 0 rfl) ?_
  refine lv_iload_n hx hb dJ7_fill_53178_6 rfl (lv_at hl 1 rfl) ?_
  refine lv_icmp_ge (tgt := 20) hx hb dJ7_fill_53178_7 (by decide) (fun c_4 => absurd c_4 (by decide)) (fun c_4 => ?_)
  refine lv_aload_n hx hb dJ7_fill_53178_10 rfl (lv_at hl 2 rfl) ?_
  refine lv_iload_n hx hb dJ7_fill_53178_11 rfl (lv_at hl 0 rfl) ?_
  refine lv_iload_n hx hb dJ7_fill_53178_12 rfl (lv_at hl 3 rfl) ?_
  refine va_iast hx hb hK hP hD hS 0 1 rfl rfl (i := 3) (vp_in_iff.mpr (by decide)) dJ7_fill_53178_13 (fun H locs hP hD hS => ?_)
  have hP : va_P g.1 CLS [(z0, .inl (g.2.1 1, 6, .inl (upd (upd (upd (upd f1 0 n1) 1 n1) 2 n1) 3 n1)))] H := hP
  have hD : va_D A [(z0, .inl (g.2.1 1, 6, .inl (upd (upd (upd (upd f1 0 n1) 1 n1) 2 n1) 3 n1)))] := hD
  refine lv_iinc (v := 4) (lv' := [(2, .int 4), (3, .int 6), (0, .ref z0), (1, .int n1)]) hx hb dJ7_fill_53178_14 hl (k := 0) rfl (by decide) (by decide) rfl (fun ls hl => ?_)
  refine lv_goto (tgt := 5) hx hb dJ7_fill_53178_17 (by decide) ?_
  refine lv_iload_n hx hb dJ7_fill_53178_5 rfl (lv_at hl 0 rfl) ?_
  refine lv_iload_n hx hb dJ7_fill_53178_6 rfl (lv_at hl 1 rfl) ?_
  refine lv_icmp_ge (tgt := 20) hx hb dJ7_fill_53178_7 (by decide) (fun c_5 => absurd c_5 (by decide)) (fun c_5 => ?_)
  refine lv_aload_n hx hb dJ7_fill_53178_10 rfl (lv_at hl 2 rfl) ?_
  refine lv_iload_n hx hb dJ7_fill_53178_11 rfl (lv_at hl 0 rfl) ?_
  refine lv_iload_n hx hb dJ7_fill_53178_12 rfl (lv_at hl 3 rfl) ?_
  refine va_iast hx hb hK hP hD hS 0 1 rfl rfl (i := 4) (vp_in_iff.mpr (by decide)) dJ7_fill_53178_13 (fun H locs hP hD hS => ?_)
  have hP : va_P g.1 CLS [(z0, .inl (g.2.1 1, 6, .inl (upd (upd (upd (upd (upd f1 0 n1) 1 n1) 2 n1) 3 n1) 4 n1)))] H := hP
  have hD : va_D A [(z0, .inl (g.2.1 1, 6, .inl (upd (upd (upd (upd (upd f1 0 n1) 1 n1) 2 n1) 3 n1) 4 n1)))] := hD
  refine lv_iinc (v := 5) (lv' := [(2, .int 5), (3, .int 6), (0, .ref z0), (1, .int n1)]) hx hb dJ7_fill_53178_14 hl (k := 0) rfl (by decide) (by decide) rfl (fun ls hl => ?_)
  refine lv_goto (tgt := 5) hx hb dJ7_fill_53178_17 (by decide) ?_
  refine lv_iload_n hx hb dJ7_fill_53178_5 rfl (lv_at hl 0 rfl) ?_
  refine lv_iload_n hx hb dJ7_fill_53178_6 rfl (lv_at hl 1 rfl) ?_
  refine lv_icmp_ge (tgt := 20) hx hb dJ7_fill_53178_7 (by decide) (fun c_6 => absurd c_6 (by decide)) (fun c_6 => ?_)
  refine lv_aload_n hx hb dJ7_fill_53178_10 rfl (lv_at hl 2 rfl) ?_
  refine lv_iload_n hx hb dJ7_fill_53178_11 rfl (lv_at hl 0 rfl) ?_
  refine lv_iload_n hx hb dJ7_fill_53178_12 rfl (lv_at hl 3 rfl) ?_
  refine va_iast hx hb hK hP hD hS 0 1 rfl rfl (i := 5) (vp_in_iff.mpr (by decide)) dJ7_fill_53178_13 (fun H locs hP hD hS => ?_)
  have hP : va_P g.1 CLS [(z0, .inl (g.2.1 1, 6, .inl (upd (upd (upd (upd (upd (upd f1 0 n1) 1 n1) 2 n1) 3 n1) 4 n1) 5 n1)))] H := hP
  have hD : va_D A [(z0, .inl (g.2.1 1, 6, .inl (upd (upd (upd (upd (upd (upd f1 0 n1) 1 n1) 2 n1) 3 n1) 4 n1) 5 n1)))] := hD
  refine lv_iinc (v := 6) (lv' := [(2, .int 6), (3, .int 6), (0, .ref z0), (1, .int n1)]) hx hb dJ7_fill_53178_14 hl (k := 0) rfl (by decide) (by decide) rfl (fun ls hl => ?_)
  refine lv_goto (tgt := 5) hx hb dJ7_fill_53178_17 (by decide) ?_
  refine lv_iload_n hx hb dJ7_fill_53178_5 rfl (lv_at hl 0 rfl) ?_
  refine lv_iload_n hx hb dJ7_fill_53178_6 rfl (lv_at hl 1 rfl) ?_
  refine lv_icmp_ge (tgt := 20) hx hb dJ7_fill_53178_7 (by decide) (fun c_7 => ?_) (fun c_7 => absurd (by decide) c_7)
  have hP9 := hP.sub (ws' := [(z0, .inl (g.2.1 1, 6, .inl (upd (upd (upd (upd (upd (upd f1 0 n1) 1 n1) 2 n1) 3 n1) 4 n1) 5 n1)))]) [0] rfl
  have hD9 := hD.sub (ws' := [(z0, .inl (g.2.1 1, 6, .inl (upd (upd (upd (upd (upd (upd f1 0 n1) 1 n1) 2 n1) 3 n1) 4 n1) 5 n1)))]) [0] (by decide) rfl
  refine W.widen (k := 0) (n := 0) (Nat.le_of_ble_eq_true rfl) (Nat.le_of_ble_eq_true rfl) ?_
  exact W.vret hx hb hr (fun t ht hW => ⟨⟨[(z0, .inl (g.2.1 1, 6, .inl (upd (upd (upd (upd (upd (upd f1 0 n1) 1 n1) 2 n1) 3 n1) 4 n1) 5 n1)))], rfl, ⟨(upd (upd (upd (upd (upd (upd f1 0 n1) 1 n1) 2 n1) 3 n1) 4 n1) 5 n1), rfl⟩, by rw [ht]; exact hP9, va_K.moved hW.alike hK, hD9⟩, hS.F ht⟩) hS.2.2 dJ7_fill_53178_20

set_option maxHeartbeats 4000000 in
set_option maxRecDepth 100000 in
theorem c_X2_start (l : Launch) (hfl : l.stackTraces = false) (g : GP) (z0 : Nat) (z1 : Nat) (z2 : Nat) (z3 : Nat) (z4 : Nat) (z5 : Nat) (f1 : Nat → Int32) (f2 : Nat → Int32) (f3 : Nat → Int32) (f4 : Nat → Int32) (f5 : Nat → Int32) (n1 : Int32) (n2 : Int32) (n3 : Int32) (n4 : Int32) (n5 : Int32)  : CV l yX2_start (wG yX2_start cX2_start 7 (Option.none : Option Jvm.ClassFile.FieldType)) (LV 2 0 0) g [.ref z0, .int n1, .int n2, .int n3, .int n4, .int n5] ([(z0, .inr (4, [.int 0, .int 0, .int 0, .int 0, .int 0, .int 0, .int 0, .int 0, .int 0, .int 0, .int 0, .int 0, .ref z1, .ref z2, .ref z3, .ref z4, .ref z5])), (z1, .inl (g.2.1 1, 5, .inl f1)), (z2, .inl (g.2.1 1, 5, .inl f2)), (z3, .inl (g.2.1 2, 5, .inl f3)), (z4, .inl (g.2.1 1, 6, .inl f4)), (z5, .inl (g.2.1 2, 6, .inl f5))]) (fun (u : va_W) => ∃ (a1 : Nat → Int32) (a2 : Nat → Int32) (a3 : Nat → Int32) (a4 : Nat → Int32) (a5 : Nat → Int32), u = [(z0, .inr (4, [.int n1, .int n2, .int n2, .int n3, .int n4, .int n5, .int 0, .int 3, .int 0, .int 0, .int 32, .int 32, .ref z1, .ref z2, .ref z3, .ref z4, .ref z5])), (z1, .inl (g.2.1 1, 5, .inl a1)), (z2, .inl (g.2.1 1, 5, .inl a2)), (z3, .inl (g.2.1 2, 5, .inl a3)), (z4, .inl (g.2.1 1, 6, .inl a4)), (z5, .inl (g.2.1 2, 6, .inl a5))]) := by
  intro sz
  refine Met.ofW (cc := cX2_start) (maxL := 7) (ret := (Option.none : Option Jvm.ClassFile.FieldType)) (by decide) rfl ?_
  intro p e s m args below meth c s₁ B hml hv
  obtain ⟨rfl, hsz, hP, hK, hD0, hT0⟩ := hv
  have hx := B.exec
  have hb := B.bytes
  have hr := B.returns
  have hts := atoms_spec (ws := (wG yX2_start cX2_start 7 (Option.none : Option Jvm.ClassFile.FieldType))) B.pre
  have htg : ∀ w ∈ G9, w.before _ s = true := fun w h => hts w (List.mem_cons_of_mem _ h)
  have hown : s.vm.findClass "HeroTable$Hero" = some m.cls := findClass_of_methodNamed B.named
  have hlocks := B.notSynchronized
  subst hsz
  have hD := hD0.self (sz := s.heap.size)
  have hT := hT0
  clear hT0
  generalize hAe : va_A [(z0, .inr (4, [.int 0, .int 0, .int 0, .int 0, .int 0, .int 0, .int 0, .int 0, .int 0, .int 0, .int 0, .int 0, .ref z1, .ref z2, .ref z3, .ref z4, .ref z5])), (z1, .inl (g.2.1 1, 5, .inl f1)), (z2, .inl (g.2.1 1, 5, .inl f2)), (z3, .inl (g.2.1 2, 5, .inl f3)), (z4, .inl (g.2.1 1, 6, .inl f4)), (z5, .inl (g.2.1 2, 6, .inl f5))] s.heap.size = A at hD hT ⊢
  have hA : ∀ q : Nat, s.heap.size ≤ q → A q := fun q h => by rw [← hAe]; exact Or.inr h
  obtain ⟨H, hH0⟩ : ∃ H, H = s.heap := ⟨_, rfl⟩
  have hS : va_S A s.heap H [] := by rw [hH0]; exact va_S.rf
  have hP : va_P g.1 CLS [(z0, .inr (4, [.int 0, .int 0, .int 0, .int 0, .int 0, .int 0, .int 0, .int 0, .int 0, .int 0, .int 0, .int 0, .ref z1, .ref z2, .ref z3, .ref z4, .ref z5])), (z1, .inl (g.2.1 1, 5, .inl f1)), (z2, .inl (g.2.1 1, 5, .inl f2)), (z3, .inl (g.2.1 2, 5, .inl f3)), (z4, .inl (g.2.1 1, 6, .inl f4)), (z5, .inl (g.2.1 2, 6, .inl f5))] H := by rw [hH0]; exact hP
  rw [← hH0]
  have hl := lv_entry ([.ref z0, .int n1, .int n2, .int n3, .int n4, .int n5]) (n := 7) (Nat.le_of_ble_eq_true rfl)
  rw [lg_entry_eq]
  generalize (lg_sl ([.ref z0, .int n1, .int n2, .int n3, .int n4, .int n5]) ++ List.replicate (7 - (lg_sl ([.ref z0, .int n1, .int n2, .int n3, .int n4, .int n5])).length) Slot.unset).toArray = ls at hl ⊢
  have hl : lv_has ls 7 [(0, .ref z0), (1, .int n1), (2, .int n2), (3, .int n3), (4, .int n4), (5, .int n5)] := hl
  refine lv_aload_n hx hb dX2_start_0 rfl (lv_at hl 0 rfl) ?_
  refine lv_iload_n hx hb dX2_start_1 rfl (lv_at hl 1 rfl) ?_
  refine va_put (D := g.1) (ci := 4) (v := .int n1) (ty := .int) (C := RX2) (T := TX2) (N := 17) hx hb htg inG_X2 tyX2 tyX2_ok nmX2 hown hK hP hD hS 0 rfl rfl 0 (by decide) (htg _ k162) (fun _ h9 => h9) rfl (by decide +kernel) rfl rfl (Nat.le_of_ble_eq_true rfl) dX2_start_2 (fun H locs hP hD hS => ?_)
  have hP : va_P g.1 CLS [(z0, .inr (4, [.int n1, .int 0, .int 0, .int 0, .int 0, .int 0, .int 0, .int 0, .int 0, .int 0, .int 0, .int 0, .ref z1, .ref z2, .ref z3, .ref z4, .ref z5])), (z1, .inl (g.2.1 1, 5, .inl f1)), (z2, .inl (g.2.1 1, 5, .inl f2)), (z3, .inl (g.2.1 2, 5, .inl f3)), (z4, .inl (g.2.1 1, 6, .inl f4)), (z5, .inl (g.2.1 2, 6, .inl f5))] H := hP
  have hD : va_D A [(z0, .inr (4, [.int n1, .int 0, .int 0, .int 0, .int 0, .int 0, .int 0, .int 0, .int 0, .int 0, .int 0, .int 0, .ref z1, .ref z2, .ref z3, .ref z4, .ref z5])), (z1, .inl (g.2.1 1, 5, .inl f1)), (z2, .inl (g.2.1 1, 5, .inl f2)), (z3, .inl (g.2.1 2, 5, .inl f3)), (z4, .inl (g.2.1 1, 6, .inl f4)), (z5, .inl (g.2.1 2, 6, .inl f5))] := hD
  refine lv_aload_n hx hb dX2_start_5 rfl (lv_at hl 0 rfl) ?_
  refine lv_iload_n hx hb dX2_start_6 rfl (lv_at hl 2 rfl) ?_
  refine va_put (D := g.1) (ci := 4) (v := .int n2) (ty := .int) (C := RX2) (T := TX2) (N := 17) hx hb htg inG_X2 tyX2 tyX2_ok nmX2 hown hK hP hD hS 0 rfl rfl 1 (by decide) (htg _ k164) (fun _ h9 => h9) rfl (by decide +kernel) rfl rfl (Nat.le_of_ble_eq_true rfl) dX2_start_7 (fun H locs hP hD hS => ?_)
  have hP : va_P g.1 CLS [(z0, .inr (4, [.int n1, .int n2, .int 0, .int 0, .int 0, .int 0, .int 0, .int 0, .int 0, .int 0, .int 0, .int 0, .ref z1, .ref z2, .ref z3, .ref z4, .ref z5])), (z1, .inl (g.2.1 1, 5, .inl f1)), (z2, .inl (g.2.1 1, 5, .inl f2)), (z3, .inl (g.2.1 2, 5, .inl f3)), (z4, .inl (g.2.1 1, 6, .inl f4)), (z5, .inl (g.2.1 2, 6, .inl f5))] H := hP
  have hD : va_D A [(z0, .inr (4, [.int n1, .int n2, .int 0, .int 0, .int 0, .int 0, .int 0, .int 0, .int 0, .int 0, .int 0, .int 0, .ref z1, .ref z2, .ref z3, .ref z4, .ref z5])), (z1, .inl (g.2.1 1, 5, .inl f1)), (z2, .inl (g.2.1 1, 5, .inl f2)), (z3, .inl (g.2.1 2, 5, .inl f3)), (z4, .inl (g.2.1 1, 6, .inl f4)), (z5, .inl (g.2.1 2, 6, .inl f5))] := hD
  refine lv_aload_n hx hb dX2_start_10 rfl (lv_at hl 0 rfl) ?_
  refine lv_iload_n hx hb dX2_start_11 rfl (lv_at hl 2 rfl) ?_
  refine va_put (D := g.1) (ci := 4) (v := .int n2) (ty := .int) (C := RX2) (T := TX2) (N := 17) hx hb htg inG_X2 tyX2 tyX2_ok nmX2 hown hK hP hD hS 0 rfl rfl 2 (by decide) (htg _ k167) (fun _ h9 => h9) rfl (by decide +kernel) rfl rfl (Nat.le_of_ble_eq_true rfl) dX2_start_12 (fun H locs hP hD hS => ?_)
  have hP : va_P g.1 CLS [(z0, .inr (4, [.int n1, .int n2, .int n2, .int 0, .int 0, .int 0, .int 0, .int 0, .int 0, .int 0, .int 0, .int 0, .ref z1, .ref z2, .ref z3, .ref z4, .ref z5])), (z1, .inl (g.2.1 1, 5, .inl f1)), (z2, .inl (g.2.1 1, 5, .inl f2)), (z3, .inl (g.2.1 2, 5, .inl f3)), (z4, .inl (g.2.1 1, 6, .inl f4)), (z5, .inl (g.2.1 2, 6, .inl f5))] H := hP
  have hD : va_D A [(z0, .inr (4, [.int n1, .int n2, .int n2, .int 0, .int 0, .int 0, .int 0, .int 0, .int 0, .int 0, .int 0, .int 0, .ref z1, .ref z2, .ref z3, .ref z4, .ref z5])), (z1, .inl (g.2.1 1, 5, .inl f1)), (z2, .inl (g.2.1 1, 5, .inl f2)), (z3, .inl (g.2.1 2, 5, .inl f3)), (z4, .inl (g.2.1 1, 6, .inl f4)), (z5, .inl (g.2.1 2, 6, .inl f5))] := hD
  refine lv_aload_n hx hb dX2_start_15 rfl (lv_at hl 0 rfl) ?_
  refine lv_iload_n hx hb dX2_start_16 rfl (lv_at hl 3 rfl) ?_
  refine va_put (D := g.1) (ci := 4) (v := .int n3) (ty := .int) (C := RX2) (T := TX2) (N := 17) hx hb htg inG_X2 tyX2 tyX2_ok nmX2 hown hK hP hD hS 0 rfl rfl 3 (by decide) (htg _ k169) (fun _ h9 => h9) rfl (by decide +kernel) rfl rfl (Nat.le_of_ble_eq_true rfl) dX2_start_17 (fun H locs hP hD hS => ?_)
  have hP : va_P g.1 CLS [(z0, .inr (4, [.int n1, .int n2, .int n2, .int n3, .int 0, .int 0, .int 0, .int 0, .int 0, .int 0, .int 0, .int 0, .ref z1, .ref z2, .ref z3, .ref z4, .ref z5])), (z1, .inl (g.2.1 1, 5, .inl f1)), (z2, .inl (g.2.1 1, 5, .inl f2)), (z3, .inl (g.2.1 2, 5, .inl f3)), (z4, .inl (g.2.1 1, 6, .inl f4)), (z5, .inl (g.2.1 2, 6, .inl f5))] H := hP
  have hD : va_D A [(z0, .inr (4, [.int n1, .int n2, .int n2, .int n3, .int 0, .int 0, .int 0, .int 0, .int 0, .int 0, .int 0, .int 0, .ref z1, .ref z2, .ref z3, .ref z4, .ref z5])), (z1, .inl (g.2.1 1, 5, .inl f1)), (z2, .inl (g.2.1 1, 5, .inl f2)), (z3, .inl (g.2.1 2, 5, .inl f3)), (z4, .inl (g.2.1 1, 6, .inl f4)), (z5, .inl (g.2.1 2, 6, .inl f5))] := hD
  refine lv_aload_n hx hb dX2_start_20 rfl (lv_at hl 0 rfl) ?_
  refine lv_iload hx hb dX2_start_21 (lv_at hl 4 rfl) ?_
  refine va_put (D := g.1) (ci := 4) (v := .int n4) (ty := .int) (C := RX2) (T := TX2) (N := 17) hx hb htg inG_X2 tyX2 tyX2_ok nmX2 hown hK hP hD hS 0 rfl rfl 4 (by decide) (htg _ k171) (fun _ h9 => h9) rfl (by decide +kernel) rfl rfl (Nat.le_of_ble_eq_true rfl) dX2_start_23 (fun H locs hP hD hS => ?_)
  have hP : va_P g.1 CLS [(z0, .inr (4, [.int n1, .int n2, .int n2, .int n3, .int n4, .int 0, .int 0, .int 0, .int 0, .int 0, .int 0, .int 0, .ref z1, .ref z2, .ref z3, .ref z4, .ref z5])), (z1, .inl (g.2.1 1, 5, .inl f1)), (z2, .inl (g.2.1 1, 5, .inl f2)), (z3, .inl (g.2.1 2, 5, .inl f3)), (z4, .inl (g.2.1 1, 6, .inl f4)), (z5, .inl (g.2.1 2, 6, .inl f5))] H := hP
  have hD : va_D A [(z0, .inr (4, [.int n1, .int n2, .int n2, .int n3, .int n4, .int 0, .int 0, .int 0, .int 0, .int 0, .int 0, .int 0, .ref z1, .ref z2, .ref z3, .ref z4, .ref z5])), (z1, .inl (g.2.1 1, 5, .inl f1)), (z2, .inl (g.2.1 1, 5, .inl f2)), (z3, .inl (g.2.1 2, 5, .inl f3)), (z4, .inl (g.2.1 1, 6, .inl f4)), (z5, .inl (g.2.1 2, 6, .inl f5))] := hD
  refine lv_aload_n hx hb dX2_start_26 rfl (lv_at hl 0 rfl) ?_
  refine lv_iload hx hb dX2_start_27 (lv_at hl 5 rfl) ?_
  refine va_put (D := g.1) (ci := 4) (v := .int n5) (ty := .int) (C := RX2) (T := TX2) (N := 17) hx hb htg inG_X2 tyX2 tyX2_ok nmX2 hown hK hP hD hS 0 rfl rfl 5 (by decide) (htg _ k174) (fun _ h9 => h9) rfl (by decide +kernel) rfl rfl (Nat.le_of_ble_eq_true rfl) dX2_start_29 (fun H locs hP hD hS => ?_)
  have hP : va_P g.1 CLS [(z0, .inr (4, [.int n1, .int n2, .int n2, .int n3, .int n4, .int n5, .int 0, .int 0, .int 0, .int 0, .int 0, .int 0, .ref z1, .ref z2, .ref z3, .ref z4, .ref z5])), (z1, .inl (g.2.1 1, 5, .inl f1)), (z2, .inl (g.2.1 1, 5, .inl f2)), (z3, .inl (g.2.1 2, 5, .inl f3)), (z4, .inl (g.2.1 1, 6, .inl f4)), (z5, .inl (g.2.1 2, 6, .inl f5))] H := hP
  have hD : va_D A [(z0, .inr (4, [.int n1, .int n2, .int n2, .int n3, .int n4, .int n5, .int 0, .int 0, .int 0, .int 0, .int 0, .int 0, .ref z1, .ref z2, .ref z3, .ref z4, .ref z5])), (z1, .inl (g.2.1 1, 5, .inl f1)), (z2, .inl (g.2.1 1, 5, .inl f2)), (z3, .inl (g.2.1 2, 5, .inl f3)), (z4, .inl (g.2.1 1, 6, .inl f4)), (z5, .inl (g.2.1 2, 6, .inl f5))] := hD
  refine lv_aload_n hx hb dX2_start_32 rfl (lv_at hl 0 rfl) ?_
  refine lv_iconst (v := 0) hx hb dX2_start_33 (by decide) ?_
  refine va_put (D := g.1) (ci := 4) (v := .int 0) (ty := .int) (C := RX2) (T := TX2) (N := 17) hx hb htg inG_X2 tyX2 tyX2_ok nmX2 hown hK hP hD hS 0 rfl rfl 6 (by decide) (htg _ k177) (fun _ h9 => h9) rfl (by decide +kernel) rfl rfl (Nat.le_of_ble_eq_true rfl) dX2_start_34 (fun H locs hP hD hS => ?_)
  have hP : va_P g.1 CLS [(z0, .inr (4, [.int n1, .int n2, .int n2, .int n3, .int n4, .int n5, .int 0, .int 0, .int 0, .int 0, .int 0, .int 0, .ref z1, .ref z2, .ref z3, .ref z4, .ref z5])), (z1, .inl (g.2.1 1, 5, .inl f1)), (z2, .inl (g.2.1 1, 5, .inl f2)), (z3, .inl (g.2.1 2, 5, .inl f3)), (z4, .inl (g.2.1 1, 6, .inl f4)), (z5, .inl (g.2.1 2, 6, .inl f5))] H := hP
  have hD : va_D A [(z0, .inr (4, [.int n1, .int n2, .int n2, .int n3, .int n4, .int n5, .int 0, .int 0, .int 0, .int 0, .int 0, .int 0, .ref z1, .ref z2, .ref z3, .ref z4, .ref z5])), (z1, .inl (g.2.1 1, 5, .inl f1)), (z2, .inl (g.2.1 1, 5, .inl f2)), (z3, .inl (g.2.1 2, 5, .inl f3)), (z4, .inl (g.2.1 1, 6, .inl f4)), (z5, .inl (g.2.1 2, 6, .inl f5))] := hD
  refine lv_aload_n hx hb dX2_start_37 rfl (lv_at hl 0 rfl) ?_
  refine lv_iconst (v := 3) hx hb dX2_start_38 (by decide) ?_
  refine va_put (D := g.1) (ci := 4) (v := .int 3) (ty := .int) (C := RX2) (T := TX2) (N := 17) hx hb htg inG_X2 tyX2 tyX2_ok nmX2 hown hK hP hD hS 0 rfl rfl 7 (by decide) (htg _ k180) (fun _ h9 => h9) rfl (by decide +kernel) rfl rfl (Nat.le_of_ble_eq_true rfl) dX2_start_39 (fun H locs hP hD hS => ?_)
  have hP : va_P g.1 CLS [(z0, .inr (4, [.int n1, .int n2, .int n2, .int n3, .int n4, .int n5, .int 0, .int 3, .int 0, .int 0, .int 0, .int 0, .ref z1, .ref z2, .ref z3, .ref z4, .ref z5])), (z1, .inl (g.2.1 1, 5, .inl f1)), (z2, .inl (g.2.1 1, 5, .inl f2)), (z3, .inl (g.2.1 2, 5, .inl f3)), (z4, .inl (g.2.1 1, 6, .inl f4)), (z5, .inl (g.2.1 2, 6, .inl f5))] H := hP
  have hD : va_D A [(z0, .inr (4, [.int n1, .int n2, .int n2, .int n3, .int n4, .int n5, .int 0, .int 3, .int 0, .int 0, .int 0, .int 0, .ref z1, .ref z2, .ref z3, .ref z4, .ref z5])), (z1, .inl (g.2.1 1, 5, .inl f1)), (z2, .inl (g.2.1 1, 5, .inl f2)), (z3, .inl (g.2.1 2, 5, .inl f3)), (z4, .inl (g.2.1 1, 6, .inl f4)), (z5, .inl (g.2.1 2, 6, .inl f5))] := hD
  refine lv_aload_n hx hb dX2_start_42 rfl (lv_at hl 0 rfl) ?_
  refine lv_iconst (v := 0) hx hb dX2_start_43 (by decide) ?_
  refine va_put (D := g.1) (ci := 4) (v := .int 0) (ty := .int) (C := RX2) (T := TX2) (N := 17) hx hb htg inG_X2 tyX2 tyX2_ok nmX2 hown hK hP hD hS 0 rfl rfl 8 (by decide) (htg _ k183) (fun _ h9 => h9) rfl (by decide +kernel) rfl rfl (Nat.le_of_ble_eq_true rfl) dX2_start_44 (fun H locs hP hD hS => ?_)
  have hP : va_P g.1 CLS [(z0, .inr (4, [.int n1, .int n2, .int n2, .int n3, .int n4, .int n5, .int 0, .int 3, .int 0, .int 0, .int 0, .int 0, .ref z1, .ref z2, .ref z3, .ref z4, .ref z5])), (z1, .inl (g.2.1 1, 5, .inl f1)), (z2, .inl (g.2.1 1, 5, .inl f2)), (z3, .inl (g.2.1 2, 5, .inl f3)), (z4, .inl (g.2.1 1, 6, .inl f4)), (z5, .inl (g.2.1 2, 6, .inl f5))] H := hP
  have hD : va_D A [(z0, .inr (4, [.int n1, .int n2, .int n2, .int n3, .int n4, .int n5, .int 0, .int 3, .int 0, .int 0, .int 0, .int 0, .ref z1, .ref z2, .ref z3, .ref z4, .ref z5])), (z1, .inl (g.2.1 1, 5, .inl f1)), (z2, .inl (g.2.1 1, 5, .inl f2)), (z3, .inl (g.2.1 2, 5, .inl f3)), (z4, .inl (g.2.1 1, 6, .inl f4)), (z5, .inl (g.2.1 2, 6, .inl f5))] := hD
  refine lv_aload_n hx hb dX2_start_47 rfl (lv_at hl 0 rfl) ?_
  refine lv_iconst (v := 0) hx hb dX2_start_48 (by decide) ?_
  refine va_put (D := g.1) (ci := 4) (v := .int 0) (ty := .boolean) (C := RX2) (T := TX2) (N := 17) hx hb htg inG_X2 tyX2 tyX2_ok nmX2 hown hK hP hD hS 0 rfl rfl 9 (by decide) (htg _ k187) (fun _ h9 => h9) rfl (by decide +kernel) rfl rfl (Nat.le_of_ble_eq_true rfl) dX2_start_49 (fun H locs hP hD hS => ?_)
  have hP : va_P g.1 CLS [(z0, .inr (4, [.int n1, .int n2, .int n2, .int n3, .int n4, .int n5, .int 0, .int 3, .int 0, .int 0, .int 0, .int 0, .ref z1, .ref z2, .ref z3, .ref z4, .ref z5])), (z1, .inl (g.2.1 1, 5, .inl f1)), (z2, .inl (g.2.1 1, 5, .inl f2)), (z3, .inl (g.2.1 2, 5, .inl f3)), (z4, .inl (g.2.1 1, 6, .inl f4)), (z5, .inl (g.2.1 2, 6, .inl f5))] H := hP
  have hD : va_D A [(z0, .inr (4, [.int n1, .int n2, .int n2, .int n3, .int n4, .int n5, .int 0, .int 3, .int 0, .int 0, .int 0, .int 0, .ref z1, .ref z2, .ref z3, .ref z4, .ref z5])), (z1, .inl (g.2.1 1, 5, .inl f1)), (z2, .inl (g.2.1 1, 5, .inl f2)), (z3, .inl (g.2.1 2, 5, .inl f3)), (z4, .inl (g.2.1 1, 6, .inl f4)), (z5, .inl (g.2.1 2, 6, .inl f5))] := hD
  refine lv_aload_n hx hb dX2_start_52 rfl (lv_at hl 0 rfl) ?_
  refine lv_bipush (v := 32) hx hb dX2_start_53 (by decide) ?_
  refine va_put (D := g.1) (ci := 4) (v := .int 32) (ty := .char) (C := RX2) (T := TX2) (N := 17) hx hb htg inG_X2 tyX2 tyX2_ok nmX2 hown hK hP hD hS 0 rfl rfl 10 (by decide) (htg _ k190) (fun _ h9 => h9) rfl (by decide +kernel) rfl rfl (Nat.le_of_ble_eq_true rfl) dX2_start_55 (fun H locs hP hD hS => ?_)
  have hP : va_P g.1 CLS [(z0, .inr (4, [.int n1, .int n2, .int n2, .int n3, .int n4, .int n5, .int 0, .int 3, .int 0, .int 0, .int 32, .int 0, .ref z1, .ref z2, .ref z3, .ref z4, .ref z5])), (z1, .inl (g.2.1 1, 5, .inl f1)), (z2, .inl (g.2.1 1, 5, .inl f2)), (z3, .inl (g.2.1 2, 5, .inl f3)), (z4, .inl (g.2.1 1, 6, .inl f4)), (z5, .inl (g.2.1 2, 6, .inl f5))] H := hP
  have hD : va_D A [(z0, .inr (4, [.int n1, .int n2, .int n2, .int n3, .int n4, .int n5, .int 0, .int 3, .int 0, .int 0, .int 32, .int 0, .ref z1, .ref z2, .ref z3, .ref z4, .ref z5])), (z1, .inl (g.2.1 1, 5, .inl f1)), (z2, .inl (g.2.1 1, 5, .inl f2)), (z3, .inl (g.2.1 2, 5, .inl f3)), (z4, .inl (g.2.1 1, 6, .inl f4)), (z5, .inl (g.2.1 2, 6, .inl f5))] := hD
  refine lv_aload_n hx hb dX2_start_58 rfl (lv_at hl 0 rfl) ?_
  refine lv_bipush (v := 32) hx hb dX2_start_59 (by decide) ?_
  refine va_put (D := g.1) (ci := 4) (v := .int 32) (ty := .char) (C := RX2) (T := TX2) (N := 17) hx hb htg inG_X2 tyX2 tyX2_ok nmX2 hown hK hP hD hS 0 rfl rfl 11 (by decide) (htg _ k193) (fun _ h9 => h9) rfl (by decide +kernel) rfl rfl (Nat.le_of_ble_eq_true rfl) dX2_start_61 (fun H locs hP hD hS => ?_)
  have hP : va_P g.1 CLS [(z0, .inr (4, [.int n1, .int n2, .int n2, .int n3, .int n4, .int n5, .int 0, .int 3, .int 0, .int 0, .int 32, .int 32, .ref z1, .ref z2, .ref z3, .ref z4, .ref z5])), (z1, .inl (g.2.1 1, 5, .inl f1)), (z2, .inl (g.2.1 1, 5, .inl f2)), (z3, .inl (g.2.1 2, 5, .inl f3)), (z4, .inl (g.2.1 1, 6, .inl f4)), (z5, .inl (g.2.1 2, 6, .inl f5))] H := hP
  have hD : va_D A [(z0, .inr (4, [.int n1, .int n2, .int n2, .int n3, .int n4, .int n5, .int 0, .int 3, .int 0, .int 0, .int 32, .int 32, .ref z1, .ref z2, .ref z3, .ref z4, .ref z5])), (z1, .inl (g.2.1 1, 5, .inl f1)), (z2, .inl (g.2.1 1, 5, .inl f2)), (z3, .inl (g.2.1 2, 5, .inl f3)), (z4, .inl (g.2.1 1, 6, .inl f4)), (z5, .inl (g.2.1 2, 6, .inl f5))] := hD
  refine va_getsN hx hb (hT.2.2.2.1.1) hS hown (va_Nw.use rfl hT.1.2.1.1) (fun _ h9 => h9) dX2_start_64 ?_
  refine lv_iconst (v := 0) hx hb dX2_start_67 (by decide) ?_
  refine lv_aload_n hx hb dX2_start_68 rfl (lv_at hl 0 rfl) ?_
  refine va_get (D := g.1) (ci := 4) (v := .ref z1) (C := RX2) (T := TX2) (N := 17) hx hb htg inG_X2 hown hK hP 0 rfl rfl 12 (by decide) (htg _ k195) (fun _ h9 => h9) rfl dX2_start_69 ?_
  refine lv_iconst (v := 0) hx hb dX2_start_72 (by decide) ?_
  refine lv_iconst (v := 5) hx hb dX2_start_73 (by decide) ?_
  refine q_copyt hx hb (hml.trans hl.1.symm) (own := "HeroTable$Hero") (index := 70) hown (htg _ k414) (htg _ k416) (htg _ k415) (htg _ k62) hK hP hD hS (f := (fun j : Nat => ([12, 4, 5, 4, 2] : List Int32).getD j 0)) (n0 := 5) hT.2.2.2.1.2 1 1 rfl rfl (sp := 0) (dp := 0) (n := 5) (by decide) (by decide) (by decide) (by decide) (by decide) (Nat.le_of_ble_eq_true rfl) (Nat.le_of_ble_eq_true rfl) dX2_start_74 (fun H locs hP hD hS => ?_)
  have hP : va_P g.1 CLS [(z0, .inr (4, [.int n1, .int n2, .int n2, .int n3, .int n4, .int n5, .int 0, .int 3, .int 0, .int 0, .int 32, .int 32, .ref z1, .ref z2, .ref z3, .ref z4, .ref z5])), (z1, .inl (g.2.1 1, 5, .inl (va_cpy (fun j : Nat => ([12, 4, 5, 4, 2] : List Int32).getD j 0) f1 ((0 : Int32).toNatClampNeg) ((0 : Int32).toNatClampNeg) ((5 : Int32).toNatClampNeg)))), (z2, .inl (g.2.1 1, 5, .inl f2)), (z3, .inl (g.2.1 2, 5, .inl f3)), (z4, .inl (g.2.1 1, 6, .inl f4)), (z5, .inl (g.2.1 2, 6, .inl f5))] H := hP
  have hD : va_D A [(z0, .inr (4, [.int n1, .int n2, .int n2, .int n3, .int n4, .int n5, .int 0, .int 3, .int 0, .int 0, .int 32, .int 32, .ref z1, .ref z2, .ref z3, .ref z4, .ref z5])), (z1, .inl (g.2.1 1, 5, .inl (va_cpy (fun j : Nat => ([12, 4, 5, 4, 2] : List Int32).getD j 0) f1 ((0 : Int32).toNatClampNeg) ((0 : Int32).toNatClampNeg) ((5 : Int32).toNatClampNeg)))), (z2, .inl (g.2.1 1, 5, .inl f2)), (z3, .inl (g.2.1 2, 5, .inl f3)), (z4, .inl (g.2.1 1, 6, .inl f4)), (z5, .inl (g.2.1 2, 6, .inl f5))] := hD
  refine va_getsN hx hb (hT.2.2.2.1.1) hS hown (va_Nw.use rfl hT.1.2.1.1) (fun _ h9 => h9) dX2_start_77 ?_
  refine lv_iconst (v := 0) hx hb dX2_start_80 (by decide) ?_
  refine lv_aload_n hx hb dX2_start_81 rfl (lv_at hl 0 rfl) ?_
  refine va_get (D := g.1) (ci := 4) (v := .ref z2) (C := RX2) (T := TX2) (N := 17) hx hb htg inG_X2 hown hK hP 0 rfl rfl 13 (by decide) (htg _ k198) (fun _ h9 => h9) rfl dX2_start_82 ?_
  refine lv_iconst (v := 0) hx hb dX2_start_85 (by decide) ?_
  refine lv_iconst (v := 5) hx hb dX2_start_86 (by decide) ?_
  refine q_copyt hx hb (hml.trans hl.1.symm) (own := "HeroTable$Hero") (index := 70) hown (htg _ k414) (htg _ k416) (htg _ k415) (htg _ k62) hK hP hD hS (f := (fun j : Nat => ([12, 4, 5, 4, 2] : List Int32).getD j 0)) (n0 := 5) hT.2.2.2.1.2 2 1 rfl rfl (sp := 0) (dp := 0) (n := 5) (by decide) (by decide) (by decide) (by decide) (by decide) (Nat.le_of_ble_eq_true rfl) (Nat.le_of_ble_eq_true rfl) dX2_start_87 (fun H locs hP hD hS => ?_)
  have hP : va_P g.1 CLS [(z0, .inr (4, [.int n1, .int n2, .int n2, .int n3, .int n4, .int n5, .int 0, .int 3, .int 0, .int 0, .int 32, .int 32, .ref z1, .ref z2, .ref z3, .ref z4, .ref z5])), (z1, .inl (g.2.1 1, 5, .inl (va_cpy (fun j : Nat => ([12, 4, 5, 4, 2] : List Int32).getD j 0) f1 ((0 : Int32).toNatClampNeg) ((0 : Int32).toNatClampNeg) ((5 : Int32).toNatClampNeg)))), (z2, .inl (g.2.1 1, 5, .inl (va_cpy (fun j : Nat => ([12, 4, 5, 4, 2] : List Int32).getD j 0) f2 ((0 : Int32).toNatClampNeg) ((0 : Int32).toNatClampNeg) ((5 : Int32).toNatClampNeg)))), (z3, .inl (g.2.1 2, 5, .inl f3)), (z4, .inl (g.2.1 1, 6, .inl f4)), (z5, .inl (g.2.1 2, 6, .inl f5))] H := hP
  have hD : va_D A [(z0, .inr (4, [.int n1, .int n2, .int n2, .int n3, .int n4, .int n5, .int 0, .int 3, .int 0, .int 0, .int 32, .int 32, .ref z1, .ref z2, .ref z3, .ref z4, .ref z5])), (z1, .inl (g.2.1 1, 5, .inl (va_cpy (fun j : Nat => ([12, 4, 5, 4, 2] : List Int32).getD j 0) f1 ((0 : Int32).toNatClampNeg) ((0 : Int32).toNatClampNeg) ((5 : Int32).toNatClampNeg)))), (z2, .inl (g.2.1 1, 5, .inl (va_cpy (fun j : Nat => ([12, 4, 5, 4, 2] : List Int32).getD j 0) f2 ((0 : Int32).toNatClampNeg) ((0 : Int32).toNatClampNeg) ((5 : Int32).toNatClampNeg)))), (z3, .inl (g.2.1 2, 5, .inl f3)), (z4, .inl (g.2.1 1, 6, .inl f4)), (z5, .inl (g.2.1 2, 6, .inl f5))] := hD
  refine lv_aload_n hx hb dX2_start_90 rfl (lv_at hl 0 rfl) ?_
  refine va_get (D := g.1) (ci := 4) (v := .ref z4) (C := RX2) (T := TX2) (N := 17) hx hb htg inG_X2 hown hK hP 0 rfl rfl 15 (by decide) (htg _ k203) (fun _ h9 => h9) rfl dX2_start_91 ?_
  refine lv_iconst (v := 0) hx hb dX2_start_94 (by decide) ?_
  have hPc := hP.sub (ws' := [(z4, .inl (g.2.1 1, 6, .inl f4))]) [4] rfl
  have hDc := hD.sub (ws' := [(z4, .inl (g.2.1 1, 6, .inl f4))]) [4] (by decide) rfl
  have hFc := va_free (wc := [(z4, .inl (g.2.1 1, 6, .inl f4))]) hD hS hA [4] rfl
  refine q_cv (wr := [(z0, .inr (4, [.int n1, .int n2, .int n2, .int n3, .int n4, .int n5, .int 0, .int 3, .int 0, .int 0, .int 32, .int 32, .ref z1, .ref z2, .ref z3, .ref z4, .ref z5])), (z1, .inl (g.2.1 1, 5, .inl (va_cpy (fun j : Nat => ([12, 4, 5, 4, 2] : List Int32).getD j 0) f1 ((0 : Int32).toNatClampNeg) ((0 : Int32).toNatClampNeg) ((5 : Int32).toNatClampNeg)))), (z2, .inl (g.2.1 1, 5, .inl (va_cpy (fun j : Nat => ([12, 4, 5, 4, 2] : List Int32).getD j 0) f2 ((0 : Int32).toNatClampNeg) ((0 : Int32).toNatClampNeg) ((5 : Int32).toNatClampNeg)))), (z3, .inl (g.2.1 2, 5, .inl f3)), (z5, .inl (g.2.1 2, 6, .inl f5))]) (va_runS (As := [.ref z4, .int 0]) (rest := []) ⟨hx, hb, hml, hown, htg⟩ (c_J7_fill l hfl g z4 f4 0  H.size) ⟨(qB htg k419 k63 k417 ok_J7_fill_53178 rfl rfl ⟨Nat.le_of_ble_eq_true rfl, Nat.le_of_ble_eq_true rfl⟩), htg _ k418⟩ (q_pre [.ref z4, .int 0] hPc hDc hK hS hT hFc) rfl rfl hl.1 rfl (lv_room (Nat.le_of_ble_eq_true rfl)) dX2_start_95 ⟨Nat.le_of_ble_eq_true rfl, Nat.le_of_ble_eq_true rfl⟩) hP hD hS hFc [4] [0, 1, 2, 3, 5] rfl rfl (by decide) (by decide) (fun u9 H locs hw hP hD hS => ?_)
  try dsimp only at hw
  rcases hw with ⟨f_1, rfl⟩
  have hP : va_P g.1 CLS [(z0, .inr (4, [.int n1, .int n2, .int n2, .int n3, .int n4, .int n5, .int 0, .int 3, .int 0, .int 0, .int 32, .int 32, .ref z1, .ref z2, .ref z3, .ref z4, .ref z5])), (z1, .inl (g.2.1 1, 5, .inl (va_cpy (fun j : Nat => ([12, 4, 5, 4, 2] : List Int32).getD j 0) f1 ((0 : Int32).toNatClampNeg) ((0 : Int32).toNatClampNeg) ((5 : Int32).toNatClampNeg)))), (z2, .inl (g.2.1 1, 5, .inl (va_cpy (fun j : Nat => ([12, 4, 5, 4, 2] : List Int32).getD j 0) f2 ((0 : Int32).toNatClampNeg) ((0 : Int32).toNatClampNeg) ((5 : Int32).toNatClampNeg)))), (z3, .inl (g.2.1 2, 5, .inl f3)), (z5, .inl (g.2.1 2, 6, .inl f5)), (z4, .inl (g.2.1 1, 6, .inl f_1))] H := hP
  have hD : va_D A [(z0, .inr (4, [.int n1, .int n2, .int n2, .int n3, .int n4, .int n5, .int 0, .int 3, .int 0, .int 0, .int 32, .int 32, .ref z1, .ref z2, .ref z3, .ref z4, .ref z5])), (z1, .inl (g.2.1 1, 5, .inl (va_cpy (fun j : Nat => ([12, 4, 5, 4, 2] : List Int32).getD j 0) f1 ((0 : Int32).toNatClampNeg) ((0 : Int32).toNatClampNeg) ((5 : Int32).toNatClampNeg)))), (z2, .inl (g.2.1 1, 5, .inl (va_cpy (fun j : Nat => ([12, 4, 5, 4, 2] : List Int32).getD j 0) f2 ((0 : Int32).toNatClampNeg) ((0 : Int32).toNatClampNeg) ((5 : Int32).toNatClampNeg)))), (z3, .inl (g.2.1 2, 5, .inl f3)), (z5, .inl (g.2.1 2, 6, .inl f5)), (z4, .inl (g.2.1 1, 6, .inl f_1))] := hD
  refine W.widen (k := 0) (n := 0) (Nat.le_of_ble_eq_true rfl) (Nat.le_of_ble_eq_true rfl) ?_
  refine lv_iconst (v := 0) hx hb dX2_start_98 (by decide) ?_
  refine lv_istore (lv' := [(6, .int 0), (0, .ref z0), (1, .int n1), (2, .int n2), (3, .int n3), (4, .int n4), (5, .int n5)]) hx hb dX2_start_99 hl (by decide) rfl (fun ls hl => ?_)
  refine lv_iload hx hb dX2_start_101 (lv_at hl 0 rfl) ?_
  refine lv_aload_n hx hb dX2_start_103 rfl (lv_at hl 1 rfl) ?_
  refine va_get (D := g.1) (ci := 4) (v := .ref z3) (C := RX2) (T := TX2) (N := 17) hx hb htg inG_X2 hown hK hP 0 rfl rfl 14 (by decide) (htg _ k200) (fun _ h9 => h9) rfl dX2_start_104 ?_
  refine va_alen (v := 5) hx hb hK hP 3 2 rfl rfl rfl dX2_start_107 ?_
  refine lv_icmp_ge (tgt := 125) hx hb dX2_start_108 (by decide) (fun c_2 => absurd c_2 (by decide)) (fun c_2 => ?_)
  refine lv_aload_n hx hb dX2_start_111 rfl (lv_at hl 1 rfl) ?_
  refine va_get (D := g.1) (ci := 4) (v := .ref z3) (C := RX2) (T := TX2) (N := 17) hx hb htg inG_X2 hown hK hP 0 rfl rfl 14 (by decide) (htg _ k200) (fun _ h9 => h9) rfl dX2_start_112 ?_
  refine lv_iload hx hb dX2_start_115 (lv_at hl 0 rfl) ?_
  refine lv_iconst (v := 0) hx hb dX2_start_117 (by decide) ?_
  refine va_zast hx hb hK hP hD hS 3 2 rfl rfl (i := 0) (vp_in_iff.mpr (by decide)) dX2_start_118 (fun H locs hP hD hS => ?_)
  have hP : va_P g.1 CLS [(z0, .inr (4, [.int n1, .int n2, .int n2, .int n3, .int n4, .int n5, .int 0, .int 3, .int 0, .int 0, .int 32, .int 32, .ref z1, .ref z2, .ref z3, .ref z4, .ref z5])), (z1, .inl (g.2.1 1, 5, .inl (va_cpy (fun j : Nat => ([12, 4, 5, 4, 2] : List Int32).getD j 0) f1 ((0 : Int32).toNatClampNeg) ((0 : Int32).toNatClampNeg) ((5 : Int32).toNatClampNeg)))), (z2, .inl (g.2.1 1, 5, .inl (va_cpy (fun j : Nat => ([12, 4, 5, 4, 2] : List Int32).getD j 0) f2 ((0 : Int32).toNatClampNeg) ((0 : Int32).toNatClampNeg) ((5 : Int32).toNatClampNeg)))), (z3, .inl (g.2.1 2, 5, .inl (upd f3 0 (vp_nar .boolean 0)))), (z5, .inl (g.2.1 2, 6, .inl f5)), (z4, .inl (g.2.1 1, 6, .inl f_1))] H := hP
  have hD : va_D A [(z0, .inr (4, [.int n1, .int n2, .int n2, .int n3, .int n4, .int n5, .int 0, .int 3, .int 0, .int 0, .int 32, .int 32, .ref z1, .ref z2, .ref z3, .ref z4, .ref z5])), (z1, .inl (g.2.1 1, 5, .inl (va_cpy (fun j : Nat => ([12, 4, 5, 4, 2] : List Int32).getD j 0) f1 ((0 : Int32).toNatClampNeg) ((0 : Int32).toNatClampNeg) ((5 : Int32).toNatClampNeg)))), (z2, .inl (g.2.1 1, 5, .inl (va_cpy (fun j : Nat => ([12, 4, 5, 4, 2] : List Int32).getD j 0) f2 ((0 : Int32).toNatClampNeg) ((0 : Int32).toNatClampNeg) ((5 : Int32).toNatClampNeg)))), (z3, .inl (g.2.1 2, 5, .inl (upd f3 0 (vp_nar .boolean 0)))), (z5, .inl (g.2.1 2, 6, .inl f5)), (z4, .inl (g.2.1 1, 6, .inl f_1))] := hD
  refine lv_iinc (v := 1) (lv' := [(6, .int 1), (0, .ref z0), (1, .int n1), (2, .int n2), (3, .int n3), (4, .int n4), (5, .int n5)]) hx hb dX2_start_119 hl (k := 0) rfl (by decide) (by decide) rfl (fun ls hl => ?_)
  refine lv_goto (tgt := 101) hx hb dX2_start_122 (by decide) ?_
  refine lv_iload hx hb dX2_start_101 (lv_at hl 0 rfl) ?_
  refine lv_aload_n hx hb dX2_start_103 rfl (lv_at hl 1 rfl) ?_
  refine va_get (D := g.1) (ci := 4) (v := .ref z3) (C := RX2) (T := TX2) (N := 17) hx hb htg inG_X2 hown hK hP 0 rfl rfl 14 (by decide) (htg _ k200) (fun _ h9 => h9) rfl dX2_start_104 ?_
  refine va_alen (v := 5) hx hb hK hP 3 2 rfl rfl rfl dX2_start_107 ?_
  refine lv_icmp_ge (tgt := 125) hx hb dX2_start_108 (by decide) (fun c_3 => absurd c_3 (by decide)) (fun c_3 => ?_)
  refine lv_aload_n hx hb dX2_start_111 rfl (lv_at hl 1 rfl) ?_
  refine va_get (D := g.1) (ci := 4) (v := .ref z3) (C := RX2) (T := TX2) (N := 17) hx hb htg inG_X2 hown hK hP 0 rfl rfl 14 (by decide) (htg _ k200) (fun _ h9 => h9) rfl dX2_start_112 ?_
  refine lv_iload hx hb dX2_start_115 (lv_at hl 0 rfl) ?_
  refine lv_iconst (v := 0) hx hb dX2_start_117 (by decide) ?_
  refine va_zast hx hb hK hP hD hS 3 2 rfl rfl (i := 1) (vp_in_iff.mpr (by decide)) dX2_start_118 (fun H locs hP hD hS => ?_)
  have hP : va_P g.1 CLS [(z0, .inr (4, [.int n1, .int n2, .int n2, .int n3, .int n4, .int n5, .int 0, .int 3, .int 0, .int 0, .int 32, .int 32, .ref z1, .ref z2, .ref z3, .ref z4, .ref z5])), (z1, .inl (g.2.1 1, 5, .inl (va_cpy (fun j : Nat => ([12, 4, 5, 4, 2] : List Int32).getD j 0) f1 ((0 : Int32).toNatClampNeg) ((0 : Int32).toNatClampNeg) ((5 : Int32).toNatClampNeg)))), (z2, .inl (g.2.1 1, 5, .inl (va_cpy (fun j : Nat => ([12, 4, 5, 4, 2] : List Int32).getD j 0) f2 ((0 : Int32).toNatClampNeg) ((0 : Int32).toNatClampNeg) ((5 : Int32).toNatClampNeg)))), (z3, .inl (g.2.1 2, 5, .inl (upd (upd f3 0 (vp_nar .boolean 0)) 1 (vp_nar .boolean 0)))), (z5, .inl (g.2.1 2, 6, .inl f5)), (z4, .inl (g.2.1 1, 6, .inl f_1))] H := hP
  have hD : va_D A [(z0, .inr (4, [.int n1, .int n2, .int n2, .int n3, .int n4, .int n5, .int 0, .int 3, .int 0, .int 0, .int 32, .int 32, .ref z1, .ref z2, .ref z3, .ref z4, .ref z5])), (z1, .inl (g.2.1 1, 5, .inl (va_cpy (fun j : Nat => ([12, 4, 5, 4, 2] : List Int32).getD j 0) f1 ((0 : Int32).toNatClampNeg) ((0 : Int32).toNatClampNeg) ((5 : Int32).toNatClampNeg)))), (z2, .inl (g.2.1 1, 5, .inl (va_cpy (fun j : Nat => ([12, 4, 5, 4, 2] : List Int32).getD j 0) f2 ((0 : Int32).toNatClampNeg) ((0 : Int32).toNatClampNeg) ((5 : Int32).toNatClampNeg)))), (z3, .inl (g.2.1 2, 5, .inl (upd (upd f3 0 (vp_nar .boolean 0)) 1 (vp_nar .boolean 0)))), (z5, .inl (g.2.1 2, 6, .inl f5)), (z4, .inl (g.2.1 1, 6, .inl f_1))] := hD
  refine lv_iinc (v := 2) (lv' := [(6, .int 2), (0, .ref z0), (1, .int n1), (2, .int n2), (3, .int n3), (4, .int n4), (5, .int n5)]) hx hb dX2_start_119 hl (k := 0) rfl (by decide) (by decide) rfl (fun ls hl => ?_)
  refine lv_goto (tgt := 101) hx hb dX2_start_122 (by decide) ?_
  refine lv_iload hx hb dX2_start_101 (lv_at hl 0 rfl) ?_
  refine lv_aload_n hx hb dX2_start_103 rfl (lv_at hl 1 rfl) ?_
  refine va_get (D := g.1) (ci := 4) (v := .ref z3) (C := RX2) (T := TX2) (N := 17) hx hb htg inG_X2 hown hK hP 0 rfl rfl 14 (by decide) (htg _ k200) (fun _ h9 => h9) rfl dX2_start_104 ?_
  refine va_alen (v := 5) hx hb hK hP 3 2 rfl rfl rfl dX2_start_107 ?_
  refine lv_icmp_ge (tgt := 125) hx hb dX2_start_108 (by decide) (fun c_4 => absurd c_4 (by decide)) (fun c_4 => ?_)
  refine lv_aload_n hx hb dX2_start_111 rfl (lv_at hl 1 rfl) ?_
  refine va_get (D := g.1) (ci := 4) (v := .ref z3) (C := RX2) (T := TX2) (N := 17) hx hb htg inG_X2 hown hK hP 0 rfl rfl 14 (by decide) (htg _ k200) (fun _ h9 => h9) rfl dX2_start_112 ?_
  refine lv_iload hx hb dX2_start_115 (lv_at hl 0 rfl) ?_
  refine lv_iconst (v := 0) hx hb dX2_start_117 (by decide) ?_
  refine va_zast hx hb hK hP hD hS 3 2 rfl rfl (i := 2) (vp_in_iff.mpr (by decide)) dX2_start_118 (fun H locs hP hD hS => ?_)
  have hP : va_P g.1 CLS [(z0, .inr (4, [.int n1, .int n2, .int n2, .int n3, .int n4, .int n5, .int 0, .int 3, .int 0, .int 0, .int 32, .int 32, .ref z1, .ref z2, .ref z3, .ref z4, .ref z5])), (z1, .inl (g.2.1 1, 5, .inl (va_cpy (fun j : Nat => ([12, 4, 5, 4, 2] : List Int32).getD j 0) f1 ((0 : Int32).toNatClampNeg) ((0 : Int32).toNatClampNeg) ((5 : Int32).toNatClampNeg)))), (z2, .inl (g.2.1 1, 5, .inl (va_cpy (fun j : Nat => ([12, 4, 5, 4, 2] : List Int32).getD j 0) f2 ((0 : Int32).toNatClampNeg) ((0 : Int32).toNatClampNeg) ((5 : Int32).toNatClampNeg)))), (z3, .inl (g.2.1 2, 5, .inl (upd (upd (upd f3 0 (vp_nar .boolean 0)) 1 (vp_nar .boolean 0)) 2 (vp_nar .boolean 0)))), (z5, .inl (g.2.1 2, 6, .inl f5)), (z4, .inl (g.2.1 1, 6, .inl f_1))] H := hP
  have hD : va_D A [(z0, .inr (4, [.int n1, .int n2, .int n2, .int n3, .int n4, .int n5, .int 0, .int 3, .int 0, .int 0, .int 32, .int 32, .ref z1, .ref z2, .ref z3, .ref z4, .ref z5])), (z1, .inl (g.2.1 1, 5, .inl (va_cpy (fun j : Nat => ([12, 4, 5, 4, 2] : List Int32).getD j 0) f1 ((0 : Int32).toNatClampNeg) ((0 : Int32).toNatClampNeg) ((5 : Int32).toNatClampNeg)))), (z2, .inl (g.2.1 1, 5, .inl (va_cpy (fun j : Nat => ([12, 4, 5, 4, 2] : List Int32).getD j 0) f2 ((0 : Int32).toNatClampNeg) ((0 : Int32).toNatClampNeg) ((5 : Int32).toNatClampNeg)))), (z3, .inl (g.2.1 2, 5, .inl (upd (upd (upd f3 0 (vp_nar .boolean 0)) 1 (vp_nar .boolean 0)) 2 (vp_nar .boolean 0)))), (z5, .inl (g.2.1 2, 6, .inl f5)), (z4, .inl (g.2.1 1, 6, .inl f_1))] := hD
  refine lv_iinc (v := 3) (lv' := [(6, .int 3), (0, .ref z0), (1, .int n1), (2, .int n2), (3, .int n3), (4, .int n4), (5, .int n5)]) hx hb dX2_start_119 hl (k := 0) rfl (by decide) (by decide) rfl (fun ls hl => ?_)
  refine lv_goto (tgt := 101) hx hb dX2_start_122 (by decide) ?_
  refine lv_iload hx hb dX2_start_101 (lv_at hl 0 rfl) ?_
  refine lv_aload_n hx hb dX2_start_103 rfl (lv_at hl 1 rfl) ?_
  refine va_get (D := g.1) (ci := 4) (v := .ref z3) (C := RX2) (T := TX2) (N := 17) hx hb htg inG_X2 hown hK hP 0 rfl rfl 14 (by decide) (htg _ k200) (fun _ h9 => h9) rfl dX2_start_104 ?_
  refine va_alen (v := 5) hx hb hK hP 3 2 rfl rfl rfl dX2_start_107 ?_
  refine lv_icmp_ge (tgt := 125) hx hb dX2_start_108 (by decide) (fun c_5 => absurd c_5 (by decide)) (fun c_5 => ?_)
  refine lv_aload_n hx hb dX2_start_111 rfl (lv_at hl 1 rfl) ?_
  refine va_get (D := g.1) (ci := 4) (v := .ref z3) (C := RX2) (T := TX2) (N := 17) hx hb htg inG_X2 hown hK hP 0 rfl rfl 14 (by decide) (htg _ k200) (fun _ h9 => h9) rfl dX2_start_112 ?_
  refine lv_iload hx hb dX2_start_115 (lv_at hl 0 rfl) ?_
  refine lv_iconst (v := 0) hx hb dX2_start_117 (by decide) ?_
  refine va_zast hx hb hK hP hD hS 3 2 rfl rfl (i := 3) (vp_in_iff.mpr (by decide)) dX2_start_118 (fun H locs hP hD hS => ?_)
  have hP : va_P g.1 CLS [(z0, .inr (4, [.int n1, .int n2, .int n2, .int n3, .int n4, .int n5, .int 0, .int 3, .int 0, .int 0, .int 32, .int 32, .ref z1, .ref z2, .ref z3, .ref z4, .ref z5])), (z1, .inl (g.2.1 1, 5, .inl (va_cpy (fun j : Nat => ([12, 4, 5, 4, 2] : List Int32).getD j 0) f1 ((0 : Int32).toNatClampNeg) ((0 : Int32).toNatClampNeg) ((5 : Int32).toNatClampNeg)))), (z2, .inl (g.2.1 1, 5, .inl (va_cpy (fun j : Nat => ([12, 4, 5, 4, 2] : List Int32).getD j 0) f2 ((0 : Int32).toNatClampNeg) ((0 : Int32).toNatClampNeg) ((5 : Int32).toNatClampNeg)))), (z3, .inl (g.2.1 2, 5, .inl (upd (upd (upd (upd f3 0 (vp_nar .boolean 0)) 1 (vp_nar .boolean 0)) 2 (vp_nar .boolean 0)) 3 (vp_nar .boolean 0)))), (z5, .inl (g.2.1 2, 6, .inl f5)), (z4, .inl (g.2.1 1, 6, .inl f_1))] H := hP
  have hD : va_D A [(z0, .inr (4, [.int n1, .int n2, .int n2, .int n3, .int n4, .int n5, .int 0, .int 3, .int 0, .int 0, .int 32, .int 32, .ref z1, .ref z2, .ref z3, .ref z4, .ref z5])), (z1, .inl (g.2.1 1, 5, .inl (va_cpy (fun j : Nat => ([12, 4, 5, 4, 2] : List Int32).getD j 0) f1 ((0 : Int32).toNatClampNeg) ((0 : Int32).toNatClampNeg) ((5 : Int32).toNatClampNeg)))), (z2, .inl (g.2.1 1, 5, .inl (va_cpy (fun j : Nat => ([12, 4, 5, 4, 2] : List Int32).getD j 0) f2 ((0 : Int32).toNatClampNeg) ((0 : Int32).toNatClampNeg) ((5 : Int32).toNatClampNeg)))), (z3, .inl (g.2.1 2, 5, .inl (upd (upd (upd (upd f3 0 (vp_nar .boolean 0)) 1 (vp_nar .boolean 0)) 2 (vp_nar .boolean 0)) 3 (vp_nar .boolean 0)))), (z5, .inl (g.2.1 2, 6, .inl f5)), (z4, .inl (g.2.1 1, 6, .inl f_1))] := hD
  refine lv_iinc (v := 4) (lv' := [(6, .int 4), (0, .ref z0), (1, .int n1), (2, .int n2), (3, .int n3), (4, .int n4), (5, .int n5)]) hx hb dX2_start_119 hl (k := 0) rfl (by decide) (by decide) rfl (fun ls hl => ?_)
  refine lv_goto (tgt := 101) hx hb dX2_start_122 (by decide) ?_
  refine lv_iload hx hb dX2_start_101 (lv_at hl 0 rfl) ?_
  refine lv_aload_n hx hb dX2_start_103 rfl (lv_at hl 1 rfl) ?_
  refine va_get (D := g.1) (ci := 4) (v := .ref z3) (C := RX2) (T := TX2) (N := 17) hx hb htg inG_X2 hown hK hP 0 rfl rfl 14 (by decide) (htg _ k200) (fun _ h9 => h9) rfl dX2_start_104 ?_
  refine va_alen (v := 5) hx hb hK hP 3 2 rfl rfl rfl dX2_start_107 ?_
  refine lv_icmp_ge (tgt := 125) hx hb dX2_start_108 (by decide) (fun c_6 => absurd c_6 (by decide)) (fun c_6 => ?_)
  refine lv_aload_n hx hb dX2_start_111 rfl (lv_at hl 1 rfl) ?_
  refine va_get (D := g.1) (ci := 4) (v := .ref z3) (C := RX2) (T := TX2) (N := 17) hx hb htg inG_X2 hown hK hP 0 rfl rfl 14 (by decide) (htg _ k200) (fun _ h9 => h9) rfl dX2_start_112 ?_
  refine lv_iload hx hb dX2_start_115 (lv_at hl 0 rfl) ?_
  refine lv_iconst (v := 0) hx hb dX2_start_117 (by decide) ?_
  refine va_zast hx hb hK hP hD hS 3 2 rfl rfl (i := 4) (vp_in_iff.mpr (by decide)) dX2_start_118 (fun H locs hP hD hS => ?_)
  have hP : va_P g.1 CLS [(z0, .inr (4, [.int n1, .int n2, .int n2, .int n3, .int n4, .int n5, .int 0, .int 3, .int 0, .int 0, .int 32, .int 32, .ref z1, .ref z2, .ref z3, .ref z4, .ref z5])), (z1, .inl (g.2.1 1, 5, .inl (va_cpy (fun j : Nat => ([12, 4, 5, 4, 2] : List Int32).getD j 0) f1 ((0 : Int32).toNatClampNeg) ((0 : Int32).toNatClampNeg) ((5 : Int32).toNatClampNeg)))), (z2, .inl (g.2.1 1, 5, .inl (va_cpy (fun j : Nat => ([12, 4, 5, 4, 2] : List Int32).getD j 0) f2 ((0 : Int32).toNatClampNeg) ((0 : Int32).toNatClampNeg) ((5 : Int32).toNatClampNeg)))), (z3, .inl (g.2.1 2, 5, .inl (upd (upd (upd (upd (upd f3 0 (vp_nar .boolean 0)) 1 (vp_nar .boolean 0)) 2 (vp_nar .boolean 0)) 3 (vp_nar .boolean 0)) 4 (vp_nar .boolean 0)))), (z5, .inl (g.2.1 2, 6, .inl f5)), (z4, .inl (g.2.1 1, 6, .inl f_1))] H := hP
  have hD : va_D A [(z0, .inr (4, [.int n1, .int n2, .int n2, .int n3, .int n4, .int n5, .int 0, .int 3, .int 0, .int 0, .int 32, .int 32, .ref z1, .ref z2, .ref z3, .ref z4, .ref z5])), (z1, .inl (g.2.1 1, 5, .inl (va_cpy (fun j : Nat => ([12, 4, 5, 4, 2] : List Int32).getD j 0) f1 ((0 : Int32).toNatClampNeg) ((0 : Int32).toNatClampNeg) ((5 : Int32).toNatClampNeg)))), (z2, .inl (g.2.1 1, 5, .inl (va_cpy (fun j : Nat => ([12, 4, 5, 4, 2] : List Int32).getD j 0) f2 ((0 : Int32).toNatClampNeg) ((0 : Int32).toNatClampNeg) ((5 : Int32).toNatClampNeg)))), (z3, .inl (g.2.1 2, 5, .inl (upd (upd (upd (upd (upd f3 0 (vp_nar .boolean 0)) 1 (vp_nar .boolean 0)) 2 (vp_nar .boolean 0)) 3 (vp_nar .boolean 0)) 4 (vp_nar .boolean 0)))), (z5, .inl (g.2.1 2, 6, .inl f5)), (z4, .inl (g.2.1 1, 6, .inl f_1))] := hD
  refine lv_iinc (v := 5) (lv' := [(6, .int 5), (0, .ref z0), (1, .int n1), (2, .int n2), (3, .int n3), (4, .int n4), (5, .int n5)]) hx hb dX2_start_119 hl (k := 0) rfl (by decide) (by decide) rfl (fun ls hl => ?_)
  refine lv_goto (tgt := 101) hx hb dX2_start_122 (by decide) ?_
  refine lv_iload hx hb dX2_start_101 (lv_at hl 0 rfl) ?_
  refine lv_aload_n hx hb dX2_start_103 rfl (lv_at hl 1 rfl) ?_
  refine va_get (D := g.1) (ci := 4) (v := .ref z3) (C := RX2) (T := TX2) (N := 17) hx hb htg inG_X2 hown hK hP 0 rfl rfl 14 (by decide) (htg _ k200) (fun _ h9 => h9) rfl dX2_start_104 ?_
  refine va_alen (v := 5) hx hb hK hP 3 2 rfl rfl rfl dX2_start_107 ?_
  refine lv_icmp_ge (tgt := 125) hx hb dX2_start_108 (by decide) (fun c_7 => ?_) (fun c_7 => absurd (by decide) c_7)
  refine lv_iconst (v := 0) hx hb dX2_start_125 (by decide) ?_
  refine lv_istore (lv' := [(6, .int 0), (0, .ref z0), (1, .int n1), (2, .int n2), (3, .int n3), (4, .int n4), (5, .int n5)]) hx hb dX2_start_126 hl (by decide) rfl (fun ls hl => ?_)
  refine lv_iload hx hb dX2_start_128 (lv_at hl 0 rfl) ?_
  refine lv_aload_n hx hb dX2_start_130 rfl (lv_at hl 1 rfl) ?_
  refine va_get (D := g.1) (ci := 4) (v := .ref z5) (C := RX2) (T := TX2) (N := 17) hx hb htg inG_X2 hown hK hP 0 rfl rfl 16 (by decide) (htg _ k205) (fun _ h9 => h9) rfl dX2_start_131 ?_
  refine va_alen (v := 6) hx hb hK hP 4 2 rfl rfl rfl dX2_start_134 ?_
  refine lv_icmp_ge (tgt := 152) hx hb dX2_start_135 (by decide) (fun c_8 => absurd c_8 (by decide)) (fun c_8 => ?_)
  refine lv_aload_n hx hb dX2_start_138 rfl (lv_at hl 1 rfl) ?_
  refine va_get (D := g.1) (ci := 4) (v := .ref z5) (C := RX2) (T := TX2) (N := 17) hx hb htg inG_X2 hown hK hP 0 rfl rfl 16 (by decide) (htg _ k205) (fun _ h9 => h9) rfl dX2_start_139 ?_
  refine lv_iload hx hb dX2_start_142 (lv_at hl 0 rfl) ?_
  refine lv_iconst (v := 0) hx hb dX2_start_144 (by decide) ?_
  refine va_zast hx hb hK hP hD hS 4 2 rfl rfl (i := 0) (vp_in_iff.mpr (by decide)) dX2_start_145 (fun H locs hP hD hS => ?_)
  have hP : va_P g.1 CLS [(z0, .inr (4, [.int n1, .int n2, .int n2, .int n3, .int n4, .int n5, .int 0, .int 3, .int 0, .int 0, .int 32, .int 32, .ref z1, .ref z2, .ref z3, .ref z4, .ref z5])), (z1, .inl (g.2.1 1, 5, .inl (va_cpy (fun j : Nat => ([12, 4, 5, 4, 2] : List Int32).getD j 0) f1 ((0 : Int32).toNatClampNeg) ((0 : Int32).toNatClampNeg) ((5 : Int32).toNatClampNeg)))), (z2, .inl (g.2.1 1, 5, .inl (va_cpy (fun j : Nat => ([12, 4, 5, 4, 2] : List Int32).getD j 0) f2 ((0 : Int32).toNatClampNeg) ((0 : Int32).toNatClampNeg) ((5 : Int32).toNatClampNeg)))), (z3, .inl (g.2.1 2, 5, .inl (upd (upd (upd (upd (upd f3 0 (vp_nar .boolean 0)) 1 (vp_nar .boolean 0)) 2 (vp_nar .boolean 0)) 3 (vp_nar .boolean 0)) 4 (vp_nar .boolean 0)))), (z5, .inl (g.2.1 2, 6, .inl (upd f5 0 (vp_nar .boolean 0)))), (z4, .inl (g.2.1 1, 6, .inl f_1))] H := hP
  have hD : va_D A [(z0, .inr (4, [.int n1, .int n2, .int n2, .int n3, .int n4, .int n5, .int 0, .int 3, .int 0, .int 0, .int 32, .int 32, .ref z1, .ref z2, .ref z3, .ref z4, .ref z5])), (z1, .inl (g.2.1 1, 5, .inl (va_cpy (fun j : Nat => ([12, 4, 5, 4, 2] : List Int32).getD j 0) f1 ((0 : Int32).toNatClampNeg) ((0 : Int32).toNatClampNeg) ((5 : Int32).toNatClampNeg)))), (z2, .inl (g.2.1 1, 5, .inl (va_cpy (fun j : Nat => ([12, 4, 5, 4, 2] : List Int32).getD j 0) f2 ((0 : Int32).toNatClampNeg) ((0 : Int32).toNatClampNeg) ((5 : Int32).toNatClampNeg)))), (z3, .inl (g.2.1 2, 5, .inl (upd (upd (upd (upd (upd f3 0 (vp_nar .boolean 0)) 1 (vp_nar .boolean 0)) 2 (vp_nar .boolean 0)) 3 (vp_nar .boolean 0)) 4 (vp_nar .boolean 0)))), (z5, .inl (g.2.1 2, 6, .inl (upd f5 0 (vp_nar .boolean 0)))), (z4, .inl (g.2.1 1, 6, .inl f_1))] := hD
  refine lv_iinc (v := 1) (lv' := [(6, .int 1), (0, .ref z0), (1, .int n1), (2, .int n2), (3, .int n3), (4, .int n4), (5, .int n5)]) hx hb dX2_start_146 hl (k := 0) rfl (by decide) (by decide) rfl (fun ls hl => ?_)
  refine lv_goto (tgt := 128) hx hb dX2_start_149 (by decide) ?_
  refine lv_iload hx hb dX2_start_128 (lv_at hl 0 rfl) ?_
  refine lv_aload_n hx hb dX2_start_130 rfl (lv_at hl 1 rfl) ?_
  refine va_get (D := g.1) (ci := 4) (v := .ref z5) (C := RX2) (T := TX2) (N := 17) hx hb htg inG_X2 hown hK hP 0 rfl rfl 16 (by decide) (htg _ k205) (fun _ h9 => h9) rfl dX2_start_131 ?_
  refine va_alen (v := 6) hx hb hK hP 4 2 rfl rfl rfl dX2_start_134 ?_
  refine lv_icmp_ge (tgt := 152) hx hb dX2_start_135 (by decide) (fun c_9 => absurd c_9 (by decide)) (fun c_9 => ?_)
  refine lv_aload_n hx hb dX2_start_138 rfl (lv_at hl 1 rfl) ?_
  refine va_get (D := g.1) (ci := 4) (v := .ref z5) (C := RX2) (T := TX2) (N := 17) hx hb htg inG_X2 hown hK hP 0 rfl rfl 16 (by decide) (htg _ k205) (fun _ h9 => h9) rfl dX2_start_139 ?_
  refine lv_iload hx hb dX2_start_142 (lv_at hl 0 rfl) ?_
  refine lv_iconst (v := 0) hx hb dX2_start_144 (by decide) ?_
  refine va_zast hx hb hK hP hD hS 4 2 rfl rfl (i := 1) (vp_in_iff.mpr (by decide)) dX2_start_145 (fun H locs hP hD hS => ?_)
  have hP : va_P g.1 CLS [(z0, .inr (4, [.int n1, .int n2, .int n2, .int n3, .int n4, .int n5, .int 0, .int 3, .int 0, .int 0, .int 32, .int 32, .ref z1, .ref z2, .ref z3, .ref z4, .ref z5])), (z1, .inl (g.2.1 1, 5, .inl (va_cpy (fun j : Nat => ([12, 4, 5, 4, 2] : List Int32).getD j 0) f1 ((0 : Int32).toNatClampNeg) ((0 : Int32).toNatClampNeg) ((5 : Int32).toNatClampNeg)))), (z2, .inl (g.2.1 1, 5, .inl (va_cpy (fun j : Nat => ([12, 4, 5, 4, 2] : List Int32).getD j 0) f2 ((0 : Int32).toNatClampNeg) ((0 : Int32).toNatClampNeg) ((5 : Int32).toNatClampNeg)))), (z3, .inl (g.2.1 2, 5, .inl (upd (upd (upd (upd (upd f3 0 (vp_nar .boolean 0)) 1 (vp_nar .boolean 0)) 2 (vp_nar .boolean 0)) 3 (vp_nar .boolean 0)) 4 (vp_nar .boolean 0)))), (z5, .inl (g.2.1 2, 6, .inl (upd (upd f5 0 (vp_nar .boolean 0)) 1 (vp_nar .boolean 0)))), (z4, .inl (g.2.1 1, 6, .inl f_1))] H := hP
  have hD : va_D A [(z0, .inr (4, [.int n1, .int n2, .int n2, .int n3, .int n4, .int n5, .int 0, .int 3, .int 0, .int 0, .int 32, .int 32, .ref z1, .ref z2, .ref z3, .ref z4, .ref z5])), (z1, .inl (g.2.1 1, 5, .inl (va_cpy (fun j : Nat => ([12, 4, 5, 4, 2] : List Int32).getD j 0) f1 ((0 : Int32).toNatClampNeg) ((0 : Int32).toNatClampNeg) ((5 : Int32).toNatClampNeg)))), (z2, .inl (g.2.1 1, 5, .inl (va_cpy (fun j : Nat => ([12, 4, 5, 4, 2] : List Int32).getD j 0) f2 ((0 : Int32).toNatClampNeg) ((0 : Int32).toNatClampNeg) ((5 : Int32).toNatClampNeg)))), (z3, .inl (g.2.1 2, 5, .inl (upd (upd (upd (upd (upd f3 0 (vp_nar .boolean 0)) 1 (vp_nar .boolean 0)) 2 (vp_nar .boolean 0)) 3 (vp_nar .boolean 0)) 4 (vp_nar .boolean 0)))), (z5, .inl (g.2.1 2, 6, .inl (upd (upd f5 0 (vp_nar .boolean 0)) 1 (vp_nar .boolean 0)))), (z4, .inl (g.2.1 1, 6, .inl f_1))] := hD
  refine lv_iinc (v := 2) (lv' := [(6, .int 2), (0, .ref z0), (1, .int n1), (2, .int n2), (3, .int n3), (4, .int n4), (5, .int n5)]) hx hb dX2_start_146 hl (k := 0) rfl (by decide) (by decide) rfl (fun ls hl => ?_)
  refine lv_goto (tgt := 128) hx hb dX2_start_149 (by decide) ?_
  refine lv_iload hx hb dX2_start_128 (lv_at hl 0 rfl) ?_
  refine lv_aload_n hx hb dX2_start_130 rfl (lv_at hl 1 rfl) ?_
  refine va_get (D := g.1) (ci := 4) (v := .ref z5) (C := RX2) (T := TX2) (N := 17) hx hb htg inG_X2 hown hK hP 0 rfl rfl 16 (by decide) (htg _ k205) (fun _ h9 => h9) rfl dX2_start_131 ?_
  refine va_alen (v := 6) hx hb hK hP 4 2 rfl rfl rfl dX2_start_134 ?_
  refine lv_icmp_ge (tgt := 152) hx hb dX2_start_135 (by decide) (fun c_10 => absurd c_10 (by decide)) (fun c_10 => ?_)
  refine lv_aload_n hx hb dX2_start_138 rfl (lv_at hl 1 rfl) ?_
  refine va_get (D := g.1) (ci := 4) (v := .ref z5) (C := RX2) (T := TX2) (N := 17) hx hb htg inG_X2 hown hK hP 0 rfl rfl 16 (by decide) (htg _ k205) (fun _ h9 => h9) rfl dX2_start_139 ?_
  refine lv_iload hx hb dX2_start_142 (lv_at hl 0 rfl) ?_
  refine lv_iconst (v := 0) hx hb dX2_start_144 (by decide) ?_
  refine va_zast hx hb hK hP hD hS 4 2 rfl rfl (i := 2) (vp_in_iff.mpr (by decide)) dX2_start_145 (fun H locs hP hD hS => ?_)
  have hP : va_P g.1 CLS [(z0, .inr (4, [.int n1, .int n2, .int n2, .int n3, .int n4, .int n5, .int 0, .int 3, .int 0, .int 0, .int 32, .int 32, .ref z1, .ref z2, .ref z3, .ref z4, .ref z5])), (z1, .inl (g.2.1 1, 5, .inl (va_cpy (fun j : Nat => ([12, 4, 5, 4, 2] : List Int32).getD j 0) f1 ((0 : Int32).toNatClampNeg) ((0 : Int32).toNatClampNeg) ((5 : Int32).toNatClampNeg)))), (z2, .inl (g.2.1 1, 5, .inl (va_cpy (fun j : Nat => ([12, 4, 5, 4, 2] : List Int32).getD j 0) f2 ((0 : Int32).toNatClampNeg) ((0 : Int32).toNatClampNeg) ((5 : Int32).toNatClampNeg)))), (z3, .inl (g.2.1 2, 5, .inl (upd (upd (upd (upd (upd f3 0 (vp_nar .boolean 0)) 1 (vp_nar .boolean 0)) 2 (vp_nar .boolean 0)) 3 (vp_nar .boolean 0)) 4 (vp_nar .boolean 0)))), (z5, .inl (g.2.1 2, 6, .inl (upd (upd (upd f5 0 (vp_nar .boolean 0)) 1 (vp_nar .boolean 0)) 2 (vp_nar .boolean 0)))), (z4, .inl (g.2.1 1, 6, .inl f_1))] H := hP
  have hD : va_D A [(z0, .inr (4, [.int n1, .int n2, .int n2, .int n3, .int n4, .int n5, .int 0, .int 3, .int 0, .int 0, .int 32, .int 32, .ref z1, .ref z2, .ref z3, .ref z4, .ref z5])), (z1, .inl (g.2.1 1, 5, .inl (va_cpy (fun j : Nat => ([12, 4, 5, 4, 2] : List Int32).getD j 0) f1 ((0 : Int32).toNatClampNeg) ((0 : Int32).toNatClampNeg) ((5 : Int32).toNatClampNeg)))), (z2, .inl (g.2.1 1, 5, .inl (va_cpy (fun j : Nat => ([12, 4, 5, 4, 2] : List Int32).getD j 0) f2 ((0 : Int32).toNatClampNeg) ((0 : Int32).toNatClampNeg) ((5 : Int32).toNatClampNeg)))), (z3, .inl (g.2.1 2, 5, .inl (upd (upd (upd (upd (upd f3 0 (vp_nar .boolean 0)) 1 (vp_nar .boolean 0)) 2 (vp_nar .boolean 0)) 3 (vp_nar .boolean 0)) 4 (vp_nar .boolean 0)))), (z5, .inl (g.2.1 2, 6, .inl (upd (upd (upd f5 0 (vp_nar .boolean 0)) 1 (vp_nar .boolean 0)) 2 (vp_nar .boolean 0)))), (z4, .inl (g.2.1 1, 6, .inl f_1))] := hD
  refine lv_iinc (v := 3) (lv' := [(6, .int 3), (0, .ref z0), (1, .int n1), (2, .int n2), (3, .int n3), (4, .int n4), (5, .int n5)]) hx hb dX2_start_146 hl (k := 0) rfl (by decide) (by decide) rfl (fun ls hl => ?_)
  refine lv_goto (tgt := 128) hx hb dX2_start_149 (by decide) ?_
  refine lv_iload hx hb dX2_start_128 (lv_at hl 0 rfl) ?_
  refine lv_aload_n hx hb dX2_start_130 rfl (lv_at hl 1 rfl) ?_
  refine va_get (D := g.1) (ci := 4) (v := .ref z5) (C := RX2) (T := TX2) (N := 17) hx hb htg inG_X2 hown hK hP 0 rfl rfl 16 (by decide) (htg _ k205) (fun _ h9 => h9) rfl dX2_start_131 ?_
  refine va_alen (v := 6) hx hb hK hP 4 2 rfl rfl rfl dX2_start_134 ?_
  refine lv_icmp_ge (tgt := 152) hx hb dX2_start_135 (by decide) (fun c_11 => absurd c_11 (by decide)) (fun c_11 => ?_)
  refine lv_aload_n hx hb dX2_start_138 rfl (lv_at hl 1 rfl) ?_
  refine va_get (D := g.1) (ci := 4) (v := .ref z5) (C := RX2) (T := TX2) (N := 17) hx hb htg inG_X2 hown hK hP 0 rfl rfl 16 (by decide) (htg _ k205) (fun _ h9 => h9) rfl dX2_start_139 ?_
  refine lv_iload hx hb dX2_start_142 (lv_at hl 0 rfl) ?_
  refine lv_iconst (v := 0) hx hb dX2_start_144 (by decide) ?_
  refine va_zast hx hb hK hP hD hS 4 2 rfl rfl (i := 3) (vp_in_iff.mpr (by decide)) dX2_start_145 (fun H locs hP hD hS => ?_)
  have hP : va_P g.1 CLS [(z0, .inr (4, [.int n1, .int n2, .int n2, .int n3, .int n4, .int n5, .int 0, .int 3, .int 0, .int 0, .int 32, .int 32, .ref z1, .ref z2, .ref z3, .ref z4, .ref z5])), (z1, .inl (g.2.1 1, 5, .inl (va_cpy (fun j : Nat => ([12, 4, 5, 4, 2] : List Int32).getD j 0) f1 ((0 : Int32).toNatClampNeg) ((0 : Int32).toNatClampNeg) ((5 : Int32).toNatClampNeg)))), (z2, .inl (g.2.1 1, 5, .inl (va_cpy (fun j : Nat => ([12, 4, 5, 4, 2] : List Int32).getD j 0) f2 ((0 : Int32).toNatClampNeg) ((0 : Int32).toNatClampNeg) ((5 : Int32).toNatClampNeg)))), (z3, .inl (g.2.1 2, 5, .inl (upd (upd (upd (upd (upd f3 0 (vp_nar .boolean 0)) 1 (vp_nar .boolean 0)) 2 (vp_nar .boolean 0)) 3 (vp_nar .boolean 0)) 4 (vp_nar .boolean 0)))), (z5, .inl (g.2.1 2, 6, .inl (upd (upd (upd (upd f5 0 (vp_nar .boolean 0)) 1 (vp_nar .boolean 0)) 2 (vp_nar .boolean 0)) 3 (vp_nar .boolean 0)))), (z4, .inl (g.2.1 1, 6, .inl f_1))] H := hP
  have hD : va_D A [(z0, .inr (4, [.int n1, .int n2, .int n2, .int n3, .int n4, .int n5, .int 0, .int 3, .int 0, .int 0, .int 32, .int 32, .ref z1, .ref z2, .ref z3, .ref z4, .ref z5])), (z1, .inl (g.2.1 1, 5, .inl (va_cpy (fun j : Nat => ([12, 4, 5, 4, 2] : List Int32).getD j 0) f1 ((0 : Int32).toNatClampNeg) ((0 : Int32).toNatClampNeg) ((5 : Int32).toNatClampNeg)))), (z2, .inl (g.2.1 1, 5, .inl (va_cpy (fun j : Nat => ([12, 4, 5, 4, 2] : List Int32).getD j 0) f2 ((0 : Int32).toNatClampNeg) ((0 : Int32).toNatClampNeg) ((5 : Int32).toNatClampNeg)))), (z3, .inl (g.2.1 2, 5, .inl (upd (upd (upd (upd (upd f3 0 (vp_nar .boolean 0)) 1 (vp_nar .boolean 0)) 2 (vp_nar .boolean 0)) 3 (vp_nar .boolean 0)) 4 (vp_nar .boolean 0)))), (z5, .inl (g.2.1 2, 6, .inl (upd (upd (upd (upd f5 0 (vp_nar .boolean 0)) 1 (vp_nar .boolean 0)) 2 (vp_nar .boolean 0)) 3 (vp_nar .boolean 0)))), (z4, .inl (g.2.1 1, 6, .inl f_1))] := hD
  refine lv_iinc (v := 4) (lv' := [(6, .int 4), (0, .ref z0), (1, .int n1), (2, .int n2), (3, .int n3), (4, .int n4), (5, .int n5)]) hx hb dX2_start_146 hl (k := 0) rfl (by decide) (by decide) rfl (fun ls hl => ?_)
  refine lv_goto (tgt := 128) hx hb dX2_start_149 (by decide) ?_
  refine lv_iload hx hb dX2_start_128 (lv_at hl 0 rfl) ?_
  refine lv_aload_n hx hb dX2_start_130 rfl (lv_at hl 1 rfl) ?_
  refine va_get (D := g.1) (ci := 4) (v := .ref z5) (C := RX2) (T := TX2) (N := 17) hx hb htg inG_X2 hown hK hP 0 rfl rfl 16 (by decide) (htg _ k205) (fun _ h9 => h9) rfl dX2_start_131 ?_
  refine va_alen (v := 6) hx hb hK hP 4 2 rfl rfl rfl dX2_start_134 ?_
  refine lv_icmp_ge (tgt := 152) hx hb dX2_start_135 (by decide) (fun c_12 => absurd c_12 (by decide)) (fun c_12 => ?_)
  refine lv_aload_n hx hb dX2_start_138 rfl (lv_at hl 1 rfl) ?_
  refine va_get (D := g.1) (ci := 4) (v := .ref z5) (C := RX2) (T := TX2) (N := 17) hx hb htg inG_X2 hown hK hP 0 rfl rfl 16 (by decide) (htg _ k205) (fun _ h9 => h9) rfl dX2_start_139 ?_
  refine lv_iload hx hb dX2_start_142 (lv_at hl 0 rfl) ?_
  refine lv_iconst (v := 0) hx hb dX2_start_144 (by decide) ?_
  refine va_zast hx hb hK hP hD hS 4 2 rfl rfl (i := 4) (vp_in_iff.mpr (by decide)) dX2_start_145 (fun H locs hP hD hS => ?_)
  have hP : va_P g.1 CLS [(z0, .inr (4, [.int n1, .int n2, .int n2, .int n3, .int n4, .int n5, .int 0, .int 3, .int 0, .int 0, .int 32, .int 32, .ref z1, .ref z2, .ref z3, .ref z4, .ref z5])), (z1, .inl (g.2.1 1, 5, .inl (va_cpy (fun j : Nat => ([12, 4, 5, 4, 2] : List Int32).getD j 0) f1 ((0 : Int32).toNatClampNeg) ((0 : Int32).toNatClampNeg) ((5 : Int32).toNatClampNeg)))), (z2, .inl (g.2.1 1, 5, .inl (va_cpy (fun j : Nat => ([12, 4, 5, 4, 2] : List Int32).getD j 0) f2 ((0 : Int32).toNatClampNeg) ((0 : Int32).toNatClampNeg) ((5 : Int32).toNatClampNeg)))), (z3, .inl (g.2.1 2, 5, .inl (upd (upd (upd (upd (upd f3 0 (vp_nar .boolean 0)) 1 (vp_nar .boolean 0)) 2 (vp_nar .boolean 0)) 3 (vp_nar .boolean 0)) 4 (vp_nar .boolean 0)))), (z5, .inl (g.2.1 2, 6, .inl (upd (upd (upd (upd (upd f5 0 (vp_nar .boolean 0)) 1 (vp_nar .boolean 0)) 2 (vp_nar .boolean 0)) 3 (vp_nar .boolean 0)) 4 (vp_nar .boolean 0)))), (z4, .inl (g.2.1 1, 6, .inl f_1))] H := hP
  have hD : va_D A [(z0, .inr (4, [.int n1, .int n2, .int n2, .int n3, .int n4, .int n5, .int 0, .int 3, .int 0, .int 0, .int 32, .int 32, .ref z1, .ref z2, .ref z3, .ref z4, .ref z5])), (z1, .inl (g.2.1 1, 5, .inl (va_cpy (fun j : Nat => ([12, 4, 5, 4, 2] : List Int32).getD j 0) f1 ((0 : Int32).toNatClampNeg) ((0 : Int32).toNatClampNeg) ((5 : Int32).toNatClampNeg)))), (z2, .inl (g.2.1 1, 5, .inl (va_cpy (fun j : Nat => ([12, 4, 5, 4, 2] : List Int32).getD j 0) f2 ((0 : Int32).toNatClampNeg) ((0 : Int32).toNatClampNeg) ((5 : Int32).toNatClampNeg)))), (z3, .inl (g.2.1 2, 5, .inl (upd (upd (upd (upd (upd f3 0 (vp_nar .boolean 0)) 1 (vp_nar .boolean 0)) 2 (vp_nar .boolean 0)) 3 (vp_nar .boolean 0)) 4 (vp_nar .boolean 0)))), (z5, .inl (g.2.1 2, 6, .inl (upd (upd (upd (upd (upd f5 0 (vp_nar .boolean 0)) 1 (vp_nar .boolean 0)) 2 (vp_nar .boolean 0)) 3 (vp_nar .boolean 0)) 4 (vp_nar .boolean 0)))), (z4, .inl (g.2.1 1, 6, .inl f_1))] := hD
  refine lv_iinc (v := 5) (lv' := [(6, .int 5), (0, .ref z0), (1, .int n1), (2, .int n2), (3, .int n3), (4, .int n4), (5, .int n5)]) hx hb dX2_start_146 hl (k := 0) rfl (by decide) (by decide) rfl (fun ls hl => ?_)
  refine lv_goto (tgt := 128) hx hb dX2_start_149 (by decide) ?_
  refine lv_iload hx hb dX2_start_128 (lv_at hl 0 rfl) ?_
  refine lv_aload_n hx hb dX2_start_130 rfl (lv_at hl 1 rfl) ?_
  refine va_get (D := g.1) (ci := 4) (v := .ref z5) (C := RX2) (T := TX2) (N := 17) hx hb htg inG_X2 hown hK hP 0 rfl rfl 16 (by decide) (htg _ k205) (fun _ h9 => h9) rfl dX2_start_131 ?_
  refine va_alen (v := 6) hx hb hK hP 4 2 rfl rfl rfl dX2_start_134 ?_
  refine lv_icmp_ge (tgt := 152) hx hb dX2_start_135 (by decide) (fun c_13 => absurd c_13 (by decide)) (fun c_13 => ?_)
  refine lv_aload_n hx hb dX2_start_138 rfl (lv_at hl 1 rfl) ?_
  refine va_get (D := g.1) (ci := 4) (v := .ref z5) (C := RX2) (T := TX2) (N := 17) hx hb htg inG_X2 hown hK hP 0 rfl rfl 16 (by decide) (htg _ k205) (fun _ h9 => h9) rfl dX2_start_139 ?_
  refine lv_iload hx hb dX2_start_142 (lv_at hl 0 rfl) ?_
  refine lv_iconst (v := 0) hx hb dX2_start_144 (by decide) ?_
  refine va_zast hx hb hK hP hD hS 4 2 rfl rfl (i := 5) (vp_in_iff.mpr (by decide)) dX2_start_145 (fun H locs hP hD hS => ?_)
  have hP : va_P g.1 CLS [(z0, .inr (4, [.int n1, .int n2, .int n2, .int n3, .int n4, .int n5, .int 0, .int 3, .int 0, .int 0, .int 32, .int 32, .ref z1, .ref z2, .ref z3, .ref z4, .ref z5])), (z1, .inl (g.2.1 1, 5, .inl (va_cpy (fun j : Nat => ([12, 4, 5, 4, 2] : List Int32).getD j 0) f1 ((0 : Int32).toNatClampNeg) ((0 : Int32).toNatClampNeg) ((5 : Int32).toNatClampNeg)))), (z2, .inl (g.2.1 1, 5, .inl (va_cpy (fun j : Nat => ([12, 4, 5, 4, 2] : List Int32).getD j 0) f2 ((0 : Int32).toNatClampNeg) ((0 : Int32).toNatClampNeg) ((5 : Int32).toNatClampNeg)))), (z3, .inl (g.2.1 2, 5, .inl (upd (upd (upd (upd (upd f3 0 (vp_nar .boolean 0)) 1 (vp_nar .boolean 0)) 2 (vp_nar .boolean 0)) 3 (vp_nar .boolean 0)) 4 (vp_nar .boolean 0)))), (z5, .inl (g.2.1 2, 6, .inl (upd (upd (upd (upd (upd (upd f5 0 (vp_nar .boolean 0)) 1 (vp_nar .boolean 0)) 2 (vp_nar .boolean 0)) 3 (vp_nar .boolean 0)) 4 (vp_nar .boolean 0)) 5 (vp_nar .boolean 0)))), (z4, .inl (g.2.1 1, 6, .inl f_1))] H := hP
  have hD : va_D A [(z0, .inr (4, [.int n1, .int n2, .int n2, .int n3, .int n4, .int n5, .int 0, .int 3, .int 0, .int 0, .int 32, .int 32, .ref z1, .ref z2, .ref z3, .ref z4, .ref z5])), (z1, .inl (g.2.1 1, 5, .inl (va_cpy (fun j : Nat => ([12, 4, 5, 4, 2] : List Int32).getD j 0) f1 ((0 : Int32).toNatClampNeg) ((0 : Int32).toNatClampNeg) ((5 : Int32).toNatClampNeg)))), (z2, .inl (g.2.1 1, 5, .inl (va_cpy (fun j : Nat => ([12, 4, 5, 4, 2] : List Int32).getD j 0) f2 ((0 : Int32).toNatClampNeg) ((0 : Int32).toNatClampNeg) ((5 : Int32).toNatClampNeg)))), (z3, .inl (g.2.1 2, 5, .inl (upd (upd (upd (upd (upd f3 0 (vp_nar .boolean 0)) 1 (vp_nar .boolean 0)) 2 (vp_nar .boolean 0)) 3 (vp_nar .boolean 0)) 4 (vp_nar .boolean 0)))), (z5, .inl (g.2.1 2, 6, .inl (upd (upd (upd (upd (upd (upd f5 0 (vp_nar .boolean 0)) 1 (vp_nar .boolean 0)) 2 (vp_nar .boolean 0)) 3 (vp_nar .boolean 0)) 4 (vp_nar .boolean 0)) 5 (vp_nar .boolean 0)))), (z4, .inl (g.2.1 1, 6, .inl f_1))] := hD
  refine lv_iinc (v := 6) (lv' := [(6, .int 6), (0, .ref z0), (1, .int n1), (2, .int n2), (3, .int n3), (4, .int n4), (5, .int n5)]) hx hb dX2_start_146 hl (k := 0) rfl (by decide) (by decide) rfl (fun ls hl => ?_)
  refine lv_goto (tgt := 128) hx hb dX2_start_149 (by decide) ?_
  refine lv_iload hx hb dX2_start_128 (lv_at hl 0 rfl) ?_
  refine lv_aload_n hx hb dX2_start_130 rfl (lv_at hl 1 rfl) ?_
  refine va_get (D := g.1) (ci := 4) (v := .ref z5) (C := RX2) (T := TX2) (N := 17) hx hb htg inG_X2 hown hK hP 0 rfl rfl 16 (by decide) (htg _ k205) (fun _ h9 => h9) rfl dX2_start_131 ?_
  refine va_alen (v := 6) hx hb hK hP 4 2 rfl rfl rfl dX2_start_134 ?_
  refine lv_icmp_ge (tgt := 152) hx hb dX2_start_135 (by decide) (fun c_14 => ?_) (fun c_14 => absurd (by decide) c_14)
  have hP9 := hP.sub (ws' := [(z0, .inr (4, [.int n1, .int n2, .int n2, .int n3, .int n4, .int n5, .int 0, .int 3, .int 0, .int 0, .int 32, .int 32, .ref z1, .ref z2, .ref z3, .ref z4, .ref z5])), (z1, .inl (g.2.1 1, 5, .inl (va_cpy (fun j : Nat => ([12, 4, 5, 4, 2] : List Int32).getD j 0) f1 ((0 : Int32).toNatClampNeg) ((0 : Int32).toNatClampNeg) ((5 : Int32).toNatClampNeg)))), (z2, .inl (g.2.1 1, 5, .inl (va_cpy (fun j : Nat => ([12, 4, 5, 4, 2] : List Int32).getD j 0) f2 ((0 : Int32).toNatClampNeg) ((0 : Int32).toNatClampNeg) ((5 : Int32).toNatClampNeg)))), (z3, .inl (g.2.1 2, 5, .inl (upd (upd (upd (upd (upd f3 0 (vp_nar .boolean 0)) 1 (vp_nar .boolean 0)) 2 (vp_nar .boolean 0)) 3 (vp_nar .boolean 0)) 4 (vp_nar .boolean 0)))), (z4, .inl (g.2.1 1, 6, .inl f_1)), (z5, .inl (g.2.1 2, 6, .inl (upd (upd (upd (upd (upd (upd f5 0 (vp_nar .boolean 0)) 1 (vp_nar .boolean 0)) 2 (vp_nar .boolean 0)) 3 (vp_nar .boolean 0)) 4 (vp_nar .boolean 0)) 5 (vp_nar .boolean 0))))]) [0, 1, 2, 3, 5, 4] rfl
  have hD9 := hD.sub (ws' := [(z0, .inr (4, [.int n1, .int n2, .int n2, .int n3, .int n4, .int n5, .int 0, .int 3, .int 0, .int 0, .int 32, .int 32, .ref z1, .ref z2, .ref z3, .ref z4, .ref z5])), (z1, .inl (g.2.1 1, 5, .inl (va_cpy (fun j : Nat => ([12, 4, 5, 4, 2] : List Int32).getD j 0) f1 ((0 : Int32).toNatClampNeg) ((0 : Int32).toNatClampNeg) ((5 : Int32).toNatClampNeg)))), (z2, .inl (g.2.1 1, 5, .inl (va_cpy (fun j : Nat => ([12, 4, 5, 4, 2] : List Int32).getD j 0) f2 ((0 : Int32).toNatClampNeg) ((0 : Int32).toNatClampNeg) ((5 : Int32).toNatClampNeg)))), (z3, .inl (g.2.1 2, 5, .inl (upd (upd (upd (upd (upd f3 0 (vp_nar .boolean 0)) 1 (vp_nar .boolean 0)) 2 (vp_nar .boolean 0)) 3 (vp_nar .boolean 0)) 4 (vp_nar .boolean 0)))), (z4, .inl (g.2.1 1, 6, .inl f_1)), (z5, .inl (g.2.1 2, 6, .inl (upd (upd (upd (upd (upd (upd f5 0 (vp_nar .boolean 0)) 1 (vp_nar .boolean 0)) 2 (vp_nar .boolean 0)) 3 (vp_nar .boolean 0)) 4 (vp_nar .boolean 0)) 5 (vp_nar .boolean 0))))]) [0, 1, 2, 3, 5, 4] (by decide) rfl
  refine W.widen (k := 0) (n := 0) (Nat.le_of_ble_eq_true rfl) (Nat.le_of_ble_eq_true rfl) ?_
  exact W.vret hx hb hr (fun t ht hW => ⟨⟨[(z0, .inr (4, [.int n1, .int n2, .int n2, .int n3, .int n4, .int n5, .int 0, .int 3, .int 0, .int 0, .int 32, .int 32, .ref z1, .ref z2, .ref z3, .ref z4, .ref z5])), (z1, .inl (g.2.1 1, 5, .inl (va_cpy (fun j : Nat => ([12, 4, 5, 4, 2] : List Int32).getD j 0) f1 ((0 : Int32).toNatClampNeg) ((0 : Int32).toNatClampNeg) ((5 : Int32).toNatClampNeg)))), (z2, .inl (g.2.1 1, 5, .inl (va_cpy (fun j : Nat => ([12, 4, 5, 4, 2] : List Int32).getD j 0) f2 ((0 : Int32).toNatClampNeg) ((0 : Int32).toNatClampNeg) ((5 : Int32).toNatClampNeg)))), (z3, .inl (g.2.1 2, 5, .inl (upd (upd (upd (upd (upd f3 0 (vp_nar .boolean 0)) 1 (vp_nar .boolean 0)) 2 (vp_nar .boolean 0)) 3 (vp_nar .boolean 0)) 4 (vp_nar .boolean 0)))), (z4, .inl (g.2.1 1, 6, .inl f_1)), (z5, .inl (g.2.1 2, 6, .inl (upd (upd (upd (upd (upd (upd f5 0 (vp_nar .boolean 0)) 1 (vp_nar .boolean 0)) 2 (vp_nar .boolean 0)) 3 (vp_nar .boolean 0)) 4 (vp_nar .boolean 0)) 5 (vp_nar .boolean 0))))], rfl, ⟨(va_cpy (fun j : Nat => ([12, 4, 5, 4, 2] : List Int32).getD j 0) f1 ((0 : Int32).toNatClampNeg) ((0 : Int32).toNatClampNeg) ((5 : Int32).toNatClampNeg)), (va_cpy (fun j : Nat => ([12, 4, 5, 4, 2] : List Int32).getD j 0) f2 ((0 : Int32).toNatClampNeg) ((0 : Int32).toNatClampNeg) ((5 : Int32).toNatClampNeg)), (upd (upd (upd (upd (upd f3 0 (vp_nar .boolean 0)) 1 (vp_nar .boolean 0)) 2 (vp_nar .boolean 0)) 3 (vp_nar .boolean 0)) 4 (vp_nar .boolean 0)), f_1, (upd (upd (upd (upd (upd (upd f5 0 (vp_nar .boolean 0)) 1 (vp_nar .boolean 0)) 2 (vp_nar .boolean 0)) 3 (vp_nar .boolean 0)) 4 (vp_nar .boolean 0)) 5 (vp_nar .boolean 0)), rfl⟩, by rw [ht]; exact hP9, va_K.moved hW.alike hK, hD9⟩, hS.F ht⟩) hS.2.2 dX2_start_152

set_option maxHeartbeats 4000000 in
set_option maxRecDepth 100000 in
theorem c_X4_init (l : Launch) (hfl : l.stackTraces = false) (g : GP) (z0 : Nat) (z1 : Nat)  : CV l yX4_init (wG yX4_init cX4_init 2 (Option.none : Option Jvm.ClassFile.FieldType)) (LV 2 1 0) g [.ref z0, .ref z1] ([(z0, .inr (5, [.null, .null, .int 0]))]) (fun (u : va_W) => ∃ (q1 : Nat), u = [(z0, .inr (5, [.ref z1, .ref q1, .int 0])), (q1, .inl (g.2.1 4, 0, .inr (.inr (.inr (.inr (fun _ => none))))))]) := by
  intro sz
  refine Met.ofW (cc := cX4_init) (maxL := 2) (ret := (Option.none : Option Jvm.ClassFile.FieldType)) (by decide) rfl ?_
  intro p e s m args below meth c s₁ B hml hv
  obtain ⟨rfl, hsz, hP, hK, hD0, hT0⟩ := hv
  have hx := B.exec
  have hb := B.bytes
  have hr := B.returns
  have hts := atoms_spec (ws := (wG yX4_init cX4_init 2 (Option.none : Option Jvm.ClassFile.FieldType))) B.pre
  have htg : ∀ w ∈ G9, w.before _ s = true := fun w h => hts w (List.mem_cons_of_mem _ h)
  have hown : s.vm.findClass "HeroTable$Sources" = some m.cls := findClass_of_methodNamed B.named
  have hlocks := B.notSynchronized
  have hin : meth.name = "<init>" := (name_of_methodNamed B.named B.method).1
  subst hsz
  have hD := hD0.self (sz := s.heap.size)
  have hT := hT0
  clear hT0
  generalize hAe : va_A [(z0, .inr (5, [.null, .null, .int 0]))] s.heap.size = A at hD hT ⊢
  have hA : ∀ q : Nat, s.heap.size ≤ q → A q := fun q h => by rw [← hAe]; exact Or.inr h
  obtain ⟨H, hH0⟩ : ∃ H, H = s.heap := ⟨_, rfl⟩
  have hS : va_S A s.heap H [] := by rw [hH0]; exact va_S.rf
  have hP : va_P g.1 CLS [(z0, .inr (5, [.null, .null, .int 0]))] H := by rw [hH0]; exact hP
  rw [← hH0]
  have hl := lv_entry ([.ref z0, .ref z1]) (n := 2) (Nat.le_of_ble_eq_true rfl)
  rw [lg_entry_eq]
  generalize (lg_sl ([.ref z0, .ref z1]) ++ List.replicate (2 - (lg_sl ([.ref z0, .ref z1])).length) Slot.unset).toArray = ls at hl ⊢
  have hl : lv_has ls 2 [(0, .ref z0), (1, .ref z1)] := hl
  refine lv_aload_n hx hb dX4_init_0 rfl (lv_at hl 0 rfl) ?_
  refine W.objInit hx hb hown (htg _ k113) (htg _ k98) (htg _ k99) rfl (by rw [hml]; exact hl.1) rfl dX4_init_1 (Nat.le_of_ble_eq_true rfl) (Nat.le_of_ble_eq_true rfl) ?_
  refine W.eq (g2 := F0 m 4 ls []) rfl ?_
  refine lv_aload_n hx hb dX4_init_4 rfl (lv_at hl 0 rfl) ?_
  refine lv_iconst (v := 0) hx hb dX4_init_5 (by decide) ?_
  refine va_newq (own := "HeroTable$Sources") (C := "HeroTable$Source") (index := 9) (N' := 0) hx hb hown (htg _ k114) (hT.1.2.2.2.1.2.1) hK hP hD hS hA (by decide) (by decide) (by decide) (Nat.le_of_ble_eq_true rfl) (Nat.le_of_ble_eq_true rfl) dX4_init_6 (fun q_1 cA H hK9 hP hD hS => ?_)
  obtain rfl := q_arr hK9 (t0 := 4) rfl (by decide)
  clear hK9
  have hP : va_P g.1 CLS [(z0, .inr (5, [.null, .null, .int 0])), (q_1, .inl (g.2.1 4, 0, .inr (.inr (.inr (.inr (fun _ => none))))))] H := hP
  have hD : va_D A [(z0, .inr (5, [.null, .null, .int 0])), (q_1, .inl (g.2.1 4, 0, .inr (.inr (.inr (.inr (fun _ => none))))))] := hD
  refine W.widen (k := 1) (n := 0) (Nat.le_of_ble_eq_true rfl) (Nat.le_of_ble_eq_true rfl) ?_
  refine va_put (D := g.1) (ci := 5) (v := .ref q_1) (ty := (.array (.object "HeroTable$Source"))) (C := RX4) (T := TX4) (N := 3) hx hb htg inG_X4 tyX4 tyX4_ok nmX4 hown hK hP hD hS 0 rfl rfl 1 (by decide) (htg _ k117) (fun _ h9 => h9) rfl (by decide +kernel) rfl rfl (Nat.le_of_ble_eq_true rfl) dX4_init_9 (fun H locs hP hD hS => ?_)
  have hP : va_P g.1 CLS [(z0, .inr (5, [.null, .ref q_1, .int 0])), (q_1, .inl (g.2.1 4, 0, .inr (.inr (.inr (.inr (fun _ => none))))))] H := hP
  have hD : va_D A [(z0, .inr (5, [.null, .ref q_1, .int 0])), (q_1, .inl (g.2.1 4, 0, .inr (.inr (.inr (.inr (fun _ => none))))))] := hD
  refine lv_aload_n hx hb dX4_init_12 rfl (lv_at hl 0 rfl) ?_
  refine lv_aload_n hx hb dX4_init_13 rfl (lv_at hl 1 rfl) ?_
  refine va_putF (D := g.1) (ci := 5) (v := .ref z1) (ty := (.array (.object "HeroTable$Hero"))) (C := RX4) (T := TX4) (N := 3) hx hb htg inG_X4 tyX4 tyX4_ok nmX4 hown hK hP hD hS 0 rfl rfl 0 (by decide) (htg _ k116) (fun _ h9 => h9) rfl hin rfl (by decide +kernel) rfl rfl (Nat.le_of_ble_eq_true rfl) dX4_init_14 (fun H locs hP hD hS => ?_)
  have hP : va_P g.1 CLS [(z0, .inr (5, [.ref z1, .ref q_1, .int 0])), (q_1, .inl (g.2.1 4, 0, .inr (.inr (.inr (.inr (fun _ => none))))))] H := hP
  have hD : va_D A [(z0, .inr (5, [.ref z1, .ref q_1, .int 0])), (q_1, .inl (g.2.1 4, 0, .inr (.inr (.inr (.inr (fun _ => none))))))] := hD
  have hP9 := hP.sub (ws' := [(z0, .inr (5, [.ref z1, .ref q_1, .int 0])), (q_1, .inl (g.2.1 4, 0, .inr (.inr (.inr (.inr (fun _ => none))))))]) [0, 1] rfl
  have hD9 := hD.sub (ws' := [(z0, .inr (5, [.ref z1, .ref q_1, .int 0])), (q_1, .inl (g.2.1 4, 0, .inr (.inr (.inr (.inr (fun _ => none))))))]) [0, 1] (by decide) rfl
  refine W.widen (k := 1) (n := 0) (Nat.le_of_ble_eq_true rfl) (Nat.le_of_ble_eq_true rfl) ?_
  exact W.vret hx hb hr (fun t ht hW => ⟨⟨[(z0, .inr (5, [.ref z1, .ref q_1, .int 0])), (q_1, .inl (g.2.1 4, 0, .inr (.inr (.inr (.inr (fun _ => none))))))], rfl, ⟨q_1, rfl⟩, by rw [ht]; exact hP9, va_K.moved hW.alike hK, hD9⟩, hS.F ht⟩) hS.2.2 dX4_init_17

set_option maxHeartbeats 4000000 in
set_option maxRecDepth 100000 in
theorem c_X4_clear (l : Launch) (hfl : l.stackTraces = false) (g : GP) (z0 : Nat) (z1 : Nat) (z2 : Nat)  : CV l yX4_clear (wG yX4_clear cX4_clear 1 (Option.none : Option Jvm.ClassFile.FieldType)) (LV 1 0 0) g [.ref z0] ([(z0, .inr (5, [.ref z1, .ref z2, .int 0]))]) (fun (u : va_W) => u = [(z0, .inr (5, [.ref z1, .ref z2, .int 0]))]) := by
  intro sz
  refine Met.ofW (cc := cX4_clear) (maxL := 1) (ret := (Option.none : Option Jvm.ClassFile.FieldType)) (by decide) rfl ?_
  intro p e s m args below meth c s₁ B hml hv
  obtain ⟨rfl, hsz, hP, hK, hD0, hT0⟩ := hv
  have hx := B.exec
  have hb := B.bytes
  have hr := B.returns
  have hts := atoms_spec (ws := (wG yX4_clear cX4_clear 1 (Option.none : Option Jvm.ClassFile.FieldType))) B.pre
  have htg : ∀ w ∈ G9, w.before _ s = true := fun w h => hts w (List.mem_cons_of_mem _ h)
  have hown : s.vm.findClass "HeroTable$Sources" = some m.cls := findClass_of_methodNamed B.named
  have hlocks := B.notSynchronized
  subst hsz
  have hD := hD0.self (sz := s.heap.size)
  have hT := hT0
  clear hT0
  generalize hAe : va_A [(z0, .inr (5, [.ref z1, .ref z2, .int 0]))] s.heap.size = A at hD hT ⊢
  have hA : ∀ q : Nat, s.heap.size ≤ q → A q := fun q h => by rw [← hAe]; exact Or.inr h
  obtain ⟨H, hH0⟩ : ∃ H, H = s.heap := ⟨_, rfl⟩
  have hS : va_S A s.heap H [] := by rw [hH0]; exact va_S.rf
  have hP : va_P g.1 CLS [(z0, .inr (5, [.ref z1, .ref z2, .int 0]))] H := by rw [hH0]; exact hP
  rw [← hH0]
  have hl := lv_entry ([.ref z0]) (n := 1) (Nat.le_of_ble_eq_true rfl)
  rw [lg_entry_eq]
  generalize (lg_sl ([.ref z0]) ++ List.replicate (1 - (lg_sl ([.ref z0])).length) Slot.unset).toArray = ls at hl ⊢
  have hl : lv_has ls 1 [(0, .ref z0)] := hl
  refine lv_aload_n hx hb dX4_clear_0 rfl (lv_at hl 0 rfl) ?_
  refine lv_iconst (v := 0) hx hb dX4_clear_1 (by decide) ?_
  refine va_put (D := g.1) (ci := 5) (v := .int 0) (ty := .int) (C := RX4) (T := TX4) (N := 3) hx hb htg inG_X4 tyX4 tyX4_ok nmX4 hown hK hP hD hS 0 rfl rfl 2 (by decide) (htg _ k118) (fun _ h9 => h9) rfl (by decide +kernel) rfl rfl (Nat.le_of_ble_eq_true rfl) dX4_clear_2 (fun H locs hP hD hS => ?_)
  have hP : va_P g.1 CLS [(z0, .inr (5, [.ref z1, .ref z2, .int 0]))] H := hP
  have hD : va_D A [(z0, .inr (5, [.ref z1, .ref z2, .int 0]))] := hD
  have hP9 := hP.sub (ws' := [(z0, .inr (5, [.ref z1, .ref z2, .int 0]))]) [0] rfl
  have hD9 := hD.sub (ws' := [(z0, .inr (5, [.ref z1, .ref z2, .int 0]))]) [0] (by decide) rfl
  refine W.widen (k := 0) (n := 0) (Nat.le_of_ble_eq_true rfl) (Nat.le_of_ble_eq_true rfl) ?_
  exact W.vret hx hb hr (fun t ht hW => ⟨⟨[(z0, .inr (5, [.ref z1, .ref z2, .int 0]))], rfl, rfl, by rw [ht]; exact hP9, va_K.moved hW.alike hK, hD9⟩, hS.F ht⟩) hS.2.2 dX4_clear_5

set_option maxHeartbeats 4000000 in
set_option maxRecDepth 100000 in
theorem c_X4_isSource (l : Launch) (hfl : l.stackTraces = false) (g : GP) (z0 : Nat) (z1 : Nat) (z2 : Nat) (n1 : Int32)  : CI l yX4_isSource (wG yX4_isSource cX4_isSource 2 (Option.some Jvm.ClassFile.FieldType.boolean)) (LV 1 0 0) g [.ref z0, .int n1] ([(z0, .inr (5, [.ref z1, .ref z2, .int 0]))]) (fun (r : Int32) (u : va_W) => r = 0 ∧ u = [(z0, .inr (5, [.ref z1, .ref z2, .int 0]))]) := by
  intro sz
  refine Met.ofW (cc := cX4_isSource) (maxL := 2) (ret := (Option.some Jvm.ClassFile.FieldType.boolean)) (by decide) rfl ?_
  intro p e s m args below meth c s₁ B hml hv
  obtain ⟨rfl, hsz, hP, hK, hD0, hT0⟩ := hv
  have hx := B.exec
  have hb := B.bytes
  have hr := B.returns
  have hts := atoms_spec (ws := (wG yX4_isSource cX4_isSource 2 (Option.some Jvm.ClassFile.FieldType.boolean))) B.pre
  have htg : ∀ w ∈ G9, w.before _ s = true := fun w h => hts w (List.mem_cons_of_mem _ h)
  have hown : s.vm.findClass "HeroTable$Sources" = some m.cls := findClass_of_methodNamed B.named
  have hlocks := B.notSynchronized
  subst hsz
  have hD := hD0.self (sz := s.heap.size)
  have hT := hT0
  clear hT0
  generalize hAe : va_A [(z0, .inr (5, [.ref z1, .ref z2, .int 0]))] s.heap.size = A at hD hT ⊢
  have hA : ∀ q : Nat, s.heap.size ≤ q → A q := fun q h => by rw [← hAe]; exact Or.inr h
  obtain ⟨H, hH0⟩ : ∃ H, H = s.heap := ⟨_, rfl⟩
  have hS : va_S A s.heap H [] := by rw [hH0]; exact va_S.rf
  have hP : va_P g.1 CLS [(z0, .inr (5, [.ref z1, .ref z2, .int 0]))] H := by rw [hH0]; exact hP
  rw [← hH0]
  have hl := lv_entry ([.ref z0, .int n1]) (n := 2) (Nat.le_of_ble_eq_true rfl)
  rw [lg_entry_eq]
  generalize (lg_sl ([.ref z0, .int n1]) ++ List.replicate (2 - (lg_sl ([.ref z0, .int n1])).length) Slot.unset).toArray = ls at hl ⊢
  have hl : lv_has ls 2 [(0, .ref z0), (1, .int n1)] := hl
  refine lv_iload_n hx hb dX4_isSource_0 rfl (lv_at hl 1 rfl) ?_
  refine lv_if_lt (tgt := 16) hx hb dX4_isSource_1 (by decide) (fun c_1 => ?_) (fun c_1 => ?_)
  · refine lv_iconst (v := 0) hx hb dX4_isSource_16 (by decide) ?_
    have hP9 := hP.sub (ws' := [(z0, .inr (5, [.ref z1, .ref z2, .int 0]))]) [0] rfl
    have hD9 := hD.sub (ws' := [(z0, .inr (5, [.ref z1, .ref z2, .int 0]))]) [0] (by decide) rfl
    refine W.widen (k := 0) (n := 0) (Nat.le_of_ble_eq_true rfl) (Nat.le_of_ble_eq_true rfl) ?_
    exact W.zret (v := 0) hx hb hr rfl (fun t ht hW => ⟨⟨0, [(z0, .inr (5, [.ref z1, .ref z2, .int 0]))], rfl, ⟨rfl, rfl⟩, by rw [ht]; exact hP9, va_K.moved hW.alike hK, hD9⟩, hS.F ht⟩) hS.2.2 dX4_isSource_17
  · refine lv_iload_n hx hb dX4_isSource_4 rfl (lv_at hl 1 rfl) ?_
    refine lv_aload_n hx hb dX4_isSource_5 rfl (lv_at hl 0 rfl) ?_
    refine va_get (D := g.1) (ci := 5) (v := .int 0) (C := RX4) (T := TX4) (N := 3) hx hb htg inG_X4 hown hK hP 0 rfl rfl 2 (by decide) (htg _ k118) (fun _ h9 => h9) rfl dX4_isSource_6 ?_
    refine lv_icmp_ge (tgt := 16) hx hb dX4_isSource_9 (by decide) (fun c_2 => ?_) (fun c_2 => absurd (by simp only [fa_lt, fa_le, fa_eq, li0, li1, li5, li7, li8, li9, li20, li30, li40, li50, li97, li99, li103, li109, li115, li120, li255, lin1, lin20] at c_1 ⊢; omega) c_2)
    refine lv_iconst (v := 0) hx hb dX4_isSource_16 (by decide) ?_
    have hP9 := hP.sub (ws' := [(z0, .inr (5, [.ref z1, .ref z2, .int 0]))]) [0] rfl
    have hD9 := hD.sub (ws' := [(z0, .inr (5, [.ref z1, .ref z2, .int 0]))]) [0] (by decide) rfl
    refine W.widen (k := 0) (n := 0) (Nat.le_of_ble_eq_true rfl) (Nat.le_of_ble_eq_true rfl) ?_
    exact W.zret (v := 0) hx hb hr rfl (fun t ht hW => ⟨⟨0, [(z0, .inr (5, [.ref z1, .ref z2, .int 0]))], rfl, ⟨rfl, rfl⟩, by rw [ht]; exact hP9, va_K.moved hW.alike hK, hD9⟩, hS.F ht⟩) hS.2.2 dX4_isSource_17

set_option maxHeartbeats 4000000 in
set_option maxRecDepth 100000 in
theorem c_X4_areMinded (l : Launch) (hfl : l.stackTraces = false) (g : GP) (z0 : Nat) (z1 : Nat) (z2 : Nat)  : CI l yX4_areMinded (wG yX4_areMinded cX4_areMinded 3 (Option.some Jvm.ClassFile.FieldType.boolean)) (LV 1 0 0) g [.ref z0] ([(z0, .inr (5, [.ref z1, .ref z2, .int 0]))]) (fun (r : Int32) (u : va_W) => r = 1 ∧ u = [(z0, .inr (5, [.ref z1, .ref z2, .int 0]))]) := by
  intro sz
  refine Met.ofW (cc := cX4_areMinded) (maxL := 3) (ret := (Option.some Jvm.ClassFile.FieldType.boolean)) (by decide) rfl ?_
  intro p e s m args below meth c s₁ B hml hv
  obtain ⟨rfl, hsz, hP, hK, hD0, hT0⟩ := hv
  have hx := B.exec
  have hb := B.bytes
  have hr := B.returns
  have hts := atoms_spec (ws := (wG yX4_areMinded cX4_areMinded 3 (Option.some Jvm.ClassFile.FieldType.boolean))) B.pre
  have htg : ∀ w ∈ G9, w.before _ s = true := fun w h => hts w (List.mem_cons_of_mem _ h)
  have hown : s.vm.findClass "HeroTable$Sources" = some m.cls := findClass_of_methodNamed B.named
  have hlocks := B.notSynchronized
  subst hsz
  have hD := hD0.self (sz := s.heap.size)
  have hT := hT0
  clear hT0
  generalize hAe : va_A [(z0, .inr (5, [.ref z1, .ref z2, .int 0]))] s.heap.size = A at hD hT ⊢
  have hA : ∀ q : Nat, s.heap.size ≤ q → A q := fun q h => by rw [← hAe]; exact Or.inr h
  obtain ⟨H, hH0⟩ : ∃ H, H = s.heap := ⟨_, rfl⟩
  have hS : va_S A s.heap H [] := by rw [hH0]; exact va_S.rf
  have hP : va_P g.1 CLS [(z0, .inr (5, [.ref z1, .ref z2, .int 0]))] H := by rw [hH0]; exact hP
  rw [← hH0]
  have hl := lv_entry ([.ref z0]) (n := 3) (Nat.le_of_ble_eq_true rfl)
  rw [lg_entry_eq]
  generalize (lg_sl ([.ref z0]) ++ List.replicate (3 - (lg_sl ([.ref z0])).length) Slot.unset).toArray = ls at hl ⊢
  have hl : lv_has ls 3 [(0, .ref z0)] := hl
  refine lv_iconst (v := 0) hx hb dX4_areMinded_0 (by decide) ?_
  refine lv_istore_n (lv' := [(1, .int 0), (0, .ref z0)]) hx hb dX4_areMinded_1 rfl hl (by decide) rfl (fun ls hl => ?_)
  refine lv_iload_n hx hb dX4_areMinded_2 rfl (lv_at hl 0 rfl) ?_
  refine lv_aload_n hx hb dX4_areMinded_3 rfl (lv_at hl 1 rfl) ?_
  refine va_get (D := g.1) (ci := 5) (v := .int 0) (C := RX4) (T := TX4) (N := 3) hx hb htg inG_X4 hown hK hP 0 rfl rfl 2 (by decide) (htg _ k118) (fun _ h9 => h9) rfl dX4_areMinded_4 ?_
  refine lv_icmp_ge (tgt := 55) hx hb dX4_areMinded_7 (by decide) (fun c_1 => ?_) (fun c_1 => absurd (by decide) c_1)
  refine lv_iconst (v := 1) hx hb dX4_areMinded_55 (by decide) ?_
  have hP9 := hP.sub (ws' := [(z0, .inr (5, [.ref z1, .ref z2, .int 0]))]) [0] rfl
  have hD9 := hD.sub (ws' := [(z0, .inr (5, [.ref z1, .ref z2, .int 0]))]) [0] (by decide) rfl
  refine W.widen (k := 0) (n := 0) (Nat.le_of_ble_eq_true rfl) (Nat.le_of_ble_eq_true rfl) ?_
  exact W.zret (v := 1) hx hb hr rfl (fun t ht hW => ⟨⟨1, [(z0, .inr (5, [.ref z1, .ref z2, .int 0]))], rfl, ⟨rfl, rfl⟩, by rw [ht]; exact hP9, va_K.moved hW.alike hK, hD9⟩, hS.F ht⟩) hS.2.2 dX4_areMinded_56

set_option maxHeartbeats 4000000 in
set_option maxRecDepth 100000 in
theorem c_X6_init (l : Launch) (hfl : l.stackTraces = false) (g : GP) (z0 : Nat)  : CV l yX6_init (wG yX6_init cX6_init 1 (Option.none : Option Jvm.ClassFile.FieldType)) (LV 2 1 128) g [.ref z0] ([(z0, .inr (7, [.null, .int 0]))]) (fun (u : va_W) => ∃ (q1 : Nat), u = [(z0, .inr (7, [.ref q1, .int 0])), (q1, .inl (g.2.1 1, 128, .inl (fun _ => 0)))]) := by
  intro sz
  refine Met.ofW (cc := cX6_init) (maxL := 1) (ret := (Option.none : Option Jvm.ClassFile.FieldType)) (by decide) rfl ?_
  intro p e s m args below meth c s₁ B hml hv
  obtain ⟨rfl, hsz, hP, hK, hD0, hT0⟩ := hv
  have hx := B.exec
  have hb := B.bytes
  have hr := B.returns
  have hts := atoms_spec (ws := (wG yX6_init cX6_init 1 (Option.none : Option Jvm.ClassFile.FieldType))) B.pre
  have htg : ∀ w ∈ G9, w.before _ s = true := fun w h => hts w (List.mem_cons_of_mem _ h)
  have hown : s.vm.findClass "HeroTable$Transcript" = some m.cls := findClass_of_methodNamed B.named
  have hlocks := B.notSynchronized
  have hin : meth.name = "<init>" := (name_of_methodNamed B.named B.method).1
  subst hsz
  have hD := hD0.self (sz := s.heap.size)
  have hT := hT0
  clear hT0
  generalize hAe : va_A [(z0, .inr (7, [.null, .int 0]))] s.heap.size = A at hD hT ⊢
  have hA : ∀ q : Nat, s.heap.size ≤ q → A q := fun q h => by rw [← hAe]; exact Or.inr h
  obtain ⟨H, hH0⟩ : ∃ H, H = s.heap := ⟨_, rfl⟩
  have hS : va_S A s.heap H [] := by rw [hH0]; exact va_S.rf
  have hP : va_P g.1 CLS [(z0, .inr (7, [.null, .int 0]))] H := by rw [hH0]; exact hP
  rw [← hH0]
  have hl := lv_entry ([.ref z0]) (n := 1) (Nat.le_of_ble_eq_true rfl)
  rw [lg_entry_eq]
  generalize (lg_sl ([.ref z0]) ++ List.replicate (1 - (lg_sl ([.ref z0])).length) Slot.unset).toArray = ls at hl ⊢
  have hl : lv_has ls 1 [(0, .ref z0)] := hl
  refine lv_aload_n hx hb dX6_init_0 rfl (lv_at hl 0 rfl) ?_
  refine W.objInit hx hb hown (htg _ k301) (htg _ k98) (htg _ k99) rfl (by rw [hml]; exact hl.1) rfl dX6_init_1 (Nat.le_of_ble_eq_true rfl) (Nat.le_of_ble_eq_true rfl) ?_
  refine W.eq (g2 := F0 m 4 ls []) rfl ?_
  refine lv_aload_n hx hb dX6_init_4 rfl (lv_at hl 0 rfl) ?_
  refine lv_sipush (v := 128) hx hb dX6_init_5 (by decide) ?_
  refine va_newa (atype := .int) (ty := .int) (a0 := (128, .inl (fun _ => 0))) (N' := 128) hx hb (htg _ k156) rfl hK hP hD hS hA (fun _ => rfl) (by decide) (by decide) (by decide) (Nat.le_of_ble_eq_true rfl) (Nat.le_of_ble_eq_true rfl) dX6_init_8 (fun q_1 cA H hK9 hP hD hS => ?_)
  obtain rfl := q_arr hK9 (t0 := 1) rfl (by decide)
  clear hK9
  have hP : va_P g.1 CLS [(z0, .inr (7, [.null, .int 0])), (q_1, .inl (g.2.1 1, 128, .inl (fun _ => 0)))] H := hP
  have hD : va_D A [(z0, .inr (7, [.null, .int 0])), (q_1, .inl (g.2.1 1, 128, .inl (fun _ => 0)))] := hD
  refine W.widen (k := 1) (n := 128) (Nat.le_of_ble_eq_true rfl) (Nat.le_of_ble_eq_true rfl) ?_
  refine va_put (D := g.1) (ci := 7) (v := .ref q_1) (ty := (.array .int)) (C := RX6) (T := TX6) (N := 2) hx hb htg inG_X6 tyX6 tyX6_ok nmX6 hown hK hP hD hS 0 rfl rfl 0 (by decide) (htg _ k302) (fun _ h9 => h9) rfl (by decide +kernel) rfl rfl (Nat.le_of_ble_eq_true rfl) dX6_init_10 (fun H locs hP hD hS => ?_)
  have hP : va_P g.1 CLS [(z0, .inr (7, [.ref q_1, .int 0])), (q_1, .inl (g.2.1 1, 128, .inl (fun _ => 0)))] H := hP
  have hD : va_D A [(z0, .inr (7, [.ref q_1, .int 0])), (q_1, .inl (g.2.1 1, 128, .inl (fun _ => 0)))] := hD
  have hP9 := hP.sub (ws' := [(z0, .inr (7, [.ref q_1, .int 0])), (q_1, .inl (g.2.1 1, 128, .inl (fun _ => 0)))]) [0, 1] rfl
  have hD9 := hD.sub (ws' := [(z0, .inr (7, [.ref q_1, .int 0])), (q_1, .inl (g.2.1 1, 128, .inl (fun _ => 0)))]) [0, 1] (by decide) rfl
  refine W.widen (k := 1) (n := 128) (Nat.le_of_ble_eq_true rfl) (Nat.le_of_ble_eq_true rfl) ?_
  exact W.vret hx hb hr (fun t ht hW => ⟨⟨[(z0, .inr (7, [.ref q_1, .int 0])), (q_1, .inl (g.2.1 1, 128, .inl (fun _ => 0)))], rfl, ⟨q_1, rfl⟩, by rw [ht]; exact hP9, va_K.moved hW.alike hK, hD9⟩, hS.F ht⟩) hS.2.2 dX6_init_13

set_option maxHeartbeats 4000000 in
set_option maxRecDepth 100000 in
theorem c_X6_keep (l : Launch) (hfl : l.stackTraces = false) (g : GP) (z0 : Nat) (z1 : Nat) (f1 : Nat → Int32) (n0 : Int32) (n1 : Int32) (n2 : Int32) (n3 : Int32) (n4 : Int32) (n5 : Int32) (n6 : Int32)  : CV l yX6_keep (wG yX6_keep cX6_keep 9 (Option.none : Option Jvm.ClassFile.FieldType)) (LV 2 0 0) g [.ref z0, .int n0, .int n1, .int n2, .int n3, .int n4, .int n5, .int n6] ([(z0, .inr (7, [.ref z1, .int 0])), (z1, .inl (g.2.1 1, 128, .inl f1))]) (fun (u : va_W) => ∃ (f2 : Nat → Int32), u = [(z0, .inr (7, [.ref z1, .int 1])), (z1, .inl (g.2.1 1, 128, .inl f2))]) := by
  intro sz
  refine Met.ofW (cc := cX6_keep) (maxL := 9) (ret := (Option.none : Option Jvm.ClassFile.FieldType)) (by decide) rfl ?_
  intro p e s m args below meth c s₁ B hml hv
  obtain ⟨rfl, hsz, hP, hK, hD0, hT0⟩ := hv
  have hx := B.exec
  have hb := B.bytes
  have hr := B.returns
  have hts := atoms_spec (ws := (wG yX6_keep cX6_keep 9 (Option.none : Option Jvm.ClassFile.FieldType))) B.pre
  have htg : ∀ w ∈ G9, w.before _ s = true := fun w h => hts w (List.mem_cons_of_mem _ h)
  have hown : s.vm.findClass "HeroTable$Transcript" = some m.cls := findClass_of_methodNamed B.named
  have hlocks := B.notSynchronized
  subst hsz
  have hD := hD0.self (sz := s.heap.size)
  have hT := hT0
  clear hT0
  generalize hAe : va_A [(z0, .inr (7, [.ref z1, .int 0])), (z1, .inl (g.2.1 1, 128, .inl f1))] s.heap.size = A at hD hT ⊢
  have hA : ∀ q : Nat, s.heap.size ≤ q → A q := fun q h => by rw [← hAe]; exact Or.inr h
  obtain ⟨H, hH0⟩ : ∃ H, H = s.heap := ⟨_, rfl⟩
  have hS : va_S A s.heap H [] := by rw [hH0]; exact va_S.rf
  have hP : va_P g.1 CLS [(z0, .inr (7, [.ref z1, .int 0])), (z1, .inl (g.2.1 1, 128, .inl f1))] H := by rw [hH0]; exact hP
  rw [← hH0]
  have hl := lv_entry ([.ref z0, .int n0, .int n1, .int n2, .int n3, .int n4, .int n5, .int n6]) (n := 9) (Nat.le_of_ble_eq_true rfl)
  rw [lg_entry_eq]
  generalize (lg_sl ([.ref z0, .int n0, .int n1, .int n2, .int n3, .int n4, .int n5, .int n6]) ++ List.replicate (9 - (lg_sl ([.ref z0, .int n0, .int n1, .int n2, .int n3, .int n4, .int n5, .int n6])).length) Slot.unset).toArray = ls at hl ⊢
  have hl : lv_has ls 9 [(0, .ref z0), (1, .int n0), (2, .int n1), (3, .int n2), (4, .int n3), (5, .int n4), (6, .int n5), (7, .int n6)] := hl
  refine lv_aload_n hx hb dX6_keep_0 rfl (lv_at hl 0 rfl) ?_
  refine va_get (D := g.1) (ci := 7) (v := .int 0) (C := RX6) (T := TX6) (N := 2) hx hb htg inG_X6 hown hK hP 0 rfl rfl 1 (by decide) (htg _ k303) (fun _ h9 => h9) rfl dX6_keep_1 ?_
  refine lv_sipush (v := 512) hx hb dX6_keep_4 (by decide) ?_
  refine lv_icmp_lt (tgt := 11) hx hb dX6_keep_7 (by decide) (fun c_1 => ?_) (fun c_1 => absurd (by decide) c_1)
  refine lv_aload_n hx hb dX6_keep_11 rfl (lv_at hl 0 rfl) ?_
  refine va_get (D := g.1) (ci := 7) (v := .int 0) (C := RX6) (T := TX6) (N := 2) hx hb htg inG_X6 hown hK hP 0 rfl rfl 1 (by decide) (htg _ k303) (fun _ h9 => h9) rfl dX6_keep_12 ?_
  refine lv_bipush (v := 8) hx hb dX6_keep_15 (by decide) ?_
  refine lv_imul hx hb dX6_keep_17 ?_
  refine lv_topi (fun x_2 ex_2 => ?_)
  obtain rfl : x_2 = 0 := ex_2.trans (by decide)
  refine lv_istore (lv' := [(8, .int 0), (0, .ref z0), (1, .int n0), (2, .int n1), (3, .int n2), (4, .int n3), (5, .int n4), (6, .int n5), (7, .int n6)]) hx hb dX6_keep_18 hl (by decide) rfl (fun ls hl => ?_)
  refine lv_iload hx hb dX6_keep_20 (lv_at hl 0 rfl) ?_
  refine lv_bipush (v := 8) hx hb dX6_keep_22 (by decide) ?_
  refine lv_iadd hx hb dX6_keep_24 ?_
  refine lv_topi (fun x_3 ex_3 => ?_)
  obtain rfl : x_3 = 8 := ex_3.trans (by decide)
  refine lv_aload_n hx hb dX6_keep_25 rfl (lv_at hl 1 rfl) ?_
  refine va_get (D := g.1) (ci := 7) (v := .ref z1) (C := RX6) (T := TX6) (N := 2) hx hb htg inG_X6 hown hK hP 0 rfl rfl 0 (by decide) (htg _ k302) (fun _ h9 => h9) rfl dX6_keep_26 ?_
  refine va_alen (v := 128) hx hb hK hP 1 1 rfl rfl rfl dX6_keep_29 ?_
  refine lv_icmp_le (tgt := 51) hx hb dX6_keep_30 (by decide) (fun c_4 => ?_) (fun c_4 => absurd (by decide) c_4)
  refine lv_aload_n hx hb dX6_keep_51 rfl (lv_at hl 1 rfl) ?_
  refine va_get (D := g.1) (ci := 7) (v := .ref z1) (C := RX6) (T := TX6) (N := 2) hx hb htg inG_X6 hown hK hP 0 rfl rfl 0 (by decide) (htg _ k302) (fun _ h9 => h9) rfl dX6_keep_52 ?_
  refine lv_iload hx hb dX6_keep_55 (lv_at hl 0 rfl) ?_
  refine lv_iload_n hx hb dX6_keep_57 rfl (lv_at hl 2 rfl) ?_
  refine va_iast hx hb hK hP hD hS 1 1 rfl rfl (i := 0) (vp_in_iff.mpr (by decide)) dX6_keep_58 (fun H locs hP hD hS => ?_)
  have hP : va_P g.1 CLS [(z0, .inr (7, [.ref z1, .int 0])), (z1, .inl (g.2.1 1, 128, .inl (upd f1 0 n0)))] H := hP
  have hD : va_D A [(z0, .inr (7, [.ref z1, .int 0])), (z1, .inl (g.2.1 1, 128, .inl (upd f1 0 n0)))] := hD
  refine lv_aload_n hx hb dX6_keep_59 rfl (lv_at hl 1 rfl) ?_
  refine va_get (D := g.1) (ci := 7) (v := .ref z1) (C := RX6) (T := TX6) (N := 2) hx hb htg inG_X6 hown hK hP 0 rfl rfl 0 (by decide) (htg _ k302) (fun _ h9 => h9) rfl dX6_keep_60 ?_
  refine lv_iload hx hb dX6_keep_63 (lv_at hl 0 rfl) ?_
  refine lv_iconst (v := 1) hx hb dX6_keep_65 (by decide) ?_
  refine lv_iadd hx hb dX6_keep_66 ?_
  refine lv_topi (fun x_5 ex_5 => ?_)
  obtain rfl : x_5 = 1 := ex_5.trans (by decide)
  refine lv_iload_n hx hb dX6_keep_67 rfl (lv_at hl 3 rfl) ?_
  refine va_iast hx hb hK hP hD hS 1 1 rfl rfl (i := 1) (vp_in_iff.mpr (by decide)) dX6_keep_68 (fun H locs hP hD hS => ?_)
  have hP : va_P g.1 CLS [(z0, .inr (7, [.ref z1, .int 0])), (z1, .inl (g.2.1 1, 128, .inl (upd (upd f1 0 n0) 1 n1)))] H := hP
  have hD : va_D A [(z0, .inr (7, [.ref z1, .int 0])), (z1, .inl (g.2.1 1, 128, .inl (upd (upd f1 0 n0) 1 n1)))] := hD
  refine lv_aload_n hx hb dX6_keep_69 rfl (lv_at hl 1 rfl) ?_
  refine va_get (D := g.1) (ci := 7) (v := .ref z1) (C := RX6) (T := TX6) (N := 2) hx hb htg inG_X6 hown hK hP 0 rfl rfl 0 (by decide) (htg _ k302) (fun _ h9 => h9) rfl dX6_keep_70 ?_
  refine lv_iload hx hb dX6_keep_73 (lv_at hl 0 rfl) ?_
  refine lv_iconst (v := 2) hx hb dX6_keep_75 (by decide) ?_
  refine lv_iadd hx hb dX6_keep_76 ?_
  refine lv_topi (fun x_6 ex_6 => ?_)
  obtain rfl : x_6 = 2 := ex_6.trans (by decide)
  refine lv_iload_n hx hb dX6_keep_77 rfl (lv_at hl 4 rfl) ?_
  refine va_iast hx hb hK hP hD hS 1 1 rfl rfl (i := 2) (vp_in_iff.mpr (by decide)) dX6_keep_78 (fun H locs hP hD hS => ?_)
  have hP : va_P g.1 CLS [(z0, .inr (7, [.ref z1, .int 0])), (z1, .inl (g.2.1 1, 128, .inl (upd (upd (upd f1 0 n0) 1 n1) 2 n2)))] H := hP
  have hD : va_D A [(z0, .inr (7, [.ref z1, .int 0])), (z1, .inl (g.2.1 1, 128, .inl (upd (upd (upd f1 0 n0) 1 n1) 2 n2)))] := hD
  refine lv_aload_n hx hb dX6_keep_79 rfl (lv_at hl 1 rfl) ?_
  refine va_get (D := g.1) (ci := 7) (v := .ref z1) (C := RX6) (T := TX6) (N := 2) hx hb htg inG_X6 hown hK hP 0 rfl rfl 0 (by decide) (htg _ k302) (fun _ h9 => h9) rfl dX6_keep_80 ?_
  refine lv_iload hx hb dX6_keep_83 (lv_at hl 0 rfl) ?_
  refine lv_iconst (v := 3) hx hb dX6_keep_85 (by decide) ?_
  refine lv_iadd hx hb dX6_keep_86 ?_
  refine lv_topi (fun x_7 ex_7 => ?_)
  obtain rfl : x_7 = 3 := ex_7.trans (by decide)
  refine lv_iload hx hb dX6_keep_87 (lv_at hl 5 rfl) ?_
  refine va_iast hx hb hK hP hD hS 1 1 rfl rfl (i := 3) (vp_in_iff.mpr (by decide)) dX6_keep_89 (fun H locs hP hD hS => ?_)
  have hP : va_P g.1 CLS [(z0, .inr (7, [.ref z1, .int 0])), (z1, .inl (g.2.1 1, 128, .inl (upd (upd (upd (upd f1 0 n0) 1 n1) 2 n2) 3 n3)))] H := hP
  have hD : va_D A [(z0, .inr (7, [.ref z1, .int 0])), (z1, .inl (g.2.1 1, 128, .inl (upd (upd (upd (upd f1 0 n0) 1 n1) 2 n2) 3 n3)))] := hD
  refine lv_aload_n hx hb dX6_keep_90 rfl (lv_at hl 1 rfl) ?_
  refine va_get (D := g.1) (ci := 7) (v := .ref z1) (C := RX6) (T := TX6) (N := 2) hx hb htg inG_X6 hown hK hP 0 rfl rfl 0 (by decide) (htg _ k302) (fun _ h9 => h9) rfl dX6_keep_91 ?_
  refine lv_iload hx hb dX6_keep_94 (lv_at hl 0 rfl) ?_
  refine lv_iconst (v := 4) hx hb dX6_keep_96 (by decide) ?_
  refine lv_iadd hx hb dX6_keep_97 ?_
  refine lv_topi (fun x_8 ex_8 => ?_)
  obtain rfl : x_8 = 4 := ex_8.trans (by decide)
  refine lv_iload hx hb dX6_keep_98 (lv_at hl 6 rfl) ?_
  refine va_iast hx hb hK hP hD hS 1 1 rfl rfl (i := 4) (vp_in_iff.mpr (by decide)) dX6_keep_100 (fun H locs hP hD hS => ?_)
  have hP : va_P g.1 CLS [(z0, .inr (7, [.ref z1, .int 0])), (z1, .inl (g.2.1 1, 128, .inl (upd (upd (upd (upd (upd f1 0 n0) 1 n1) 2 n2) 3 n3) 4 n4)))] H := hP
  have hD : va_D A [(z0, .inr (7, [.ref z1, .int 0])), (z1, .inl (g.2.1 1, 128, .inl (upd (upd (upd (upd (upd f1 0 n0) 1 n1) 2 n2) 3 n3) 4 n4)))] := hD
  refine lv_aload_n hx hb dX6_keep_101 rfl (lv_at hl 1 rfl) ?_
  refine va_get (D := g.1) (ci := 7) (v := .ref z1) (C := RX6) (T := TX6) (N := 2) hx hb htg inG_X6 hown hK hP 0 rfl rfl 0 (by decide) (htg _ k302) (fun _ h9 => h9) rfl dX6_keep_102 ?_
  refine lv_iload hx hb dX6_keep_105 (lv_at hl 0 rfl) ?_
  refine lv_iconst (v := 5) hx hb dX6_keep_107 (by decide) ?_
  refine lv_iadd hx hb dX6_keep_108 ?_
  refine lv_topi (fun x_9 ex_9 => ?_)
  obtain rfl : x_9 = 5 := ex_9.trans (by decide)
  refine lv_iload hx hb dX6_keep_109 (lv_at hl 7 rfl) ?_
  refine va_iast hx hb hK hP hD hS 1 1 rfl rfl (i := 5) (vp_in_iff.mpr (by decide)) dX6_keep_111 (fun H locs hP hD hS => ?_)
  have hP : va_P g.1 CLS [(z0, .inr (7, [.ref z1, .int 0])), (z1, .inl (g.2.1 1, 128, .inl (upd (upd (upd (upd (upd (upd f1 0 n0) 1 n1) 2 n2) 3 n3) 4 n4) 5 n5)))] H := hP
  have hD : va_D A [(z0, .inr (7, [.ref z1, .int 0])), (z1, .inl (g.2.1 1, 128, .inl (upd (upd (upd (upd (upd (upd f1 0 n0) 1 n1) 2 n2) 3 n3) 4 n4) 5 n5)))] := hD
  refine lv_aload_n hx hb dX6_keep_112 rfl (lv_at hl 1 rfl) ?_
  refine va_get (D := g.1) (ci := 7) (v := .ref z1) (C := RX6) (T := TX6) (N := 2) hx hb htg inG_X6 hown hK hP 0 rfl rfl 0 (by decide) (htg _ k302) (fun _ h9 => h9) rfl dX6_keep_113 ?_
  refine lv_iload hx hb dX6_keep_116 (lv_at hl 0 rfl) ?_
  refine lv_bipush (v := 6) hx hb dX6_keep_118 (by decide) ?_
  refine lv_iadd hx hb dX6_keep_120 ?_
  refine lv_topi (fun x_10 ex_10 => ?_)
  obtain rfl : x_10 = 6 := ex_10.trans (by decide)
  refine lv_iload hx hb dX6_keep_121 (lv_at hl 8 rfl) ?_
  refine va_iast hx hb hK hP hD hS 1 1 rfl rfl (i := 6) (vp_in_iff.mpr (by decide)) dX6_keep_123 (fun H locs hP hD hS => ?_)
  have hP : va_P g.1 CLS [(z0, .inr (7, [.ref z1, .int 0])), (z1, .inl (g.2.1 1, 128, .inl (upd (upd (upd (upd (upd (upd (upd f1 0 n0) 1 n1) 2 n2) 3 n3) 4 n4) 5 n5) 6 n6)))] H := hP
  have hD : va_D A [(z0, .inr (7, [.ref z1, .int 0])), (z1, .inl (g.2.1 1, 128, .inl (upd (upd (upd (upd (upd (upd (upd f1 0 n0) 1 n1) 2 n2) 3 n3) 4 n4) 5 n5) 6 n6)))] := hD
  refine lv_aload_n hx hb dX6_keep_124 rfl (lv_at hl 1 rfl) ?_
  refine lv_dup hx hb dX6_keep_125 rfl ?_
  refine va_get (D := g.1) (ci := 7) (v := .int 0) (C := RX6) (T := TX6) (N := 2) hx hb htg inG_X6 hown hK hP 0 rfl rfl 1 (by decide) (htg _ k303) (fun _ h9 => h9) rfl dX6_keep_126 ?_
  refine lv_iconst (v := 1) hx hb dX6_keep_129 (by decide) ?_
  refine lv_iadd hx hb dX6_keep_130 ?_
  refine lv_topi (fun x_11 ex_11 => ?_)
  obtain rfl : x_11 = 1 := ex_11.trans (by decide)
  refine va_put (D := g.1) (ci := 7) (v := .int 1) (ty := .int) (C := RX6) (T := TX6) (N := 2) hx hb htg inG_X6 tyX6 tyX6_ok nmX6 hown hK hP hD hS 0 rfl rfl 1 (by decide) (htg _ k303) (fun _ h9 => h9) rfl (by decide +kernel) rfl rfl (Nat.le_of_ble_eq_true rfl) dX6_keep_131 (fun H locs hP hD hS => ?_)
  have hP : va_P g.1 CLS [(z0, .inr (7, [.ref z1, .int 1])), (z1, .inl (g.2.1 1, 128, .inl (upd (upd (upd (upd (upd (upd (upd f1 0 n0) 1 n1) 2 n2) 3 n3) 4 n4) 5 n5) 6 n6)))] H := hP
  have hD : va_D A [(z0, .inr (7, [.ref z1, .int 1])), (z1, .inl (g.2.1 1, 128, .inl (upd (upd (upd (upd (upd (upd (upd f1 0 n0) 1 n1) 2 n2) 3 n3) 4 n4) 5 n5) 6 n6)))] := hD
  have hP9 := hP.sub (ws' := [(z0, .inr (7, [.ref z1, .int 1])), (z1, .inl (g.2.1 1, 128, .inl (upd (upd (upd (upd (upd (upd (upd f1 0 n0) 1 n1) 2 n2) 3 n3) 4 n4) 5 n5) 6 n6)))]) [0, 1] rfl
  have hD9 := hD.sub (ws' := [(z0, .inr (7, [.ref z1, .int 1])), (z1, .inl (g.2.1 1, 128, .inl (upd (upd (upd (upd (upd (upd (upd f1 0 n0) 1 n1) 2 n2) 3 n3) 4 n4) 5 n5) 6 n6)))]) [0, 1] (by decide) rfl
  refine W.widen (k := 0) (n := 0) (Nat.le_of_ble_eq_true rfl) (Nat.le_of_ble_eq_true rfl) ?_
  exact W.vret hx hb hr (fun t ht hW => ⟨⟨[(z0, .inr (7, [.ref z1, .int 1])), (z1, .inl (g.2.1 1, 128, .inl (upd (upd (upd (upd (upd (upd (upd f1 0 n0) 1 n1) 2 n2) 3 n3) 4 n4) 5 n5) 6 n6)))], rfl, ⟨(upd (upd (upd (upd (upd (upd (upd f1 0 n0) 1 n1) 2 n2) 3 n3) 4 n4) 5 n5) 6 n6), rfl⟩, by rw [ht]; exact hP9, va_K.moved hW.alike hK, hD9⟩, hS.F ht⟩) hS.2.2 dX6_keep_134
