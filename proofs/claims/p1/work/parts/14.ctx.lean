theorem q_beq {args : Array Value} {s : State} {a : Term} {n : Int32} (h : (Cond.eq a (.int n)).before args s = true) : a.eval args s none [] s = some (.int n) := Cond.eq_int h rfl
theorem q_arrT {args : Array Value} {s : State} {ty : FieldType} (h : (Cond.arrayClass ty).before args s = true) : ∃ c : ClassId, ArrOfT s c ty ∧ s.vm.findClass ("[" ++ ty.toString) = some c := by
  obtain ⟨c, k, comp, h1, h2, h3⟩ := Cond.arrayClass_spec h
  exact ⟨c, fun n z => ⟨fun k h => (by cases h), k, h2, comp, h3⟩, h1⟩
theorem q_arrO {args : Array Value} {s : State} {C : String} (h : (Cond.arrayOver (.object C)).before args s = true) : ∃ c : ClassId, ArrOfT s c (.object C) ∧ va_RA s c (.object C) := by
  obtain ⟨comp, c, k, h1, h2, h3, h4, h5⟩ := Cond.arrayOver_spec h
  exact ⟨c, fun n z => ⟨fun k h => (by cases h), k, h3, comp, h4⟩, k, comp, h3, h4, h1, h5⟩
theorem q_str {args : Array Value} {s : State} {own : String} {k : Nat} (h : (Cond.exactly (.string own k) "java/lang/String").before args s = true) : ∃ a : Nat, (Term.string own k).eval args s none [] s = some (.ref a) := by
  obtain ⟨a, -, -, -, ha, -⟩ := Cond.exactly_spec h
  exact ⟨a, ha⟩
theorem k93 : (Jvm.Cond.instantiable "HeroTable" (3 : Nat)) ∈ G9 := g9 93 (by decide +kernel) rfl
theorem k1288 : (Jvm.Cond.instantiable "HeroTableModel" (14 : Nat)) ∈ G9 := g9 1288 (by decide +kernel) rfl
set_option maxHeartbeats 4000000 in
set_option maxRecDepth 100000 in
theorem lw_ctx {s : State} {b : Nat} (hts : ∀ w ∈ lw_tbl, w.before #[Value.ref b] s = true) (hgv : (Jvm.Cond.and given_1 narrow_1).before #[Value.ref b] s = true) : ∃ g : GP, va_K g.1 CLS (TYS g.2.1) s ∧ SF g (fun q => s.heap.size ≤ q) s s.heap := by
  have htg : ∀ w ∈ G9, w.before #[Value.ref b] s = true := fun w h => hts w (g9_in h)
  have hg := flat_of_before _ hgv
  have hA : ∀ a : Nat, a < s.heap.size → ¬ (fun q => s.heap.size ≤ q) a := fun a h => Nat.not_le.mpr h
  obtain ⟨c0, i0, K0⟩ := u_known (C := RJx35411) (T := TJx35411) (N := 4) htg inG_Jx35411 (htg _ k1428)
  obtain ⟨c1, i1, K1⟩ := u_known (C := RJx4a65c) (T := TJx4a65c) (N := 3) htg inG_Jx4a65c (htg _ k1294)
  obtain ⟨c2, i2, K2⟩ := u_known (C := RX0) (T := TX0) (N := 3) htg inG_X0 (htg _ k140)
  obtain ⟨c3, i3, K3⟩ := u_known (C := RX1) (T := TX1) (N := 1) htg inG_X1 (htg _ k129)
  obtain ⟨c4, i4, K4⟩ := u_known (C := RX2) (T := TX2) (N := 17) htg inG_X2 (htg _ k157)
  obtain ⟨c5, i5, K5⟩ := u_known (C := RX4) (T := TX4) (N := 3) htg inG_X4 (htg _ k109)
  obtain ⟨c6, i6, K6⟩ := u_known (C := RX5) (T := TX5) (N := 13) htg inG_X5 (htg _ k101)
  obtain ⟨c7, i7, K7⟩ := u_known (C := RX6) (T := TX6) (N := 2) htg inG_X6 (htg _ k297)
  obtain ⟨c8, i8, K8⟩ := u_known (C := RX7) (T := TX7) (N := 3) htg inG_X7 (htg _ k93)
  obtain ⟨c9, i9, K9⟩ := u_known (C := RX8) (T := TX8) (N := 2) htg inG_X8 (htg _ k1486)
  obtain ⟨c10, i10, K10⟩ := u_known (C := RX9) (T := TX9) (N := 14) htg inG_X9 (htg _ k1568)
  obtain ⟨c11, i11, K11⟩ := u_known (C := RX11) (T := TX11) (N := 14) htg inG_X11 (htg _ k1288)
  obtain ⟨c12, i12, K12⟩ := u_known (C := RX12) (T := TX12) (N := 3) htg inG_X12 (htg _ k1323)
  obtain ⟨d0, D0, E0⟩ := q_arrT (ty := .char) (hts _ (List.mem_of_getElem? (l := lw_tbl) (i := 138) (a := Jvm.Cond.arrayClass Jvm.ClassFile.FieldType.char) (by decide +kernel)))
  obtain ⟨d1, D1, E1⟩ := q_arrT (ty := .int) (hts _ (List.mem_of_getElem? (l := lw_tbl) (i := 156) (a := Jvm.Cond.arrayClass Jvm.ClassFile.FieldType.int) (by decide +kernel)))
  obtain ⟨d2, D2, E2⟩ := q_arrT (ty := .boolean) (hts _ (List.mem_of_getElem? (l := lw_tbl) (i := 242) (a := Jvm.Cond.arrayClass Jvm.ClassFile.FieldType.boolean) (by decide +kernel)))
  obtain ⟨d3, D3, E3⟩ := q_arrO (C := "HeroTable$Hero") (hts _ (List.mem_of_getElem? (l := lw_tbl) (i := 107) (a := Jvm.Cond.arrayOver (Jvm.ClassFile.FieldType.object "HeroTable$Hero")) (by decide +kernel)))
  obtain ⟨d4, D4, E4⟩ := q_arrO (C := "HeroTable$Source") (hts _ (List.mem_of_getElem? (l := lw_tbl) (i := 115) (a := Jvm.Cond.arrayOver (Jvm.ClassFile.FieldType.object "HeroTable$Source")) (by decide +kernel)))
  obtain ⟨d5, D5, E5⟩ := q_arrO (C := "java/lang/Object") (hts _ (List.mem_of_getElem? (l := lw_tbl) (i := 1329) (a := Jvm.Cond.arrayOver (Jvm.ClassFile.FieldType.object "java/lang/Object")) (by decide +kernel)))
  obtain ⟨d6, D6, E6⟩ := q_arrT (ty := .long) (hts _ (List.mem_of_getElem? (l := lw_tbl) (i := 2288) (a := Jvm.Cond.arrayClass Jvm.ClassFile.FieldType.long) (by decide +kernel)))
  obtain ⟨d7, D7, E7⟩ := q_arrT (ty := .double) (hts _ (List.mem_of_getElem? (l := lw_tbl) (i := 2289) (a := Jvm.Cond.arrayClass Jvm.ClassFile.FieldType.double) (by decide +kernel)))
  obtain ⟨a0, e0, T0⟩ := va_Tof (tm := (.static "HeroTable" "FIRST_BASES" "[I")) (ty := .int) (N := 5) (f := fun j => .int (([12, 4, 5, 4, 2] : List Int32).getD j 0)) (by decide) (hg _ (List.mem_of_getElem? (i := 5) (by decide +kernel))) (q_beq (hg _ (List.mem_of_getElem? (i := 6) (by decide +kernel)))) (fun j hj => match j, hj with
    | 0, _ => q_beq (hg _ (List.mem_of_getElem? (i := 7) (by decide +kernel)))
    | 1, _ => q_beq (hg _ (List.mem_of_getElem? (i := 8) (by decide +kernel)))
    | 2, _ => q_beq (hg _ (List.mem_of_getElem? (i := 9) (by decide +kernel)))
    | 3, _ => q_beq (hg _ (List.mem_of_getElem? (i := 10) (by decide +kernel)))
    | 4, _ => q_beq (hg _ (List.mem_of_getElem? (i := 11) (by decide +kernel)))
    | n + 5, h => absurd h (by omega)) hA
  obtain ⟨a1, e1, T1⟩ := va_Tof (tm := (.static "java/util/ArrayList" "DEFAULTCAPACITY_EMPTY_ELEMENTDATA" "[Ljava/lang/Object;")) (ty := .object "java/lang/Object") (N := 0) (f := fun _ => .null) (by decide) (hg _ (List.mem_of_getElem? (i := 20) (by decide +kernel))) (q_beq (hg _ (List.mem_of_getElem? (i := 22) (by decide +kernel)))) (fun j hj => absurd hj (Nat.not_lt_zero j)) hA
  obtain ⟨adI, hC, he⟩ := vb_Cof (st := (.static "java/lang/Integer$IntegerCache" "cache" "[Ljava/lang/Integer;")) rfl (q_beq (hg _ (List.mem_of_getElem? (i := 26) (by decide +kernel)))) (hg _ (List.mem_of_getElem? (i := 27) (by decide +kernel))) hA
  obtain ⟨a2, e2, T2⟩ := va_Tof (tm := (.static "java/lang/Integer$IntegerCache" "cache" "[Ljava/lang/Integer;")) (ty := .object "java/lang/Integer") (N := 256) (f := fun j => .ref (adI j)) (by decide) (hg _ (List.mem_of_getElem? (i := 25) (by decide +kernel))) (q_beq (hg _ (List.mem_of_getElem? (i := 26) (by decide +kernel)))) he hA
  obtain ⟨s10, f10⟩ := q_str (own := "HeroTable$Table") (k := 108) (hg _ (List.mem_of_getElem? (i := 428) (by decide +kernel)))
  obtain ⟨v10, g10, V10⟩ := va_Tof (tm := .field (.string "HeroTable$Table" 108) "java/lang/String" "value" "[B") (ty := .byte) (N := 3) (f := fun j => .int ((bts 0).getD j 0)) (by decide) (hg _ (List.mem_of_getElem? (i := 430) (by decide +kernel))) (q_beq (hg _ (List.mem_of_getElem? (i := 431) (by decide +kernel)))) (fun j hj => match j, hj with
    | 0, _ => q_beq (hg _ (List.mem_of_getElem? (i := 432) (by decide +kernel)))
    | 1, _ => q_beq (hg _ (List.mem_of_getElem? (i := 433) (by decide +kernel)))
    | 2, _ => q_beq (hg _ (List.mem_of_getElem? (i := 434) (by decide +kernel)))
    | n + 3, h => absurd h (by omega)) hA
  obtain ⟨s11, f11⟩ := q_str (own := "HeroTable$Table") (k := 291) (hg _ (List.mem_of_getElem? (i := 464) (by decide +kernel)))
  obtain ⟨v11, g11, V11⟩ := va_Tof (tm := .field (.string "HeroTable$Table" 291) "java/lang/String" "value" "[B") (ty := .byte) (N := 4) (f := fun j => .int ((bts 1).getD j 0)) (by decide) (hg _ (List.mem_of_getElem? (i := 466) (by decide +kernel))) (q_beq (hg _ (List.mem_of_getElem? (i := 467) (by decide +kernel)))) (fun j hj => match j, hj with
    | 0, _ => q_beq (hg _ (List.mem_of_getElem? (i := 468) (by decide +kernel)))
    | 1, _ => q_beq (hg _ (List.mem_of_getElem? (i := 469) (by decide +kernel)))
    | 2, _ => q_beq (hg _ (List.mem_of_getElem? (i := 470) (by decide +kernel)))
    | 3, _ => q_beq (hg _ (List.mem_of_getElem? (i := 471) (by decide +kernel)))
    | n + 4, h => absurd h (by omega)) hA
  obtain ⟨s12, f12⟩ := q_str (own := "HeroTableModel") (k := 111) (hg _ (List.mem_of_getElem? (i := 783) (by decide +kernel)))
  obtain ⟨v12, g12, V12⟩ := va_Tof (tm := .field (.string "HeroTableModel" 111) "java/lang/String" "value" "[B") (ty := .byte) (N := 3) (f := fun j => .int ((bts 2).getD j 0)) (by decide) (hg _ (List.mem_of_getElem? (i := 785) (by decide +kernel))) (q_beq (hg _ (List.mem_of_getElem? (i := 786) (by decide +kernel)))) (fun j hj => match j, hj with
    | 0, _ => q_beq (hg _ (List.mem_of_getElem? (i := 787) (by decide +kernel)))
    | 1, _ => q_beq (hg _ (List.mem_of_getElem? (i := 788) (by decide +kernel)))
    | 2, _ => q_beq (hg _ (List.mem_of_getElem? (i := 789) (by decide +kernel)))
    | n + 3, h => absurd h (by omega)) hA
  obtain ⟨s13, f13⟩ := q_str (own := "HeroTableModel") (k := 123) (hg _ (List.mem_of_getElem? (i := 791) (by decide +kernel)))
  obtain ⟨v13, g13, V13⟩ := va_Tof (tm := .field (.string "HeroTableModel" 123) "java/lang/String" "value" "[B") (ty := .byte) (N := 5) (f := fun j => .int ((bts 3).getD j 0)) (by decide) (hg _ (List.mem_of_getElem? (i := 793) (by decide +kernel))) (q_beq (hg _ (List.mem_of_getElem? (i := 794) (by decide +kernel)))) (fun j hj => match j, hj with
    | 0, _ => q_beq (hg _ (List.mem_of_getElem? (i := 795) (by decide +kernel)))
    | 1, _ => q_beq (hg _ (List.mem_of_getElem? (i := 796) (by decide +kernel)))
    | 2, _ => q_beq (hg _ (List.mem_of_getElem? (i := 797) (by decide +kernel)))
    | 3, _ => q_beq (hg _ (List.mem_of_getElem? (i := 798) (by decide +kernel)))
    | 4, _ => q_beq (hg _ (List.mem_of_getElem? (i := 799) (by decide +kernel)))
    | n + 5, h => absurd h (by omega)) hA
  obtain ⟨s14, f14⟩ := q_str (own := "HeroTableModel") (k := 190) (hg _ (List.mem_of_getElem? (i := 814) (by decide +kernel)))
  obtain ⟨v14, g14, V14⟩ := va_Tof (tm := .field (.string "HeroTableModel" 190) "java/lang/String" "value" "[B") (ty := .byte) (N := 6) (f := fun j => .int ((bts 4).getD j 0)) (by decide) (hg _ (List.mem_of_getElem? (i := 816) (by decide +kernel))) (q_beq (hg _ (List.mem_of_getElem? (i := 817) (by decide +kernel)))) (fun j hj => match j, hj with
    | 0, _ => q_beq (hg _ (List.mem_of_getElem? (i := 818) (by decide +kernel)))
    | 1, _ => q_beq (hg _ (List.mem_of_getElem? (i := 819) (by decide +kernel)))
    | 2, _ => q_beq (hg _ (List.mem_of_getElem? (i := 820) (by decide +kernel)))
    | 3, _ => q_beq (hg _ (List.mem_of_getElem? (i := 821) (by decide +kernel)))
    | 4, _ => q_beq (hg _ (List.mem_of_getElem? (i := 822) (by decide +kernel)))
    | 5, _ => q_beq (hg _ (List.mem_of_getElem? (i := 823) (by decide +kernel)))
    | n + 6, h => absurd h (by omega)) hA
  obtain ⟨s15, f15⟩ := q_str (own := "HeroTableModel") (k := 197) (hg _ (List.mem_of_getElem? (i := 802) (by decide +kernel)))
  obtain ⟨v15, g15, V15⟩ := va_Tof (tm := .field (.string "HeroTableModel" 197) "java/lang/String" "value" "[B") (ty := .byte) (N := 6) (f := fun j => .int ((bts 5).getD j 0)) (by decide) (hg _ (List.mem_of_getElem? (i := 804) (by decide +kernel))) (q_beq (hg _ (List.mem_of_getElem? (i := 805) (by decide +kernel)))) (fun j hj => match j, hj with
    | 0, _ => q_beq (hg _ (List.mem_of_getElem? (i := 806) (by decide +kernel)))
    | 1, _ => q_beq (hg _ (List.mem_of_getElem? (i := 807) (by decide +kernel)))
    | 2, _ => q_beq (hg _ (List.mem_of_getElem? (i := 808) (by decide +kernel)))
    | 3, _ => q_beq (hg _ (List.mem_of_getElem? (i := 809) (by decide +kernel)))
    | 4, _ => q_beq (hg _ (List.mem_of_getElem? (i := 810) (by decide +kernel)))
    | 5, _ => q_beq (hg _ (List.mem_of_getElem? (i := 811) (by decide +kernel)))
    | n + 6, h => absurd h (by omega)) hA
  obtain ⟨s16, f16⟩ := q_str (own := "HeroTableModel") (k := 356) (hg _ (List.mem_of_getElem? (i := 886) (by decide +kernel)))
  obtain ⟨v16, g16, V16⟩ := va_Tof (tm := .field (.string "HeroTableModel" 356) "java/lang/String" "value" "[B") (ty := .byte) (N := 4) (f := fun j => .int ((bts 6).getD j 0)) (by decide) (hg _ (List.mem_of_getElem? (i := 888) (by decide +kernel))) (q_beq (hg _ (List.mem_of_getElem? (i := 889) (by decide +kernel)))) (fun j hj => match j, hj with
    | 0, _ => q_beq (hg _ (List.mem_of_getElem? (i := 890) (by decide +kernel)))
    | 1, _ => q_beq (hg _ (List.mem_of_getElem? (i := 891) (by decide +kernel)))
    | 2, _ => q_beq (hg _ (List.mem_of_getElem? (i := 892) (by decide +kernel)))
    | 3, _ => q_beq (hg _ (List.mem_of_getElem? (i := 893) (by decide +kernel)))
    | n + 4, h => absurd h (by omega)) hA
  obtain ⟨s30, f30⟩ := q_str (own := "HeroTable") (k := 265) (hg _ (List.mem_of_getElem? (i := 472) (by decide +kernel)))
  obtain ⟨s31, f31⟩ := q_str (own := "HeroTable") (k := 268) (hg _ (List.mem_of_getElem? (i := 498) (by decide +kernel)))
  obtain ⟨s32, f32⟩ := q_str (own := "HeroTable") (k := 273) (hg _ (List.mem_of_getElem? (i := 539) (by decide +kernel)))
  obtain ⟨s33, f33⟩ := q_str (own := "HeroTable") (k := 279) (hg _ (List.mem_of_getElem? (i := 560) (by decide +kernel)))
  obtain ⟨s34, f34⟩ := q_str (own := "HeroTable") (k := 249) (hg _ (List.mem_of_getElem? (i := 588) (by decide +kernel)))
  obtain ⟨s35, f35⟩ := q_str (own := "HeroTable") (k := 283) (hg _ (List.mem_of_getElem? (i := 601) (by decide +kernel)))
  obtain ⟨s36, f36⟩ := q_str (own := "HeroTable") (k := 115) (hg _ (List.mem_of_getElem? (i := 633) (by decide +kernel)))
  obtain ⟨s37, f37⟩ := q_str (own := "HeroTable") (k := 169) (hg _ (List.mem_of_getElem? (i := 703) (by decide +kernel)))
  obtain ⟨s38, f38⟩ := q_str (own := "HeroTable") (k := 216) (hg _ (List.mem_of_getElem? (i := 720) (by decide +kernel)))
  obtain ⟨s39, f39⟩ := q_str (own := "HeroTable") (k := 240) (hg _ (List.mem_of_getElem? (i := 759) (by decide +kernel)))
  obtain ⟨ad, h0, h1, h2, h10, h11, h12, h13, h14, h15, h16, h20, h21, h22, h23, h24, h25, h26, h30, h31, h32, h33, h34, h35, h36, h37, h38, h39, hI⟩ : ∃ ad : Nat → Nat, ad 0 = a0 ∧ ad 1 = a1 ∧ ad 2 = a2 ∧ ad 10 = s10 ∧ ad 11 = s11 ∧ ad 12 = s12 ∧ ad 13 = s13 ∧ ad 14 = s14 ∧ ad 15 = s15 ∧ ad 16 = s16 ∧ ad 20 = v10 ∧ ad 21 = v11 ∧ ad 22 = v12 ∧ ad 23 = v13 ∧ ad 24 = v14 ∧ ad 25 = v15 ∧ ad 26 = v16 ∧ ad 30 = s30 ∧ ad 31 = s31 ∧ ad 32 = s32 ∧ ad 33 = s33 ∧ ad 34 = s34 ∧ ad 35 = s35 ∧ ad 36 = s36 ∧ ad 37 = s37 ∧ ad 38 = s38 ∧ ad 39 = s39 ∧ ∀ j : Nat, ad (1000 + j) = adI j := ⟨fun n => if 1000 ≤ n then adI (n - 1000) else ([a0, a1, a2, 0, 0, 0, 0, 0, 0, 0, s10, s11, s12, s13, s14, s15, s16, 0, 0, 0, v10, v11, v12, v13, v14, v15, v16, 0, 0, 0, s30, s31, s32, s33, s34, s35, s36, s37, s38, s39] : List Nat).getD n 0, rfl, rfl, rfl, rfl, rfl, rfl, rfl, rfl, rfl, rfl, rfl, rfl, rfl, rfl, rfl, rfl, rfl, rfl, rfl, rfl, rfl, rfl, rfl, rfl, rfl, rfl, rfl, fun j => by
    show (if 1000 ≤ 1000 + j then adI (1000 + j - 1000) else _) = adI j
    rw [if_pos (Nat.le_add_right 1000 j), Nat.add_sub_cancel_left]⟩
  subst h0
  subst h1
  subst h2
  subst h10
  subst h11
  subst h12
  subst h13
  subst h14
  subst h15
  subst h16
  subst h20
  subst h21
  subst h22
  subst h23
  subst h24
  subst h25
  subst h26
  subst h30
  subst h31
  subst h32
  subst h33
  subst h34
  subst h35
  subst h36
  subst h37
  subst h38
  subst h39
  have hI2 : (fun j : Nat => Value.ref (adI j)) = fun j : Nat => Value.ref (ad (1000 + j)) := funext fun j => by rw [hI]
  rw [hI2] at T2
  refine ⟨((fun k => ([c0, c1, c2, c3, c4, c5, c6, c7, c8, c9, c10, c11, c12] : List ClassId).getD k c0, fun k => ([i0, i1, i2, i3, i4, i5, i6, i7, i8, i9, i10, i11, i12] : List (Nat → Nat)).getD k i0), fun k => ([d0, d1, d2, d3, d4, d5, d6, d7] : List ClassId).getD k d0, ad), ⟨fun c q h => ?_, fun k q h => ?_⟩, ?_, ?_, ?_⟩
  · match c, q, h with
    | 0, _, rfl => exact K0
    | 1, _, rfl => exact K1
    | 2, _, rfl => exact K2
    | 3, _, rfl => exact K3
    | 4, _, rfl => exact K4
    | 5, _, rfl => exact K5
    | 6, _, rfl => exact K6
    | 7, _, rfl => exact K7
    | 8, _, rfl => exact K8
    | 9, _, rfl => exact K9
    | 10, _, rfl => exact K10
    | 11, _, rfl => exact K11
    | 12, _, rfl => exact K12
    | n + 13, q, h => exact nomatch h
  · match k, q, h with
    | 0, _, rfl => exact ⟨D0, E0⟩
    | 1, _, rfl => exact ⟨D1, E1⟩
    | 2, _, rfl => exact ⟨D2, E2⟩
    | 3, _, rfl => exact ⟨D3, E3⟩
    | 4, _, rfl => exact ⟨D4, E4⟩
    | 5, _, rfl => exact ⟨D5, E5⟩
    | 6, _, rfl => exact ⟨D6, E6⟩
    | 7, _, rfl => exact ⟨D7, E7⟩
    | n + 8, q, h => exact nomatch h
  · exact ⟨⟨va_Nw.of rfl (hts _ (List.mem_of_getElem? (l := lw_tbl) (i := 130) (a := Jvm.Cond.methodLinkNest "HeroTable$Table" (28 : Nat) ({ cls := "HeroTable$Ground", name := "<init>", desc := "()V" } : Jvm.MethodName) "HeroTable") (by decide +kernel))), va_Nw.of rfl (hts _ (List.mem_of_getElem? (l := lw_tbl) (i := 141) (a := Jvm.Cond.methodLinkNest "HeroTable$Table" (35 : Nat) ({ cls := "HeroTable$Dice", name := "<init>", desc := "()V" } : Jvm.MethodName) "HeroTable") (by decide +kernel))), va_Nw.of rfl (hts _ (List.mem_of_getElem? (l := lw_tbl) (i := 158) (a := Jvm.Cond.methodLinkNest "HeroTable$Table" (44 : Nat) ({ cls := "HeroTable$Hero", name := "<init>", desc := "()V" } : Jvm.MethodName) "HeroTable") (by decide +kernel))), va_Nw.of rfl (hts _ (List.mem_of_getElem? (l := lw_tbl) (i := 298) (a := Jvm.Cond.methodLinkNest "HeroTable" (21 : Nat) ({ cls := "HeroTable$Transcript", name := "<init>", desc := "()V" } : Jvm.MethodName) "HeroTable") (by decide +kernel)))⟩, ⟨va_Nw.of rfl (hts _ (List.mem_of_getElem? (l := lw_tbl) (i := 412) (a := Jvm.Cond.fieldLinkNest "HeroTable$Hero" (67 : Nat) "HeroTable" "FIRST_BASES" "[I" "HeroTable") (by decide +kernel))), va_Nw.of rfl (hts _ (List.mem_of_getElem? (l := lw_tbl) (i := 1309) (a := Jvm.Cond.fieldLinkNest "java/util/ArrayList$Itr" (28 : Nat) "java/util/ArrayList" "size" "I" "java/util/ArrayList") (by decide +kernel)))⟩, ⟨va_Fw.of (hts _ (List.mem_of_getElem? (l := lw_tbl) (i := 1403) (a := Jvm.Cond.declares ({ cls := "java/util/List", name := "size", desc := "()I" } : Jvm.MethodName)) (by decide +kernel))) (hts _ (List.mem_of_getElem? (l := lw_tbl) (i := 1402) (a := Jvm.Cond.interfaceMethod "java/util/List" "java/util/List" "size" "()I") (by decide +kernel))) (hts _ (List.mem_of_getElem? (l := lw_tbl) (i := 1408) (a := Jvm.Cond.publicMethod ({ cls := "java/util/ArrayList", name := "size", desc := "()I" } : Jvm.MethodName)) (by decide +kernel))) (hts _ (List.mem_of_getElem? (l := lw_tbl) (i := 1406) (a := Jvm.Cond.unhidden "java/util/ArrayList" "size" "()I") (by decide +kernel))) (hts _ (List.mem_of_getElem? (l := lw_tbl) (i := 1404) (a := Jvm.Cond.castable "java/util/ArrayList" "java/util/List") (by decide +kernel))), va_Fw.of (hts _ (List.mem_of_getElem? (l := lw_tbl) (i := 1871) (a := Jvm.Cond.declares ({ cls := "java/util/List", name := "isEmpty", desc := "()Z" } : Jvm.MethodName)) (by decide +kernel))) (hts _ (List.mem_of_getElem? (l := lw_tbl) (i := 1870) (a := Jvm.Cond.interfaceMethod "java/util/List" "java/util/List" "isEmpty" "()Z") (by decide +kernel))) (hts _ (List.mem_of_getElem? (l := lw_tbl) (i := 1875) (a := Jvm.Cond.publicMethod ({ cls := "java/util/ArrayList", name := "isEmpty", desc := "()Z" } : Jvm.MethodName)) (by decide +kernel))) (hts _ (List.mem_of_getElem? (l := lw_tbl) (i := 1873) (a := Jvm.Cond.unhidden "java/util/ArrayList" "isEmpty" "()Z") (by decide +kernel))) (hts _ (List.mem_of_getElem? (l := lw_tbl) (i := 1404) (a := Jvm.Cond.castable "java/util/ArrayList" "java/util/List") (by decide +kernel))), va_Fw.of (hts _ (List.mem_of_getElem? (l := lw_tbl) (i := 1421) (a := Jvm.Cond.declares ({ cls := "java/util/List", name := "iterator", desc := "()Ljava/util/Iterator;" } : Jvm.MethodName)) (by decide +kernel))) (hts _ (List.mem_of_getElem? (l := lw_tbl) (i := 1420) (a := Jvm.Cond.interfaceMethod "java/util/List" "java/util/List" "iterator" "()Ljava/util/Iterator;") (by decide +kernel))) (hts _ (List.mem_of_getElem? (l := lw_tbl) (i := 1425) (a := Jvm.Cond.publicMethod ({ cls := "java/util/ArrayList", name := "iterator", desc := "()Ljava/util/Iterator;" } : Jvm.MethodName)) (by decide +kernel))) (hts _ (List.mem_of_getElem? (l := lw_tbl) (i := 1423) (a := Jvm.Cond.unhidden "java/util/ArrayList" "iterator" "()Ljava/util/Iterator;") (by decide +kernel))) (hts _ (List.mem_of_getElem? (l := lw_tbl) (i := 1404) (a := Jvm.Cond.castable "java/util/ArrayList" "java/util/List") (by decide +kernel))), va_Fw.of (hts _ (List.mem_of_getElem? (l := lw_tbl) (i := 1503) (a := Jvm.Cond.declares ({ cls := "java/util/List", name := "add", desc := "(Ljava/lang/Object;)Z" } : Jvm.MethodName)) (by decide +kernel))) (hts _ (List.mem_of_getElem? (l := lw_tbl) (i := 1502) (a := Jvm.Cond.interfaceMethod "java/util/List" "java/util/List" "add" "(Ljava/lang/Object;)Z") (by decide +kernel))) (hts _ (List.mem_of_getElem? (l := lw_tbl) (i := 1507) (a := Jvm.Cond.publicMethod ({ cls := "java/util/ArrayList", name := "add", desc := "(Ljava/lang/Object;)Z" } : Jvm.MethodName)) (by decide +kernel))) (hts _ (List.mem_of_getElem? (l := lw_tbl) (i := 1505) (a := Jvm.Cond.unhidden "java/util/ArrayList" "add" "(Ljava/lang/Object;)Z") (by decide +kernel))) (hts _ (List.mem_of_getElem? (l := lw_tbl) (i := 1404) (a := Jvm.Cond.castable "java/util/ArrayList" "java/util/List") (by decide +kernel))), va_Fw.of (hts _ (List.mem_of_getElem? (l := lw_tbl) (i := 1449) (a := Jvm.Cond.declares ({ cls := "java/util/Iterator", name := "hasNext", desc := "()Z" } : Jvm.MethodName)) (by decide +kernel))) (hts _ (List.mem_of_getElem? (l := lw_tbl) (i := 1448) (a := Jvm.Cond.interfaceMethod "java/util/Iterator" "java/util/Iterator" "hasNext" "()Z") (by decide +kernel))) (hts _ (List.mem_of_getElem? (l := lw_tbl) (i := 1454) (a := Jvm.Cond.publicMethod ({ cls := "java/util/ArrayList$Itr", name := "hasNext", desc := "()Z" } : Jvm.MethodName)) (by decide +kernel))) (hts _ (List.mem_of_getElem? (l := lw_tbl) (i := 1452) (a := Jvm.Cond.unhidden "java/util/ArrayList$Itr" "hasNext" "()Z") (by decide +kernel))) (hts _ (List.mem_of_getElem? (l := lw_tbl) (i := 1450) (a := Jvm.Cond.castable "java/util/ArrayList$Itr" "java/util/Iterator") (by decide +kernel)))⟩, ⟨va_AO.of (hts _ (List.mem_of_getElem? (l := lw_tbl) (i := 107) (a := Jvm.Cond.arrayOver (Jvm.ClassFile.FieldType.object "HeroTable$Hero")) (by decide +kernel))), va_AO.of (hts _ (List.mem_of_getElem? (l := lw_tbl) (i := 115) (a := Jvm.Cond.arrayOver (Jvm.ClassFile.FieldType.object "HeroTable$Source")) (by decide +kernel))), va_AO.of (hts _ (List.mem_of_getElem? (l := lw_tbl) (i := 1329) (a := Jvm.Cond.arrayOver (Jvm.ClassFile.FieldType.object "java/lang/Object")) (by decide +kernel)))⟩, ⟨va_Nw.of rfl (hts _ (List.mem_of_getElem? (l := lw_tbl) (i := 831) (a := Jvm.Cond.castable "java/lang/IndexOutOfBoundsException" "java/lang/IndexOutOfBoundsException") (by decide +kernel))), va_Nw.of rfl (hts _ (List.mem_of_getElem? (l := lw_tbl) (i := 903) (a := Jvm.Cond.castable "java/lang/IllegalArgumentException" "java/lang/IllegalArgumentException") (by decide +kernel))), va_Nw.of rfl (hts _ (List.mem_of_getElem? (l := lw_tbl) (i := 920) (a := Jvm.Cond.castable "java/lang/IllegalStateException" "java/lang/IllegalStateException") (by decide +kernel))), va_Nw.of rfl (hts _ (List.mem_of_getElem? (l := lw_tbl) (i := 954) (a := Jvm.Cond.castable "java/util/NoSuchElementException" "java/util/NoSuchElementException") (by decide +kernel))), va_Nw.of rfl (hts _ (List.mem_of_getElem? (l := lw_tbl) (i := 1271) (a := Jvm.Cond.castable "java/lang/ArithmeticException" "java/lang/ArithmeticException") (by decide +kernel)))⟩, va_Nc.of (hg _ (List.mem_of_getElem? (i := 245) (by decide +kernel))), va_Nw.of rfl (hts _ (List.mem_of_getElem? (l := lw_tbl) (i := 2318) (a := Jvm.Cond.castable "HeroTableModel$Call" "java/lang/Object") (by decide +kernel))), va_Nw.of rfl (hts _ (List.mem_of_getElem? (l := lw_tbl) (i := 2319) (a := Jvm.Cond.castable "HeroTableModel$Hero" "java/lang/Object") (by decide +kernel))), va_Nw.of rfl (hts _ (List.mem_of_getElem? (l := lw_tbl) (i := 833) (a := Jvm.Cond.declares ({ cls := "java/lang/RuntimeException", name := "<init>", desc := "(Ljava/lang/String;)V" } : Jvm.MethodName)) (by decide +kernel))), va_Nw.of rfl (hts _ (List.mem_of_getElem? (l := lw_tbl) (i := 835) (a := Jvm.Cond.declares ({ cls := "java/lang/Exception", name := "<init>", desc := "(Ljava/lang/String;)V" } : Jvm.MethodName)) (by decide +kernel))), va_Nw.of rfl (hts _ (List.mem_of_getElem? (l := lw_tbl) (i := 837) (a := Jvm.Cond.declares ({ cls := "java/lang/Throwable", name := "<init>", desc := "(Ljava/lang/String;)V" } : Jvm.MethodName)) (by decide +kernel))), va_Nw.of rfl (hts _ (List.mem_of_getElem? (l := lw_tbl) (i := 2302) (a := Jvm.Cond.castable "java/lang/Integer" "java/lang/Object") (by decide +kernel)))⟩
  · intro q hq
    simp only [SRS, List.mem_cons, List.not_mem_nil, or_false] at hq
    rcases hq with rfl | rfl | rfl | rfl | rfl | rfl | rfl | rfl | rfl | rfl | rfl | rfl | rfl | rfl | rfl | rfl | rfl
    · exact vk_R.of (hts _ (List.mem_of_getElem? (l := lw_tbl) (i := 424) (a := Jvm.Cond.stringRef "HeroTable$Table" (108 : Nat) ".#~") (by decide +kernel))) f10
    · exact vk_R.of (hts _ (List.mem_of_getElem? (l := lw_tbl) (i := 777) (a := Jvm.Cond.stringRef "HeroTable$Table" (291 : Nat) "bfhs") (by decide +kernel))) f11
    · exact vk_R.of (hts _ (List.mem_of_getElem? (l := lw_tbl) (i := 1631) (a := Jvm.Cond.stringRef "HeroTableModel" (111 : Nat) ".#~") (by decide +kernel))) f12
    · exact vk_R.of (hts _ (List.mem_of_getElem? (l := lw_tbl) (i := 1641) (a := Jvm.Cond.stringRef "HeroTableModel" (123 : Nat) "atdsw") (by decide +kernel))) f13
    · exact vk_R.of (hts _ (List.mem_of_getElem? (l := lw_tbl) (i := 1717) (a := Jvm.Cond.stringRef "HeroTableModel" (190 : Nat) "umsop=") (by decide +kernel))) f14
    · exact vk_R.of (hts _ (List.mem_of_getElem? (l := lw_tbl) (i := 1702) (a := Jvm.Cond.stringRef "HeroTableModel" (197 : Nat) "psbihd") (by decide +kernel))) f15
    · exact vk_R.of (hts _ (List.mem_of_getElem? (l := lw_tbl) (i := 2219) (a := Jvm.Cond.stringRef "HeroTableModel" (356 : Nat) "bfhs") (by decide +kernel))) f16
    · exact vk_R.of (hts _ (List.mem_of_getElem? (l := lw_tbl) (i := 874) (a := Jvm.Cond.stringRef "HeroTable" (265 : Nat) "no such hero or source") (by decide +kernel))) f30
    · exact vk_R.of (hts _ (List.mem_of_getElem? (l := lw_tbl) (i := 910) (a := Jvm.Cond.stringRef "HeroTable" (268 : Nat) "no such sign or cell, or out of range") (by decide +kernel))) f31
    · exact vk_R.of (hts _ (List.mem_of_getElem? (l := lw_tbl) (i := 927) (a := Jvm.Cond.stringRef "HeroTable" (273 : Nat) "not in this state") (by decide +kernel))) f32
    · exact vk_R.of (hts _ (List.mem_of_getElem? (l := lw_tbl) (i := 944) (a := Jvm.Cond.stringRef "HeroTable" (279 : Nat) "this can not be done now") (by decide +kernel))) f33
    · exact vk_R.of (hts _ (List.mem_of_getElem? (l := lw_tbl) (i := 961) (a := Jvm.Cond.stringRef "HeroTable" (249 : Nat) "no heroes") (by decide +kernel))) f34
    · exact vk_R.of (hts _ (List.mem_of_getElem? (l := lw_tbl) (i := 1038) (a := Jvm.Cond.stringRef "HeroTable" (283 : Nat) "no such hero") (by decide +kernel))) f35
    · exact vk_R.of (hts _ (List.mem_of_getElem? (l := lw_tbl) (i := 1103) (a := Jvm.Cond.stringRef "HeroTable" (115 : Nat) "no such source") (by decide +kernel))) f36
    · exact vk_R.of (hts _ (List.mem_of_getElem? (l := lw_tbl) (i := 1177) (a := Jvm.Cond.stringRef "HeroTable" (169 : Nat) "no turn is on") (by decide +kernel))) f37
    · exact vk_R.of (hts _ (List.mem_of_getElem? (l := lw_tbl) (i := 1254) (a := Jvm.Cond.stringRef "HeroTable" (216 : Nat) "no such die was told") (by decide +kernel))) f38
    · exact vk_R.of (hts _ (List.mem_of_getElem? (l := lw_tbl) (i := 1278) (a := Jvm.Cond.stringRef "HeroTable" (240 : Nat) "no attack with a die") (by decide +kernel))) f39
  · refine ⟨⟨vx_Zqof (hts _ (List.mem_of_getElem? (l := lw_tbl) (i := 856) (a := Jvm.Cond.laysStatic "java/lang/Throwable" "UNASSIGNED_STACK" "[Ljava/lang/StackTraceElement;") (by decide +kernel))) (hts _ (List.mem_of_getElem? (l := lw_tbl) (i := 64) (a := Jvm.Cond.initialized "java/lang/Throwable") (by decide +kernel))) (hg _ (List.mem_of_getElem? (i := 17) (by decide +kernel))) hA, vx_Zqof (hts _ (List.mem_of_getElem? (l := lw_tbl) (i := 858) (a := Jvm.Cond.laysStatic "java/lang/Throwable" "SUPPRESSED_SENTINEL" "Ljava/util/List;") (by decide +kernel))) (hts _ (List.mem_of_getElem? (l := lw_tbl) (i := 64) (a := Jvm.Cond.initialized "java/lang/Throwable") (by decide +kernel))) (hg _ (List.mem_of_getElem? (i := 18) (by decide +kernel))) hA⟩, ⟨va_Zof (hts _ (List.mem_of_getElem? (l := lw_tbl) (i := 413) (a := Jvm.Cond.laysStatic "HeroTable" "FIRST_BASES" "[I") (by decide +kernel))) (hts _ (List.mem_of_getElem? (l := lw_tbl) (i := 50) (a := Jvm.Cond.initialized "HeroTable") (by decide +kernel))) e0 hA, T0⟩, ⟨va_Zof (hts _ (List.mem_of_getElem? (l := lw_tbl) (i := 1306) (a := Jvm.Cond.laysStatic "java/util/ArrayList" "DEFAULTCAPACITY_EMPTY_ELEMENTDATA" "[Ljava/lang/Object;") (by decide +kernel))) (hts _ (List.mem_of_getElem? (l := lw_tbl) (i := 60) (a := Jvm.Cond.initialized "java/util/ArrayList") (by decide +kernel))) e1 hA, T1⟩, va_Zof (hts _ (List.mem_of_getElem? (l := lw_tbl) (i := 438) (a := Jvm.Cond.laysStatic "java/lang/String" "COMPACT_STRINGS" "Z") (by decide +kernel))) (hts _ (List.mem_of_getElem? (l := lw_tbl) (i := 77) (a := Jvm.Cond.initialized "java/lang/String") (by decide +kernel))) (q_beq (hg _ (List.mem_of_getElem? (i := 12) (by decide +kernel)))) hA, ⟨va_Zof (hts _ (List.mem_of_getElem? (l := lw_tbl) (i := 1815) (a := Jvm.Cond.laysStatic "java/lang/Integer$IntegerCache" "high" "I") (by decide +kernel))) (hts _ (List.mem_of_getElem? (l := lw_tbl) (i := 88) (a := Jvm.Cond.initialized "java/lang/Integer$IntegerCache") (by decide +kernel))) (q_beq (hg _ (List.mem_of_getElem? (i := 23) (by decide +kernel)))) hA, va_Zof (hts _ (List.mem_of_getElem? (l := lw_tbl) (i := 1817) (a := Jvm.Cond.laysStatic "java/lang/Integer$IntegerCache" "cache" "[Ljava/lang/Integer;") (by decide +kernel))) (hts _ (List.mem_of_getElem? (l := lw_tbl) (i := 88) (a := Jvm.Cond.initialized "java/lang/Integer$IntegerCache") (by decide +kernel))) e2 hA, T2, fun j hj => ?_⟩, fun i hi => ?_⟩
    · show va_O "java/lang/Integer" (ad (1000 + j)) _ s s.heap
      rw [hI j]
      exact hC.1 j hj
    · match i, hi with
      | 0, _ => exact ⟨va_Oof (hg _ (List.mem_of_getElem? (i := 428) (by decide +kernel))) f10 hA, vk_OFof f10 (q_beq (hg _ (List.mem_of_getElem? (i := 429) (by decide +kernel)))) hA, vk_OFof f10 g10 hA, V10⟩
      | 1, _ => exact ⟨va_Oof (hg _ (List.mem_of_getElem? (i := 464) (by decide +kernel))) f11 hA, vk_OFof f11 (q_beq (hg _ (List.mem_of_getElem? (i := 465) (by decide +kernel)))) hA, vk_OFof f11 g11 hA, V11⟩
      | 2, _ => exact ⟨va_Oof (hg _ (List.mem_of_getElem? (i := 783) (by decide +kernel))) f12 hA, vk_OFof f12 (q_beq (hg _ (List.mem_of_getElem? (i := 784) (by decide +kernel)))) hA, vk_OFof f12 g12 hA, V12⟩
      | 3, _ => exact ⟨va_Oof (hg _ (List.mem_of_getElem? (i := 791) (by decide +kernel))) f13 hA, vk_OFof f13 (q_beq (hg _ (List.mem_of_getElem? (i := 792) (by decide +kernel)))) hA, vk_OFof f13 g13 hA, V13⟩
      | 4, _ => exact ⟨va_Oof (hg _ (List.mem_of_getElem? (i := 814) (by decide +kernel))) f14 hA, vk_OFof f14 (q_beq (hg _ (List.mem_of_getElem? (i := 815) (by decide +kernel)))) hA, vk_OFof f14 g14 hA, V14⟩
      | 5, _ => exact ⟨va_Oof (hg _ (List.mem_of_getElem? (i := 802) (by decide +kernel))) f15 hA, vk_OFof f15 (q_beq (hg _ (List.mem_of_getElem? (i := 803) (by decide +kernel)))) hA, vk_OFof f15 g15 hA, V15⟩
      | 6, _ => exact ⟨va_Oof (hg _ (List.mem_of_getElem? (i := 886) (by decide +kernel))) f16 hA, vk_OFof f16 (q_beq (hg _ (List.mem_of_getElem? (i := 887) (by decide +kernel)))) hA, vk_OFof f16 g16 hA, V16⟩
      | n + 7, h => exact absurd h (by omega)
