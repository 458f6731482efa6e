def okCell (x y : Int32) : Prop := (0 ≤ x.toInt ∧ x.toInt < 8) ∧ (0 ≤ y.toInt ∧ y.toInt < 8)
theorem k149 : (Jvm.Cond.lays "HeroTable$Dice" "HeroTable$Dice" "values" "[I") ∈ G9 := g9 149 (by decide +kernel) rfl
theorem k151 : (Jvm.Cond.lays "HeroTable$Dice" "HeroTable$Dice" "told" "I") ∈ G9 := g9 151 (by decide +kernel) rfl
theorem k153 : (Jvm.Cond.lays "HeroTable$Dice" "HeroTable$Dice" "used" "I") ∈ G9 := g9 153 (by decide +kernel) rfl
theorem inG_X0 : ∀ w ∈ u_ws RX0 TX0 3, w ∈ G9 := by
  intro w h
  have h : w ∈ [u_lay RX0 TX0 0, u_lay RX0 TX0 1, u_lay RX0 TX0 2] := h
  simp only [List.mem_cons, List.not_mem_nil, or_false] at h
  rcases h with rfl | rfl | rfl
  · exact k149
  · exact k151
  · exact k153
theorem k146 : (Jvm.Cond.fieldLink "HeroTable$Dice" (15 : Nat) "HeroTable$Dice" "told" "I") ∈ G9 := g9 146 (by decide +kernel) rfl
theorem k148 : (Jvm.Cond.fieldLink "HeroTable$Dice" (19 : Nat) "HeroTable$Dice" "used" "I") ∈ G9 := g9 148 (by decide +kernel) rfl
theorem dX0_left_0 : decode cX0_left 0 = .ok (.aload_n 0, 1) := by decide +kernel
theorem dX0_left_1 : decode cX0_left 1 = .ok (.getfield 15, 3) := by decide +kernel
theorem dX0_left_4 : decode cX0_left 4 = .ok (.aload_n 0, 1) := by decide +kernel
theorem dX0_left_5 : decode cX0_left 5 = .ok (.getfield 19, 3) := by decide +kernel
theorem dX0_left_8 : decode cX0_left 8 = .ok (.isub, 1) := by decide +kernel
theorem dX0_left_9 : decode cX0_left 9 = .ok (.ireturn, 1) := by decide +kernel
theorem dX1_isCell_0 : decode cX1_isCell 0 = .ok (.iload_n 0, 1) := by decide +kernel
theorem dX1_isCell_1 : decode cX1_isCell 1 = .ok (.ifCond .lt 23, 3) := by decide +kernel
theorem dX1_isCell_4 : decode cX1_isCell 4 = .ok (.iload_n 0, 1) := by decide +kernel
theorem dX1_isCell_5 : decode cX1_isCell 5 = .ok (.bipush 8, 2) := by decide +kernel
theorem dX1_isCell_7 : decode cX1_isCell 7 = .ok (.if_icmp .ge 17, 3) := by decide +kernel
theorem dX1_isCell_10 : decode cX1_isCell 10 = .ok (.iload_n 1, 1) := by decide +kernel
theorem dX1_isCell_11 : decode cX1_isCell 11 = .ok (.ifCond .lt 13, 3) := by decide +kernel
theorem dX1_isCell_14 : decode cX1_isCell 14 = .ok (.iload_n 1, 1) := by decide +kernel
theorem dX1_isCell_15 : decode cX1_isCell 15 = .ok (.bipush 8, 2) := by decide +kernel
theorem dX1_isCell_17 : decode cX1_isCell 17 = .ok (.if_icmp .ge 7, 3) := by decide +kernel
theorem dX1_isCell_20 : decode cX1_isCell 20 = .ok (.iconst 1, 1) := by decide +kernel
theorem dX1_isCell_21 : decode cX1_isCell 21 = .ok (.goto 4, 3) := by decide +kernel
theorem dX1_isCell_24 : decode cX1_isCell 24 = .ok (.iconst 0, 1) := by decide +kernel
theorem dX1_isCell_25 : decode cX1_isCell 25 = .ok (.ireturn, 1) := by decide +kernel
set_option maxHeartbeats 4000000 in
set_option maxRecDepth 100000 in
theorem c_X0_left (l : Launch) (hfl : l.stackTraces = false) (g : GP) (z0 : Nat) (zv : Nat) (n1 : Int32) (n2 : Int32)  : CI l yX0_left (wG yX0_left cX0_left 1 (Option.some Jvm.ClassFile.FieldType.int)) (LV 1 0 0) g [.ref z0] ([(z0, .inr (2, [.ref zv, .int n1, .int n2]))]) (fun (r : Int32) (u : va_W) => r = (n1 - n2) ∧ u = [(z0, .inr (2, [.ref zv, .int n1, .int n2]))]) := by
  intro sz
  refine Met.ofW (cc := cX0_left) (maxL := 1) (ret := (Option.some Jvm.ClassFile.FieldType.int)) (by decide) rfl ?_
  intro p e s m args below meth c s₁ B hml hv
  obtain ⟨rfl, hsz, hP, hK, hD0, hT0⟩ := hv
  have hx := B.exec
  have hb := B.bytes
  have hr := B.returns
  have hts := atoms_spec (ws := (wG yX0_left cX0_left 1 (Option.some Jvm.ClassFile.FieldType.int))) B.pre
  have htg : ∀ w ∈ G9, w.before _ s = true := fun w h => hts w (List.mem_cons_of_mem _ h)
  have hown : s.vm.findClass "HeroTable$Dice" = some m.cls := findClass_of_methodNamed B.named
  have hlocks := B.notSynchronized
  subst hsz
  have hD := hD0.self (sz := s.heap.size)
  have hT := hT0
  clear hT0
  generalize hAe : va_A [(z0, .inr (2, [.ref zv, .int n1, .int n2]))] s.heap.size = A at hD hT ⊢
  have hA : ∀ q : Nat, s.heap.size ≤ q → A q := fun q h => by rw [← hAe]; exact Or.inr h
  have hS : va_S A s.heap s.heap [] := va_S.rf
  have hP : va_P g.1 CLS [(z0, .inr (2, [.ref zv, .int n1, .int n2]))] s.heap := hP
  have hl := lv_entry ([.ref z0]) (n := 1) (Nat.le_of_ble_eq_true rfl)
  rw [lg_entry_eq]
  generalize (lg_sl ([.ref z0]) ++ List.replicate (1 - (lg_sl ([.ref z0])).length) Slot.unset).toArray = ls at hl ⊢
  have hl : lv_has ls 1 [(0, .ref z0)] := hl
  refine lv_aload_n hx hb dX0_left_0 rfl (lv_at hl 0 rfl) ?_
  refine va_get (D := g.1) (ci := 2) (v := .int n1) (C := RX0) (T := TX0) (N := 3) hx hb htg inG_X0 hown hK hP 0 rfl rfl 1 (by decide) (htg _ k146) (fun _ h9 => h9) rfl dX0_left_1 ?_
  refine lv_aload_n hx hb dX0_left_4 rfl (lv_at hl 0 rfl) ?_
  refine va_get (D := g.1) (ci := 2) (v := .int n2) (C := RX0) (T := TX0) (N := 3) hx hb htg inG_X0 hown hK hP 0 rfl rfl 2 (by decide) (htg _ k148) (fun _ h9 => h9) rfl dX0_left_5 ?_
  refine lv_isub hx hb dX0_left_8 ?_
  refine lv_topi (fun x1 ex1 => ?_)
  have hP9 := hP.sub (ws' := [(z0, .inr (2, [.ref zv, .int n1, .int n2]))]) [0] rfl
  have hD9 := hD.sub (ws' := [(z0, .inr (2, [.ref zv, .int n1, .int n2]))]) [0] (by decide) rfl
  refine W.widen (k := 0) (n := 0) (Nat.le_of_ble_eq_true rfl) (Nat.le_of_ble_eq_true rfl) ?_
  exact W.iret (v := x1) hx hb hr (fun t ht hW => ⟨⟨x1, [(z0, .inr (2, [.ref zv, .int n1, .int n2]))], rfl, ⟨ex1, rfl⟩, by rw [ht]; exact hP9, va_K.moved hW.alike hK, hD9⟩, hS.F ht⟩) hS.2.2 dX0_left_9

set_option maxHeartbeats 4000000 in
set_option maxRecDepth 100000 in
theorem c_X1_isCell (l : Launch) (hfl : l.stackTraces = false) (g : GP) (n1 : Int32) (n2 : Int32)  : CI l yX1_isCell (wG yX1_isCell cX1_isCell 2 (Option.some Jvm.ClassFile.FieldType.boolean)) (LV 1 0 0) g [.int n1, .int n2] ([]) (fun (r : Int32) (u : va_W) => (okCell n1 n2 ∧ r = 1 ∧ u = []) ∨ (¬ okCell n1 n2 ∧ r = 0 ∧ u = [])) := by
  intro sz
  refine Met.ofW (cc := cX1_isCell) (maxL := 2) (ret := (Option.some Jvm.ClassFile.FieldType.boolean)) (by decide) rfl ?_
  intro p e s m args below meth c s₁ B hml hv
  obtain ⟨rfl, hsz, hP, hK, hD0, hT0⟩ := hv
  have hx := B.exec
  have hb := B.bytes
  have hr := B.returns
  have hts := atoms_spec (ws := (wG yX1_isCell cX1_isCell 2 (Option.some Jvm.ClassFile.FieldType.boolean))) B.pre
  have htg : ∀ w ∈ G9, w.before _ s = true := fun w h => hts w (List.mem_cons_of_mem _ h)
  have hown : s.vm.findClass "HeroTable$Ground" = some m.cls := findClass_of_methodNamed B.named
  have hlocks := B.notSynchronized
  subst hsz
  have hD := hD0.self (sz := s.heap.size)
  have hT := hT0
  clear hT0
  generalize hAe : va_A [] s.heap.size = A at hD hT ⊢
  have hA : ∀ q : Nat, s.heap.size ≤ q → A q := fun q h => by rw [← hAe]; exact Or.inr h
  have hS : va_S A s.heap s.heap [] := va_S.rf
  have hP : va_P g.1 CLS [] s.heap := hP
  have hl := lv_entry ([.int n1, .int n2]) (n := 2) (Nat.le_of_ble_eq_true rfl)
  rw [lg_entry_eq]
  generalize (lg_sl ([.int n1, .int n2]) ++ List.replicate (2 - (lg_sl ([.int n1, .int n2])).length) Slot.unset).toArray = ls at hl ⊢
  have hl : lv_has ls 2 [(0, .int n1), (1, .int n2)] := hl
  refine lv_iload_n hx hb dX1_isCell_0 rfl (lv_at hl 0 rfl) ?_
  refine lv_if_lt (tgt := 24) hx hb dX1_isCell_1 (by decide) (fun c1 => ?_) (fun c1 => ?_)
  · refine lv_iconst (v := 0) hx hb dX1_isCell_24 (by decide) ?_
    have hP9 := hP.sub (ws' := []) [] rfl
    have hD9 := hD.sub (ws' := []) [] (by decide) rfl
    refine W.widen (k := 0) (n := 0) (Nat.le_of_ble_eq_true rfl) (Nat.le_of_ble_eq_true rfl) ?_
    exact W.zret (v := 0) hx hb hr rfl (fun t ht hW => ⟨⟨0, [], rfl, Or.inr (⟨by simp only [okCell]; simp only [fa_lt, fa_le, fa_eq, li0, li8] at *; omega, rfl, rfl⟩), by rw [ht]; exact hP9, va_K.moved hW.alike hK, hD9⟩, hS.F ht⟩) hS.2.2 dX1_isCell_25
  · refine lv_iload_n hx hb dX1_isCell_4 rfl (lv_at hl 0 rfl) ?_
    refine lv_bipush (v := 8) hx hb dX1_isCell_5 (by decide) ?_
    refine lv_icmp_ge (tgt := 24) hx hb dX1_isCell_7 (by decide) (fun c2 => ?_) (fun c2 => ?_)
    · refine lv_iconst (v := 0) hx hb dX1_isCell_24 (by decide) ?_
      have hP9 := hP.sub (ws' := []) [] rfl
      have hD9 := hD.sub (ws' := []) [] (by decide) rfl
      refine W.widen (k := 0) (n := 0) (Nat.le_of_ble_eq_true rfl) (Nat.le_of_ble_eq_true rfl) ?_
      exact W.zret (v := 0) hx hb hr rfl (fun t ht hW => ⟨⟨0, [], rfl, Or.inr (⟨by simp only [okCell]; simp only [fa_lt, fa_le, fa_eq, li0, li8] at *; omega, rfl, rfl⟩), by rw [ht]; exact hP9, va_K.moved hW.alike hK, hD9⟩, hS.F ht⟩) hS.2.2 dX1_isCell_25
    · refine lv_iload_n hx hb dX1_isCell_10 rfl (lv_at hl 1 rfl) ?_
      refine lv_if_lt (tgt := 24) hx hb dX1_isCell_11 (by decide) (fun c3 => ?_) (fun c3 => ?_)
      · refine lv_iconst (v := 0) hx hb dX1_isCell_24 (by decide) ?_
        have hP9 := hP.sub (ws' := []) [] rfl
        have hD9 := hD.sub (ws' := []) [] (by decide) rfl
        refine W.widen (k := 0) (n := 0) (Nat.le_of_ble_eq_true rfl) (Nat.le_of_ble_eq_true rfl) ?_
        exact W.zret (v := 0) hx hb hr rfl (fun t ht hW => ⟨⟨0, [], rfl, Or.inr (⟨by simp only [okCell]; simp only [fa_lt, fa_le, fa_eq, li0, li8] at *; omega, rfl, rfl⟩), by rw [ht]; exact hP9, va_K.moved hW.alike hK, hD9⟩, hS.F ht⟩) hS.2.2 dX1_isCell_25
      · refine lv_iload_n hx hb dX1_isCell_14 rfl (lv_at hl 1 rfl) ?_
        refine lv_bipush (v := 8) hx hb dX1_isCell_15 (by decide) ?_
        refine lv_icmp_ge (tgt := 24) hx hb dX1_isCell_17 (by decide) (fun c4 => ?_) (fun c4 => ?_)
        · refine lv_iconst (v := 0) hx hb dX1_isCell_24 (by decide) ?_
          have hP9 := hP.sub (ws' := []) [] rfl
          have hD9 := hD.sub (ws' := []) [] (by decide) rfl
          refine W.widen (k := 0) (n := 0) (Nat.le_of_ble_eq_true rfl) (Nat.le_of_ble_eq_true rfl) ?_
          exact W.zret (v := 0) hx hb hr rfl (fun t ht hW => ⟨⟨0, [], rfl, Or.inr (⟨by simp only [okCell]; simp only [fa_lt, fa_le, fa_eq, li0, li8] at *; omega, rfl, rfl⟩), by rw [ht]; exact hP9, va_K.moved hW.alike hK, hD9⟩, hS.F ht⟩) hS.2.2 dX1_isCell_25
        · refine lv_iconst (v := 1) hx hb dX1_isCell_20 (by decide) ?_
          refine lv_goto (tgt := 25) hx hb dX1_isCell_21 (by decide) ?_
          have hP9 := hP.sub (ws' := []) [] rfl
          have hD9 := hD.sub (ws' := []) [] (by decide) rfl
          refine W.widen (k := 0) (n := 0) (Nat.le_of_ble_eq_true rfl) (Nat.le_of_ble_eq_true rfl) ?_
          exact W.zret (v := 1) hx hb hr rfl (fun t ht hW => ⟨⟨1, [], rfl, Or.inl ⟨by simp only [okCell]; simp only [fa_lt, fa_le, fa_eq, li0, li8] at *; omega, rfl, rfl⟩, by rw [ht]; exact hP9, va_K.moved hW.alike hK, hD9⟩, hS.F ht⟩) hS.2.2 dX1_isCell_25
