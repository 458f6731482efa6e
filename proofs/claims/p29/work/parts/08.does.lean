abbrev cX11_does_ : ByteArray := prog_10_method_66_code
def yX11_does_ : MethodName := ⟨RX11, "does", "(LHeroTableModel$Call;[I)V"⟩
abbrev cX11_acts : ByteArray := prog_10_method_67_code
def yX11_acts : MethodName := ⟨RX11, "acts", "(C[I)V"⟩
def ZV (l : Launch) (y : MethodName) (w : List Cond) (rm : Room) (g : GP) (av : List Value) (ws : va_W) (k : Nat) (post : va_W → Prop) : Prop :=
  ∀ sz : Nat, Met l y w rm (va_Pc av (PRE g ws sz)) (va_Qv post (fun u t => POST g (va_A ws sz) u t ∧ sz + k ≤ t.heap.size) (va_A ws sz)) rm.cells rm.slots (va_A ws sz)
section QZ
variable {p : Program} {l : Launch} {e : Env} {R : Room} {s : State} {m : MethodId} {args : Array Value} {below : List Frame} {meth : Method} {c : Code} {H : Heap} {locs : List Loc} {cells slots mc ms : Nat} {Q : State → Prop} {g : GP} {A : Nat → Prop} {ws wc wr : va_W} {pc : Nat} {ls : Array Slot} {rest st0 : List Value} {a : Array Value}
theorem q_cvZ {post : va_W → Prop} {kz : Nat} (hr : va_Run p l e R s m args below meth c H locs cells slots mc ms (F0 m pc ls st0) rest (va_Qv post (fun u t => POST g (va_A wc H.size) u t ∧ H.size + kz ≤ t.heap.size) (va_A wc H.size) a) (va_A wc H.size)) (hP : va_P g.1 CLS ws H) (hD : va_D A ws) {H0 : Heap} (hS : va_S A H0 H locs) (hF : ∀ q, va_A wc H.size q → A q) (isC isR : List Nat) (hC : isC.map (fun i => ws[i]?) = wc.map some) (hR : isR.map (fun i => ws[i]?) = wr.map some) (hn : va_nd isR = true) (hdis : ∀ i ∈ isR, i ∉ isC)
    (kk : ∀ (u : va_W) (H1 : Heap) (locs1 : List Loc), H.size + kz ≤ H1.size → post u → va_P g.1 CLS (wr ++ u) H1 → va_D A (wr ++ u) → va_S A H0 H1 locs1 → W p l e R s m args below meth c H1 locs1 (cells + mc) (slots + ms) Q (F0 m (pc + 3) ls rest)) : W p l e R s m args below meth c H locs cells slots Q (F0 m pc ls st0) := by
  refine va_callv hr hS (fun q _ h => hF q h) hF (fun u t H1 locs1 ht hvm hw hB hz hk hS1 => ?_)
  obtain ⟨⟨hP1, hK1, hD1⟩, hZ⟩ := hB
  rw [ht] at hP1 hZ
  obtain ⟨hP2, hD2⟩ := va_join hP hD isC isR hC hR hn hdis hk hF hP1 hD1
  exact kk u H1 locs1 hZ hw hP2 hD2 hS1
end QZ
theorem k2109 : (Jvm.Cond.code ({ cls := "HeroTableModel", name := "endTurn", desc := "()I" } : Jvm.MethodName) prog_10_method_41_code (5 : Nat) (Option.some Jvm.ClassFile.FieldType.int)) ∈ G9 := g9 2109 (by decide +kernel) rfl
theorem k2265 : (Jvm.Cond.methodLink "HeroTableModel" (411 : Nat) ({ cls := "HeroTableModel", name := "endTurn", desc := "()I" } : Jvm.MethodName)) ∈ G9 := g9 2265 (by decide +kernel) rfl
theorem ok_X11_endTurn : okN yX11_endTurn 0 := by decide +kernel
theorem k2107 : (Jvm.Cond.instanceMethod ({ cls := "HeroTableModel", name := "endTurn", desc := "()I" } : Jvm.MethodName)) ∈ G9 := g9 2107 (by decide +kernel) rfl
theorem k2108 : (Jvm.Cond.selects "HeroTableModel" ({ cls := "HeroTableModel", name := "endTurn", desc := "()I" } : Jvm.MethodName) ({ cls := "HeroTableModel", name := "endTurn", desc := "()I" } : Jvm.MethodName)) ∈ G9 := g9 2108 (by decide +kernel) rfl
theorem k2263 : (Jvm.Cond.code ({ cls := "HeroTableModel", name := "acts", desc := "(C[I)V" } : Jvm.MethodName) prog_10_method_67_code (3 : Nat) (Option.none : Option Jvm.ClassFile.FieldType)) ∈ G9 := g9 2263 (by decide +kernel) rfl
theorem k2260 : (Jvm.Cond.methodLink "HeroTableModel" (405 : Nat) ({ cls := "HeroTableModel", name := "acts", desc := "(C[I)V" } : Jvm.MethodName)) ∈ G9 := g9 2260 (by decide +kernel) rfl
theorem ok_X11_acts : okN yX11_acts 2 := by decide +kernel
theorem k2262 : (Jvm.Cond.instanceMethod ({ cls := "HeroTableModel", name := "acts", desc := "(C[I)V" } : Jvm.MethodName)) ∈ G9 := g9 2262 (by decide +kernel) rfl
theorem k48 : (Jvm.Cond.selects "HeroTableModel" ({ cls := "HeroTableModel", name := "acts", desc := "(C[I)V" } : Jvm.MethodName) ({ cls := "HeroTableModel", name := "acts", desc := "(C[I)V" } : Jvm.MethodName)) ∈ G9 := g9 48 (by decide +kernel) rfl
theorem dX11_acts_0 : decode cX11_acts 0 = .ok (.iload_n 1, 1) := by decide +kernel
theorem dX11_acts_1 : decode cX11_acts 1 = .ok (.tableswitch 188 97 121 #[139, 115, 188, 188, 123, 188, 188, 188, 188, 188, 188, 188, 188, 188, 188, 188, 188, 131, 150, 164, 188, 188, 188, 188, 172], 115) := by decide +kernel
theorem dX11_acts_124 : decode cX11_acts 124 = .ok (.aload_n 0, 1) := by decide +kernel
theorem dX11_acts_125 : decode cX11_acts 125 = .ok (.invokevirtual 411, 3) := by decide +kernel
theorem dX11_acts_128 : decode cX11_acts 128 = .ok (.pop, 1) := by decide +kernel
theorem dX11_acts_129 : decode cX11_acts 129 = .ok (.goto 75, 3) := by decide +kernel
theorem dX11_acts_204 : decode cX11_acts 204 = .ok (.return_, 1) := by decide +kernel
theorem dX11_does__0 : decode cX11_does_ 0 = .ok (.aload_n 1, 1) := by decide +kernel
theorem dX11_does__1 : decode cX11_does_ 1 = .ok (.getfield 366, 3) := by decide +kernel
theorem dX11_does__4 : decode cX11_does_ 4 = .ok (.tableswitch 280 65 83 #[207, 133, 280, 269, 231, 280, 115, 92, 242, 280, 280, 165, 280, 280, 280, 151, 280, 280, 179], 92) := by decide +kernel
theorem dX11_does__284 : decode cX11_does_ 284 = .ok (.aload_n 0, 1) := by decide +kernel
theorem dX11_does__285 : decode cX11_does_ 285 = .ok (.aload_n 1, 1) := by decide +kernel
theorem dX11_does__286 : decode cX11_does_ 286 = .ok (.getfield 366, 3) := by decide +kernel
theorem dX11_does__289 : decode cX11_does_ 289 = .ok (.aload_n 2, 1) := by decide +kernel
theorem dX11_does__290 : decode cX11_does_ 290 = .ok (.invokevirtual 405, 3) := by decide +kernel
theorem dX11_does__293 : decode cX11_does_ 293 = .ok (.return_, 1) := by decide +kernel
set_option maxHeartbeats 4000000 in
set_option maxRecDepth 100000 in
theorem c_acts_e (l : Launch) (hfl : l.stackTraces = false) (g : GP) (mh : Nat) (mg : Nat) (mc : Nat) (n1 : Int32) (n2 : Int32) (n3 : Int32) (n4 : Int64) (n5 : Int32) (n6 : Int32) (n7 : Int32) (h1 : Int32) (h2 : Int32) (h3 : Int32) (h4 : Int32) (h5 : Int32) (h6 : Int32) (h7 : Int32) (h8 : Int32) (h9 : Int32) (h10 : Int32) (h11 : Int32) (h12 : Int32) (mca : Nat) (k1 : Nat) (nc : Nat) (c0 : Int32) (fc : Nat → Option Nat) (zn : Nat) (hkc : k1 < nc) (hnc : nc < 2 ^ 31) : ZV l yX11_acts (wG yX11_acts cX11_acts 3 (Option.none : Option Jvm.ClassFile.FieldType)) (LV 9 (5 + 2 * g.2.2 2010) (13 + 7 * g.2.2 2010)) g [.ref (g.2.2 2000), .int 101, .ref zn] ([((g.2.2 2000), .inr (5, [.ref mh, .ref mg, .ref (g.2.2 2002), .ref (g.2.2 2005), .ref mc, .ref (g.2.2 2006), .int 0, .int n1, .int n2, .int n3, .long n4, .int n5, .int n6, .int n7])), ((g.2.2 2001), .inr (3, [.int 0, .int h1, .int h2, .int h3, .ref (g.2.2 2004), .int h4, .int h5, .int h6, .int h7, .int h8, .int h9, .int h10, .int h11, .int h12])), (mc, .inr (1, [.int c0, .ref mca, .int (nI k1)])), (mca, .inl (g.2.1 5, nc, .inr (.inr (.inr (.inr fc)))))]) (2 * (g.2.2 2010) + 3) (fun (u : va_W) => ∃ (n9 : Int32) (c9 : Int32) (f2 : Nat → Option Nat), u = [((g.2.2 2000), .inr (5, [.ref mh, .ref mg, .ref (g.2.2 2002), .ref (g.2.2 2005), .ref mc, .ref (g.2.2 2006), .int 0, .int n9, .int 4, .int 1, .long n4, .int n5, .int n6, .int 0])), ((g.2.2 2001), .inr (3, [.int 0, .int h1, .int h2, .int h3, .ref (g.2.2 2004), .int h4, .int h5, .int h6, .int h7, .int h8, .int h9, .int 1, .int 32, .int h12])), (mc, .inr (1, [.int c9, .ref mca, .int (nI (k1 + 1))])), (mca, .inl (g.2.1 5, nc, .inr (.inr (.inr (.inr f2)))))]) := by
  intro sz
  refine Met.ofW (cc := cX11_acts) (maxL := 3) (ret := (Option.none : Option Jvm.ClassFile.FieldType)) (by decide) rfl ?_
  intro p e s m args below meth c s₁ B hml hv
  obtain ⟨rfl, hsz, hP, hK, hD0, hT0⟩ := hv
  have hx := B.exec
  have hb := B.bytes
  have hr := B.returns
  have hts := atoms_spec (ws := (wG yX11_acts cX11_acts 3 (Option.none : Option Jvm.ClassFile.FieldType))) B.pre
  have htg : ∀ w ∈ G9, w.before _ s = true := fun w h => hts w (List.mem_cons_of_mem _ h)
  have hown : s.vm.findClass "HeroTableModel" = some m.cls := findClass_of_methodNamed B.named
  have hlocks := B.notSynchronized
  subst hsz
  have hD := hD0.self (sz := s.heap.size)
  have hT := hT0
  clear hT0
  generalize hAe : va_A [((g.2.2 2000), .inr (5, [.ref mh, .ref mg, .ref (g.2.2 2002), .ref (g.2.2 2005), .ref mc, .ref (g.2.2 2006), .int 0, .int n1, .int n2, .int n3, .long n4, .int n5, .int n6, .int n7])), ((g.2.2 2001), .inr (3, [.int 0, .int h1, .int h2, .int h3, .ref (g.2.2 2004), .int h4, .int h5, .int h6, .int h7, .int h8, .int h9, .int h10, .int h11, .int h12])), (mc, .inr (1, [.int c0, .ref mca, .int (nI k1)])), (mca, .inl (g.2.1 5, nc, .inr (.inr (.inr (.inr fc)))))] s.heap.size = A at hD hT ⊢
  have hA : ∀ q : Nat, s.heap.size ≤ q → A q := fun q h => by rw [← hAe]; exact Or.inr h
  obtain ⟨H, hH0⟩ : ∃ H, H = s.heap := ⟨_, rfl⟩
  have hS : va_S A s.heap H [] := by rw [hH0]; exact va_S.rf
  have hP : va_P g.1 CLS [((g.2.2 2000), .inr (5, [.ref mh, .ref mg, .ref (g.2.2 2002), .ref (g.2.2 2005), .ref mc, .ref (g.2.2 2006), .int 0, .int n1, .int n2, .int n3, .long n4, .int n5, .int n6, .int n7])), ((g.2.2 2001), .inr (3, [.int 0, .int h1, .int h2, .int h3, .ref (g.2.2 2004), .int h4, .int h5, .int h6, .int h7, .int h8, .int h9, .int h10, .int h11, .int h12])), (mc, .inr (1, [.int c0, .ref mca, .int (nI k1)])), (mca, .inl (g.2.1 5, nc, .inr (.inr (.inr (.inr fc)))))] H := by rw [hH0]; exact hP
  rw [← hH0]
  have hl := lv_entry ([.ref (g.2.2 2000), .int 101, .ref zn]) (n := 3) (Nat.le_of_ble_eq_true rfl)
  rw [lg_entry_eq]
  generalize (lg_sl ([.ref (g.2.2 2000), .int 101, .ref zn]) ++ List.replicate (3 - (lg_sl ([.ref (g.2.2 2000), .int 101, .ref zn])).length) Slot.unset).toArray = ls at hl ⊢
  have hl : lv_has ls 3 [(0, .ref (g.2.2 2000)), (1, .int 101), (2, .ref zn)] := hl
  refine lv_iload_n hx hb dX11_acts_0 rfl (lv_at hl 1 rfl) ?_
  refine lv_tableIn (off := 123) (tgt := 124) hx hb dX11_acts_1 (by decide) (by decide) (by decide) (by decide) ?_
  refine lv_aload_n hx hb dX11_acts_124 rfl (lv_at hl 0 rfl) ?_
  have hPc := hP.sub (ws' := [((g.2.2 2000), .inr (5, [.ref mh, .ref mg, .ref (g.2.2 2002), .ref (g.2.2 2005), .ref mc, .ref (g.2.2 2006), .int 0, .int n1, .int n2, .int n3, .long n4, .int n5, .int n6, .int n7])), ((g.2.2 2001), .inr (3, [.int 0, .int h1, .int h2, .int h3, .ref (g.2.2 2004), .int h4, .int h5, .int h6, .int h7, .int h8, .int h9, .int h10, .int h11, .int h12])), (mc, .inr (1, [.int c0, .ref mca, .int (nI k1)])), (mca, .inl (g.2.1 5, nc, .inr (.inr (.inr (.inr fc)))))]) [0, 1, 2, 3] rfl
  have hDc := hD.sub (ws' := [((g.2.2 2000), .inr (5, [.ref mh, .ref mg, .ref (g.2.2 2002), .ref (g.2.2 2005), .ref mc, .ref (g.2.2 2006), .int 0, .int n1, .int n2, .int n3, .long n4, .int n5, .int n6, .int n7])), ((g.2.2 2001), .inr (3, [.int 0, .int h1, .int h2, .int h3, .ref (g.2.2 2004), .int h4, .int h5, .int h6, .int h7, .int h8, .int h9, .int h10, .int h11, .int h12])), (mc, .inr (1, [.int c0, .ref mca, .int (nI k1)])), (mca, .inl (g.2.1 5, nc, .inr (.inr (.inr (.inr fc)))))]) [0, 1, 2, 3] (by decide) rfl
  have hFc := va_free (wc := [((g.2.2 2000), .inr (5, [.ref mh, .ref mg, .ref (g.2.2 2002), .ref (g.2.2 2005), .ref mc, .ref (g.2.2 2006), .int 0, .int n1, .int n2, .int n3, .long n4, .int n5, .int n6, .int n7])), ((g.2.2 2001), .inr (3, [.int 0, .int h1, .int h2, .int h3, .ref (g.2.2 2004), .int h4, .int h5, .int h6, .int h7, .int h8, .int h9, .int h10, .int h11, .int h12])), (mc, .inr (1, [.int c0, .ref mca, .int (nI k1)])), (mca, .inl (g.2.1 5, nc, .inr (.inr (.inr (.inr fc)))))]) hD hS hA [0, 1, 2, 3] rfl
  have hz0 := hS.1
  refine q_ciZ (wr := []) (va_runV (As := []) (rest := []) ⟨hx, hb, hml, hown, htg⟩ (c_endTurn l hfl g mh mg mc n1 n2 n3 n4 n5 n6 n7 h1 h2 h3 h4 h5 h6 h7 h8 h9 h10 h11 h12 mca k1 nc c0 fc (hkc) (hnc) H.size) ⟨(qB htg k2109 k57 k2265 ok_X11_endTurn rfl rfl ⟨by (first | exact Nat.le_of_ble_eq_true rfl | omega | (simp only [LV, Jvm.D.headSpec]; omega)), by (first | exact Nat.le_of_ble_eq_true rfl | omega | (simp only [LV, Jvm.D.headSpec]; omega))⟩), htg _ k2107, htg _ k2108⟩ ⟨(q_pre [.ref (g.2.2 2000)] hPc hDc hK hS hT hFc).1, va_recv hK hP (ci := 5) (q0 := 0) rfl rfl, (q_pre [.ref (g.2.2 2000)] hPc hDc hK hS hT hFc).2⟩ rfl rfl hl.1 rfl (lv_room (by (first | exact Nat.le_of_ble_eq_true rfl | omega | (simp only [LV, Jvm.D.headSpec]; omega)))) dX11_acts_125 ⟨by (first | exact Nat.le_of_ble_eq_true rfl | omega | (simp only [LV, Jvm.D.headSpec]; omega)), by (first | exact Nat.le_of_ble_eq_true rfl | omega | (simp only [LV, Jvm.D.headSpec]; omega))⟩) hP hD hS hFc [0, 1, 2, 3] [] rfl rfl (by decide) (by decide) (fun r9 u9 H locs hZ hw hP hD hS => ?_)
  have hz := Nat.le_trans (Nat.add_le_add_right hz0 (2 * (g.2.2 2010) + 3)) hZ
  try dsimp only at hw
  rcases hw with ⟨v_1, v_2, f_3, rfl, rfl⟩
  have hP : va_P g.1 CLS [((g.2.2 2000), .inr (5, [.ref mh, .ref mg, .ref (g.2.2 2002), .ref (g.2.2 2005), .ref mc, .ref (g.2.2 2006), .int 0, .int v_1, .int 4, .int 1, .long n4, .int n5, .int n6, .int 0])), ((g.2.2 2001), .inr (3, [.int 0, .int h1, .int h2, .int h3, .ref (g.2.2 2004), .int h4, .int h5, .int h6, .int h7, .int h8, .int h9, .int 1, .int 32, .int h12])), (mc, .inr (1, [.int v_2, .ref mca, .int (nI (k1 + 1))])), (mca, .inl (g.2.1 5, nc, .inr (.inr (.inr (.inr f_3)))))] H := hP
  have hD : va_D A [((g.2.2 2000), .inr (5, [.ref mh, .ref mg, .ref (g.2.2 2002), .ref (g.2.2 2005), .ref mc, .ref (g.2.2 2006), .int 0, .int v_1, .int 4, .int 1, .long n4, .int n5, .int n6, .int 0])), ((g.2.2 2001), .inr (3, [.int 0, .int h1, .int h2, .int h3, .ref (g.2.2 2004), .int h4, .int h5, .int h6, .int h7, .int h8, .int h9, .int 1, .int 32, .int h12])), (mc, .inr (1, [.int v_2, .ref mca, .int (nI (k1 + 1))])), (mca, .inl (g.2.1 5, nc, .inr (.inr (.inr (.inr f_3)))))] := hD
  refine W.widen (k := (5 + 2 * g.2.2 2010)) (n := (13 + 7 * g.2.2 2010)) (by (first | exact Nat.le_of_ble_eq_true rfl | omega | (simp only [LV, Jvm.D.headSpec]; omega))) (by (first | exact Nat.le_of_ble_eq_true rfl | omega | (simp only [LV, Jvm.D.headSpec]; omega))) ?_
  refine lv_pop hx hb dX11_acts_128 rfl ?_
  refine lv_goto (tgt := 204) hx hb dX11_acts_129 (by decide) ?_
  have hP9 := hP.sub (ws' := [((g.2.2 2000), .inr (5, [.ref mh, .ref mg, .ref (g.2.2 2002), .ref (g.2.2 2005), .ref mc, .ref (g.2.2 2006), .int 0, .int v_1, .int 4, .int 1, .long n4, .int n5, .int n6, .int 0])), ((g.2.2 2001), .inr (3, [.int 0, .int h1, .int h2, .int h3, .ref (g.2.2 2004), .int h4, .int h5, .int h6, .int h7, .int h8, .int h9, .int 1, .int 32, .int h12])), (mc, .inr (1, [.int v_2, .ref mca, .int (nI (k1 + 1))])), (mca, .inl (g.2.1 5, nc, .inr (.inr (.inr (.inr f_3)))))]) [0, 1, 2, 3] rfl
  have hD9 := hD.sub (ws' := [((g.2.2 2000), .inr (5, [.ref mh, .ref mg, .ref (g.2.2 2002), .ref (g.2.2 2005), .ref mc, .ref (g.2.2 2006), .int 0, .int v_1, .int 4, .int 1, .long n4, .int n5, .int n6, .int 0])), ((g.2.2 2001), .inr (3, [.int 0, .int h1, .int h2, .int h3, .ref (g.2.2 2004), .int h4, .int h5, .int h6, .int h7, .int h8, .int h9, .int 1, .int 32, .int h12])), (mc, .inr (1, [.int v_2, .ref mca, .int (nI (k1 + 1))])), (mca, .inl (g.2.1 5, nc, .inr (.inr (.inr (.inr f_3)))))]) [0, 1, 2, 3] (by decide) rfl
  refine W.widen (k := (5 + 2 * g.2.2 2010)) (n := (13 + 7 * g.2.2 2010)) (by (first | exact Nat.le_of_ble_eq_true rfl | omega | (simp only [LV, Jvm.D.headSpec]; omega))) (by (first | exact Nat.le_of_ble_eq_true rfl | omega | (simp only [LV, Jvm.D.headSpec]; omega))) ?_
  exact W.vret hx hb hr (fun t ht hW => ⟨⟨[((g.2.2 2000), .inr (5, [.ref mh, .ref mg, .ref (g.2.2 2002), .ref (g.2.2 2005), .ref mc, .ref (g.2.2 2006), .int 0, .int v_1, .int 4, .int 1, .long n4, .int n5, .int n6, .int 0])), ((g.2.2 2001), .inr (3, [.int 0, .int h1, .int h2, .int h3, .ref (g.2.2 2004), .int h4, .int h5, .int h6, .int h7, .int h8, .int h9, .int 1, .int 32, .int h12])), (mc, .inr (1, [.int v_2, .ref mca, .int (nI (k1 + 1))])), (mca, .inl (g.2.1 5, nc, .inr (.inr (.inr (.inr f_3)))))], rfl, ⟨v_1, v_2, f_3, rfl⟩, ⟨by rw [ht]; exact hP9, va_K.moved hW.alike hK, hD9⟩, by rw [ht, hH0]; exact hz⟩, hS.F ht⟩) hS.2.2 dX11_acts_204

set_option maxHeartbeats 4000000 in
set_option maxRecDepth 100000 in
theorem c_does_e (l : Launch) (hfl : l.stackTraces = false) (g : GP) (mh : Nat) (mg : Nat) (mc : Nat) (n1 : Int32) (n2 : Int32) (n3 : Int32) (n4 : Int64) (n5 : Int32) (n6 : Int32) (n7 : Int32) (h1 : Int32) (h2 : Int32) (h3 : Int32) (h4 : Int32) (h5 : Int32) (h6 : Int32) (h7 : Int32) (h8 : Int32) (h9 : Int32) (h10 : Int32) (h11 : Int32) (h12 : Int32) (mca : Nat) (k1 : Nat) (nc : Nat) (c0 : Int32) (fc : Nat → Option Nat) (zc : Nat) (zm : Nat) (zn : Nat) (hkc : k1 < nc) (hnc : nc < 2 ^ 31) : ZV l yX11_does_ (wG yX11_does_ cX11_does_ 3 (Option.none : Option Jvm.ClassFile.FieldType)) (LV 10 (5 + 2 * g.2.2 2010) (13 + 7 * g.2.2 2010)) g [.ref (g.2.2 2000), .ref zc, .ref zn] ([((g.2.2 2000), .inr (5, [.ref mh, .ref mg, .ref (g.2.2 2002), .ref (g.2.2 2005), .ref mc, .ref (g.2.2 2006), .int 0, .int n1, .int n2, .int n3, .long n4, .int n5, .int n6, .int n7])), ((g.2.2 2001), .inr (3, [.int 0, .int h1, .int h2, .int h3, .ref (g.2.2 2004), .int h4, .int h5, .int h6, .int h7, .int h8, .int h9, .int h10, .int h11, .int h12])), (mc, .inr (1, [.int c0, .ref mca, .int (nI k1)])), (mca, .inl (g.2.1 5, nc, .inr (.inr (.inr (.inr fc))))), (zc, .inr (2, [.int 101, .ref zm]))]) (2 * (g.2.2 2010) + 3) (fun (u : va_W) => ∃ (n9 : Int32) (c9 : Int32) (f2 : Nat → Option Nat), u = [((g.2.2 2000), .inr (5, [.ref mh, .ref mg, .ref (g.2.2 2002), .ref (g.2.2 2005), .ref mc, .ref (g.2.2 2006), .int 0, .int n9, .int 4, .int 1, .long n4, .int n5, .int n6, .int 0])), ((g.2.2 2001), .inr (3, [.int 0, .int h1, .int h2, .int h3, .ref (g.2.2 2004), .int h4, .int h5, .int h6, .int h7, .int h8, .int h9, .int 1, .int 32, .int h12])), (mc, .inr (1, [.int c9, .ref mca, .int (nI (k1 + 1))])), (mca, .inl (g.2.1 5, nc, .inr (.inr (.inr (.inr f2))))), (zc, .inr (2, [.int 101, .ref zm]))]) := by
  intro sz
  refine Met.ofW (cc := cX11_does_) (maxL := 3) (ret := (Option.none : Option Jvm.ClassFile.FieldType)) (by decide) rfl ?_
  intro p e s m args below meth c s₁ B hml hv
  obtain ⟨rfl, hsz, hP, hK, hD0, hT0⟩ := hv
  have hx := B.exec
  have hb := B.bytes
  have hr := B.returns
  have hts := atoms_spec (ws := (wG yX11_does_ cX11_does_ 3 (Option.none : Option Jvm.ClassFile.FieldType))) B.pre
  have htg : ∀ w ∈ G9, w.before _ s = true := fun w h => hts w (List.mem_cons_of_mem _ h)
  have hown : s.vm.findClass "HeroTableModel" = some m.cls := findClass_of_methodNamed B.named
  have hlocks := B.notSynchronized
  subst hsz
  have hD := hD0.self (sz := s.heap.size)
  have hT := hT0
  clear hT0
  generalize hAe : va_A [((g.2.2 2000), .inr (5, [.ref mh, .ref mg, .ref (g.2.2 2002), .ref (g.2.2 2005), .ref mc, .ref (g.2.2 2006), .int 0, .int n1, .int n2, .int n3, .long n4, .int n5, .int n6, .int n7])), ((g.2.2 2001), .inr (3, [.int 0, .int h1, .int h2, .int h3, .ref (g.2.2 2004), .int h4, .int h5, .int h6, .int h7, .int h8, .int h9, .int h10, .int h11, .int h12])), (mc, .inr (1, [.int c0, .ref mca, .int (nI k1)])), (mca, .inl (g.2.1 5, nc, .inr (.inr (.inr (.inr fc))))), (zc, .inr (2, [.int 101, .ref zm]))] s.heap.size = A at hD hT ⊢
  have hA : ∀ q : Nat, s.heap.size ≤ q → A q := fun q h => by rw [← hAe]; exact Or.inr h
  obtain ⟨H, hH0⟩ : ∃ H, H = s.heap := ⟨_, rfl⟩
  have hS : va_S A s.heap H [] := by rw [hH0]; exact va_S.rf
  have hP : va_P g.1 CLS [((g.2.2 2000), .inr (5, [.ref mh, .ref mg, .ref (g.2.2 2002), .ref (g.2.2 2005), .ref mc, .ref (g.2.2 2006), .int 0, .int n1, .int n2, .int n3, .long n4, .int n5, .int n6, .int n7])), ((g.2.2 2001), .inr (3, [.int 0, .int h1, .int h2, .int h3, .ref (g.2.2 2004), .int h4, .int h5, .int h6, .int h7, .int h8, .int h9, .int h10, .int h11, .int h12])), (mc, .inr (1, [.int c0, .ref mca, .int (nI k1)])), (mca, .inl (g.2.1 5, nc, .inr (.inr (.inr (.inr fc))))), (zc, .inr (2, [.int 101, .ref zm]))] H := by rw [hH0]; exact hP
  rw [← hH0]
  have hl := lv_entry ([.ref (g.2.2 2000), .ref zc, .ref zn]) (n := 3) (Nat.le_of_ble_eq_true rfl)
  rw [lg_entry_eq]
  generalize (lg_sl ([.ref (g.2.2 2000), .ref zc, .ref zn]) ++ List.replicate (3 - (lg_sl ([.ref (g.2.2 2000), .ref zc, .ref zn])).length) Slot.unset).toArray = ls at hl ⊢
  have hl : lv_has ls 3 [(0, .ref (g.2.2 2000)), (1, .ref zc), (2, .ref zn)] := hl
  refine lv_aload_n hx hb dX11_does__0 rfl (lv_at hl 1 rfl) ?_
  refine va_getN (D := g.1) (ci := 2) (v := .int 101) (C := RX8) (T := TX8) (N := 2) hx hb htg inG_X8 hown hK hP 4 rfl rfl 0 (by decide) (va_Nw.use rfl (hT.1.1 _ (List.mem_of_getElem? (i := 1) rfl))) (fun _ h9 => h9) rfl dX11_does__1 ?_
  refine lv_tableOut (tgt := 284) hx hb dX11_does__4 (by decide) (by decide) ?_
  refine lv_aload_n hx hb dX11_does__284 rfl (lv_at hl 0 rfl) ?_
  refine lv_aload_n hx hb dX11_does__285 rfl (lv_at hl 1 rfl) ?_
  refine va_getN (D := g.1) (ci := 2) (v := .int 101) (C := RX8) (T := TX8) (N := 2) hx hb htg inG_X8 hown hK hP 4 rfl rfl 0 (by decide) (va_Nw.use rfl (hT.1.1 _ (List.mem_of_getElem? (i := 1) rfl))) (fun _ h9 => h9) rfl dX11_does__286 ?_
  refine lv_aload_n hx hb dX11_does__289 rfl (lv_at hl 2 rfl) ?_
  have hPc := hP.sub (ws' := [((g.2.2 2000), .inr (5, [.ref mh, .ref mg, .ref (g.2.2 2002), .ref (g.2.2 2005), .ref mc, .ref (g.2.2 2006), .int 0, .int n1, .int n2, .int n3, .long n4, .int n5, .int n6, .int n7])), ((g.2.2 2001), .inr (3, [.int 0, .int h1, .int h2, .int h3, .ref (g.2.2 2004), .int h4, .int h5, .int h6, .int h7, .int h8, .int h9, .int h10, .int h11, .int h12])), (mc, .inr (1, [.int c0, .ref mca, .int (nI k1)])), (mca, .inl (g.2.1 5, nc, .inr (.inr (.inr (.inr fc)))))]) [0, 1, 2, 3] rfl
  have hDc := hD.sub (ws' := [((g.2.2 2000), .inr (5, [.ref mh, .ref mg, .ref (g.2.2 2002), .ref (g.2.2 2005), .ref mc, .ref (g.2.2 2006), .int 0, .int n1, .int n2, .int n3, .long n4, .int n5, .int n6, .int n7])), ((g.2.2 2001), .inr (3, [.int 0, .int h1, .int h2, .int h3, .ref (g.2.2 2004), .int h4, .int h5, .int h6, .int h7, .int h8, .int h9, .int h10, .int h11, .int h12])), (mc, .inr (1, [.int c0, .ref mca, .int (nI k1)])), (mca, .inl (g.2.1 5, nc, .inr (.inr (.inr (.inr fc)))))]) [0, 1, 2, 3] (by decide) rfl
  have hFc := va_free (wc := [((g.2.2 2000), .inr (5, [.ref mh, .ref mg, .ref (g.2.2 2002), .ref (g.2.2 2005), .ref mc, .ref (g.2.2 2006), .int 0, .int n1, .int n2, .int n3, .long n4, .int n5, .int n6, .int n7])), ((g.2.2 2001), .inr (3, [.int 0, .int h1, .int h2, .int h3, .ref (g.2.2 2004), .int h4, .int h5, .int h6, .int h7, .int h8, .int h9, .int h10, .int h11, .int h12])), (mc, .inr (1, [.int c0, .ref mca, .int (nI k1)])), (mca, .inl (g.2.1 5, nc, .inr (.inr (.inr (.inr fc)))))]) hD hS hA [0, 1, 2, 3] rfl
  have hz0 := hS.1
  refine q_cvZ (wr := [(zc, .inr (2, [.int 101, .ref zm]))]) (va_runV (As := [.int 101, .ref zn]) (rest := []) ⟨hx, hb, hml, hown, htg⟩ (c_acts_e l hfl g mh mg mc n1 n2 n3 n4 n5 n6 n7 h1 h2 h3 h4 h5 h6 h7 h8 h9 h10 h11 h12 mca k1 nc c0 fc zn (hkc) (hnc) H.size) ⟨(qB htg k2263 k57 k2260 ok_X11_acts rfl rfl ⟨by (first | exact Nat.le_of_ble_eq_true rfl | omega | (simp only [LV, Jvm.D.headSpec]; omega)), by (first | exact Nat.le_of_ble_eq_true rfl | omega | (simp only [LV, Jvm.D.headSpec]; omega))⟩), htg _ k2262, htg _ k48⟩ ⟨(q_pre [.ref (g.2.2 2000), .int 101, .ref zn] hPc hDc hK hS hT hFc).1, va_recv hK hP (ci := 5) (q0 := 0) rfl rfl, (q_pre [.ref (g.2.2 2000), .int 101, .ref zn] hPc hDc hK hS hT hFc).2⟩ rfl rfl hl.1 rfl (lv_room (by (first | exact Nat.le_of_ble_eq_true rfl | omega | (simp only [LV, Jvm.D.headSpec]; omega)))) dX11_does__290 ⟨by (first | exact Nat.le_of_ble_eq_true rfl | omega | (simp only [LV, Jvm.D.headSpec]; omega)), by (first | exact Nat.le_of_ble_eq_true rfl | omega | (simp only [LV, Jvm.D.headSpec]; omega))⟩) hP hD hS hFc [0, 1, 2, 3] [4] rfl rfl (by decide) (by decide) (fun u9 H locs hZ hw hP hD hS => ?_)
  have hz := Nat.le_trans (Nat.add_le_add_right hz0 (2 * (g.2.2 2010) + 3)) hZ
  try dsimp only at hw
  rcases hw with ⟨v_1, v_2, f_3, rfl⟩
  have hP : va_P g.1 CLS [(zc, .inr (2, [.int 101, .ref zm])), ((g.2.2 2000), .inr (5, [.ref mh, .ref mg, .ref (g.2.2 2002), .ref (g.2.2 2005), .ref mc, .ref (g.2.2 2006), .int 0, .int v_1, .int 4, .int 1, .long n4, .int n5, .int n6, .int 0])), ((g.2.2 2001), .inr (3, [.int 0, .int h1, .int h2, .int h3, .ref (g.2.2 2004), .int h4, .int h5, .int h6, .int h7, .int h8, .int h9, .int 1, .int 32, .int h12])), (mc, .inr (1, [.int v_2, .ref mca, .int (nI (k1 + 1))])), (mca, .inl (g.2.1 5, nc, .inr (.inr (.inr (.inr f_3)))))] H := hP
  have hD : va_D A [(zc, .inr (2, [.int 101, .ref zm])), ((g.2.2 2000), .inr (5, [.ref mh, .ref mg, .ref (g.2.2 2002), .ref (g.2.2 2005), .ref mc, .ref (g.2.2 2006), .int 0, .int v_1, .int 4, .int 1, .long n4, .int n5, .int n6, .int 0])), ((g.2.2 2001), .inr (3, [.int 0, .int h1, .int h2, .int h3, .ref (g.2.2 2004), .int h4, .int h5, .int h6, .int h7, .int h8, .int h9, .int 1, .int 32, .int h12])), (mc, .inr (1, [.int v_2, .ref mca, .int (nI (k1 + 1))])), (mca, .inl (g.2.1 5, nc, .inr (.inr (.inr (.inr f_3)))))] := hD
  refine W.widen (k := (5 + 2 * g.2.2 2010)) (n := (13 + 7 * g.2.2 2010)) (by (first | exact Nat.le_of_ble_eq_true rfl | omega | (simp only [LV, Jvm.D.headSpec]; omega))) (by (first | exact Nat.le_of_ble_eq_true rfl | omega | (simp only [LV, Jvm.D.headSpec]; omega))) ?_
  have hP9 := hP.sub (ws' := [((g.2.2 2000), .inr (5, [.ref mh, .ref mg, .ref (g.2.2 2002), .ref (g.2.2 2005), .ref mc, .ref (g.2.2 2006), .int 0, .int v_1, .int 4, .int 1, .long n4, .int n5, .int n6, .int 0])), ((g.2.2 2001), .inr (3, [.int 0, .int h1, .int h2, .int h3, .ref (g.2.2 2004), .int h4, .int h5, .int h6, .int h7, .int h8, .int h9, .int 1, .int 32, .int h12])), (mc, .inr (1, [.int v_2, .ref mca, .int (nI (k1 + 1))])), (mca, .inl (g.2.1 5, nc, .inr (.inr (.inr (.inr f_3))))), (zc, .inr (2, [.int 101, .ref zm]))]) [1, 2, 3, 4, 0] rfl
  have hD9 := hD.sub (ws' := [((g.2.2 2000), .inr (5, [.ref mh, .ref mg, .ref (g.2.2 2002), .ref (g.2.2 2005), .ref mc, .ref (g.2.2 2006), .int 0, .int v_1, .int 4, .int 1, .long n4, .int n5, .int n6, .int 0])), ((g.2.2 2001), .inr (3, [.int 0, .int h1, .int h2, .int h3, .ref (g.2.2 2004), .int h4, .int h5, .int h6, .int h7, .int h8, .int h9, .int 1, .int 32, .int h12])), (mc, .inr (1, [.int v_2, .ref mca, .int (nI (k1 + 1))])), (mca, .inl (g.2.1 5, nc, .inr (.inr (.inr (.inr f_3))))), (zc, .inr (2, [.int 101, .ref zm]))]) [1, 2, 3, 4, 0] (by decide) rfl
  refine W.widen (k := (5 + 2 * g.2.2 2010)) (n := (13 + 7 * g.2.2 2010)) (by (first | exact Nat.le_of_ble_eq_true rfl | omega | (simp only [LV, Jvm.D.headSpec]; omega))) (by (first | exact Nat.le_of_ble_eq_true rfl | omega | (simp only [LV, Jvm.D.headSpec]; omega))) ?_
  exact W.vret hx hb hr (fun t ht hW => ⟨⟨[((g.2.2 2000), .inr (5, [.ref mh, .ref mg, .ref (g.2.2 2002), .ref (g.2.2 2005), .ref mc, .ref (g.2.2 2006), .int 0, .int v_1, .int 4, .int 1, .long n4, .int n5, .int n6, .int 0])), ((g.2.2 2001), .inr (3, [.int 0, .int h1, .int h2, .int h3, .ref (g.2.2 2004), .int h4, .int h5, .int h6, .int h7, .int h8, .int h9, .int 1, .int 32, .int h12])), (mc, .inr (1, [.int v_2, .ref mca, .int (nI (k1 + 1))])), (mca, .inl (g.2.1 5, nc, .inr (.inr (.inr (.inr f_3))))), (zc, .inr (2, [.int 101, .ref zm]))], rfl, ⟨v_1, v_2, f_3, rfl⟩, ⟨by rw [ht]; exact hP9, va_K.moved hW.alike hK, hD9⟩, by rw [ht, hH0]; exact hz⟩, hS.F ht⟩) hS.2.2 dX11_does__293
