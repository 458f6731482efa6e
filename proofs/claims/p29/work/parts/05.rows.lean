theorem li0 : (0 : Int32).toInt = 0 := rfl
theorem li1 : (1 : Int32).toInt = 1 := rfl
theorem li5 : (5 : Int32).toInt = 5 := rfl
theorem li7 : (7 : Int32).toInt = 7 := rfl
theorem li8 : (8 : Int32).toInt = 8 := rfl
theorem li9 : (9 : Int32).toInt = 9 := rfl
theorem li10 : (10 : Int32).toInt = 10 := rfl
theorem li20 : (20 : Int32).toInt = 20 := rfl
theorem li30 : (30 : Int32).toInt = 30 := rfl
theorem li40 : (40 : Int32).toInt = 40 := rfl
theorem li50 : (50 : Int32).toInt = 50 := rfl
theorem li99 : (99 : Int32).toInt = 99 := rfl
theorem li255 : (255 : Int32).toInt = 255 := rfl
theorem li97 : (97 : Int32).toInt = 97 := rfl
theorem li103 : (103 : Int32).toInt = 103 := rfl
theorem li109 : (109 : Int32).toInt = 109 := rfl
theorem li115 : (115 : Int32).toInt = 115 := rfl
theorem li120 : (120 : Int32).toInt = 120 := rfl
theorem lin1 : (-1 : Int32).toInt = -1 := rfl
theorem lin20 : (-20 : Int32).toInt = -20 := rfl
theorem fa_lt (a b : Int32) : a < b ↔ a.toInt < b.toInt := Int32.lt_iff_toInt_lt
theorem fa_le (a b : Int32) : a ≤ b ↔ a.toInt ≤ b.toInt := Int32.le_iff_toInt_le
theorem fa_eq (a b : Int32) : a = b ↔ a.toInt = b.toInt := Int32.toInt_inj.symm
/-! own rows: calls over the contracts of the prelude, the rest of the world unchanged -/
theorem q_fm {α : Type} {ws wr : List α} {is : List Nat} (h : is.map (fun i => ws[i]?) = wr.map some) : is.filterMap (fun i => ws[i]?) = wr := by
  have h2 : (is.map (fun i => ws[i]?)).filterMap id = (wr.map some).filterMap id := by rw [h]
  rw [List.filterMap_map, List.filterMap_map] at h2
  rw [show (wr.filterMap (id ∘ (some : α → Option α))) = wr from List.filterMap_some] at h2
  exact h2
/-- a thing of the rest isn't one of the callee's -/
theorem q_apart {D : va_G} {A : Nat → Prop} {ws wc wr : va_W} {H : Heap} {isC isR : List Nat} (hD : va_D A ws) (hC : isC.map (fun i => ws[i]?) = wc.map some) (hR : isR.map (fun i => ws[i]?) = wr.map some) (hdis : ∀ i ∈ isR, i ∉ isC) (hP : va_P D CLS ws H) (k : Nat) (x : Nat × va_E) (hx : wr[k]? = some x) : ¬ va_A wc H.size x.1 := by
  have hlt : k < isR.length := by
    have := congrArg List.length hR
    simp only [List.length_map] at this
    rw [this]
    exact (List.getElem?_eq_some_iff.mp hx).1
  have e1 : ws[isR[k]]? = some x := by
    have h2 := congrArg (fun l => l[k]?) hR
    simp only [List.getElem?_map, List.getElem?_eq_getElem hlt, Option.map_some, hx] at h2
    exact Option.some.inj h2
  rintro (⟨j, e, hj⟩ | hsz)
  · have hlj : j < isC.length := by
      have := congrArg List.length hC
      simp only [List.length_map] at this
      rw [this]
      exact (List.getElem?_eq_some_iff.mp hj).1
    have e2 : ws[isC[j]]? = some (x.1, e) := by
      have h2 := congrArg (fun l => l[j]?) hC
      simp only [List.getElem?_map, List.getElem?_eq_getElem hlj, Option.map_some, hj] at h2
      exact Option.some.inj h2
    have h3 := hD.1 _ _ _ _ e1 e2 rfl
    exact hdis _ (List.getElem_mem hlt) (by rw [h3]; exact List.getElem_mem hlj)
  · have h4 := (hP _ _ e1).lt
    omega

theorem q_getfN {p : Program} {l : Launch} {e : Env} {R : Room} {s : State} {m : MethodId} {args : Array Value} {below : List Frame} {meth : Method} {c : Code} {H : Heap} {locs : List Loc} {cells slots : Nat} {Q : State → Prop} {cc : ByteArray} {pc : Nat} {ls : Array Slot} {rest : List Value} {A : Nat → Prop} (hexec : p.tables.exec = Jvm.exec) (hb : c.code = cc) {o n d own ref host : String} {index q : Nat} {v : Value} (hE : va_OF o n d v q A s s.heap) (hS : va_S A s.heap H locs) (hown : s.vm.findClass own = some m.cls) (hlink : (Cond.fieldLinkNest own index ref n d host).before args s = true) (hsame : ∀ x, s.fieldFound? o n d = some x → s.fieldFound? ref n d = some x) (hdg : decode cc pc = .ok (.getfield index, 3))
    (kk : W p l e R s m args below meth c H locs cells slots Q (F0 m (pc + 3) ls (v :: rest))) : W p l e R s m args below meth c H locs cells slots Q (F0 m pc ls (.ref q :: rest)) := by
  obtain ⟨cf, k, fi, f, cell, h1, h2, h3, h4, h5, h6⟩ := hE.kept hS.2.1
  exact va_Wgetf hexec hb hown hlink (hsame _ h1) h2 h3 h4 (v := v) h5 rfl rfl hdg kk
theorem q_putSame {p : Program} {l : Launch} {e : Env} {R : Room} {s : State} {m : MethodId} {args : Array Value} {below : List Frame} {meth : Method} {c : Code} {H : Heap} {locs : List Loc} {cells slots : Nat} {Q : State → Prop} {cc : ByteArray} {pc : Nat} {ls : Array Slot} {rest : List Value} {A : Nat → Prop} {D : va_G} {tys : List (ClassId × FieldType)} {a : Nat} (hexec : p.tables.exec = Jvm.exec) (hb : c.code = cc) {own ref C host : String} {T : u_T} {N ci index : Nat} {Ts : List Cond} (hts : ∀ w ∈ Ts, w.before args s = true) (hin : ∀ w ∈ u_ws C T N, w ∈ Ts) (hown : s.vm.findClass own = some m.cls) (hK : va_K D CLS tys s) (hS : va_S A s.heap H locs) {fs : List Value} (hR : va_P D CLS [(a, .inr (ci, fs))] s.heap) (hO : ¬ A a) (hc : CLS[ci]? = some (C, T, N)) (k : Nat) (hk : k < N) (hlink : (Cond.fieldLinkNest own index ref (T k).2.1 (T k).2.2.1 host).before args s = true) (hsame : ∀ x, s.fieldFound? (T k).1 (T k).2.1 (T k).2.2.1 = some x → s.fieldFound? ref (T k).2.1 (T k).2.2.1 = some x) (hfin : (T k).2.2.2 = false) {ty : FieldType} {v : Value} (hd : parseFieldDescriptor (T k).2.2.1 = some ty) (hn : narrow ty v = v) (hfit : fits ty v = true) (hv : fs[k]? = some v)
    (hdg : decode cc pc = .ok (.putfield index, 3)) (kk : W p l e R s m args below meth c H locs cells slots Q (F0 m (pc + 3) ls rest)) : W p l e R s m args below meth c H locs cells slots Q (F0 m pc ls (v :: .ref a :: rest)) := by
  have hlt0 : a < s.heap.size := (hR 0 _ rfl).lt
  have hPH : va_P D CLS [(a, .inr (ci, fs))] H := hR.kept (fun k x hx => by
    have hx0 : k < 1 := (List.getElem?_eq_some_iff.mp hx).1
    have hk0 : k = 0 := by omega
    subst hk0
    cases hx
    exact hS.2.1 _ hlt0 hO)
  obtain ⟨r, h1, cell, q1, q2, q3, q4⟩ := hPH 0 _ rfl
  have hr : r = (C, T, N) := Option.some.inj (h1.symm.trans hc)
  subst hr
  obtain ⟨hSn, hfc, kC, hkC, hkind⟩ := hK.1 ci _ hc
  obtain ⟨cf, kf, fi, f, hi, hsl⟩ := hSn k hk
  have hlay := hts _ (hin _ (u_in_lay hk))
  unfold u_lay at hlay
  rw [if_neg (by rw [hfin]; decide)] at hlay
  have hst := (u_facts hfc hkC (u_lays hts hin hk) hi).1
  have h6 := u_store hfc hkC hkind hlay hi hd hn hfit
  have hold : cell.slots[f.slot]? = some v := by
    rw [hsl, q4 k hk]
    simp [vp_V, hv]
  have hcell : cell.setSlot f.slot v = cell := by
    obtain ⟨hl0, he0⟩ := Array.getElem?_eq_some_iff.mp hold
    show { cell with slots := cell.slots.setIfInBounds f.slot v } = cell
    congr 1
    apply Array.ext_getElem?
    intro i
    rw [Array.getElem?_setIfInBounds]
    by_cases e : f.slot = i
    · subst e
      rw [if_pos rfl, if_pos hl0, hold]
    · rw [if_neg e]
  refine va_WputK hexec hb (f := f) hown hlink (hsame _ hi) hst (by rw [q2]; exact h6) q1 q3 (by rw [hsl]; exact k2_hasslot (q4 k hk)) rfl rfl hdg fun H' e1 e2 e3 => ?_
  have hH : H' = H := by
    apply Array.ext_getElem?
    intro i
    by_cases e : i = a
    · subst e
      rw [e1, hcell]
      exact q1.symm
    · exact e3 i e
  subst hH
  intro T0 hT0 X
  refine kk T0 hT0 { X with same := ?_ }
  obtain ⟨w1, w2, w3, w4, w5, w6⟩ := X.same
  refine ⟨w1, w2, w3, w4, w5, fun a1 c1 hc1 => ?_⟩
  obtain ⟨c2, g1, g2, g3, g4⟩ := w6 a1 c1 hc1
  refine ⟨c2, g1, g2, g3, fun i hi => ?_⟩
  by_cases e : (⟨a1, i⟩ : Loc) = ⟨a, f.slot⟩
  · have ea : a1 = a := congrArg Loc.base e
    have h9 : H'[a]? = s.heap[a]? := hS.2.1 _ hlt0 hO
    have h8 : (T0.setVm s.vm).heap[a1]? = s.heap[a1]? := by
      rw [ea, ← h9, ← hT0]
      rfl
    have h7 : some c2 = some c1 := by rw [← g1, h8, hc1]
    rw [Option.some.inj h7]
  · exact g4 i (fun q => by
      rcases List.mem_append.mp q with q | q
      · exact hi q
      · exact e (List.mem_singleton.mp q))
theorem q_Str {A : Nat → Prop} {H0 H H1 : Heap} {l l1 : List Loc} (h1 : va_S A H0 H l) (h2 : va_S A H H1 l1) : va_S A H0 H1 l1 := ⟨Nat.le_trans h1.1 h2.1, fun q hq hA => (h2.2.1 q (Nat.lt_of_lt_of_le hq h1.1) hA).trans (h1.2.1 q hq hA), h2.2.2⟩
theorem one_new {D : va_G} {sz a b q : Nat} {x0 y0 x y z : va_E} {A : Nat → Prop} {H : Heap} (hAe : va_A [(a, x0), (b, y0)] sz = A) (hP : va_P D CLS [(a, x), (b, y), (q, z)] H) (hD : va_D A [(a, x), (b, y), (q, z)]) : sz + 1 ≤ H.size := by
  have l2 : q < H.size := (hP 2 _ rfl).lt
  have a2 : A q := hD.2 2 _ rfl
  have n0 : a ≠ q := fun e => absurd (hD.1 0 2 _ _ rfl rfl e) (by decide)
  have n1 : b ≠ q := fun e => absurd (hD.1 1 2 _ _ rfl rfl e) (by decide)
  rw [← hAe] at a2
  rcases a2 with ⟨k, e, h⟩ | h
  · match k, h with
    | 0, h => exact absurd (congrArg Prod.fst (Option.some.inj h)) n0
    | 1, h => exact absurd (congrArg Prod.fst (Option.some.inj h)) n1
    | k + 2, h => simp at h
  · omega
theorem q_ne {k n : Nat} (h : k < n) (hn : n < 2 ^ 31) : ¬ nI k = nI n := fun e => by
  have := (nI_eq (Nat.lt_trans h hn) hn).mp e
  omega
theorem two_new {D : va_G} {sz q1 q2 : Nat} {e1 e2 : va_E} {A : Nat → Prop} {H : Heap} (hAe : va_A [] sz = A) (hP : va_P D CLS [(q1, e1), (q2, e2)] H) (hD : va_D A [(q1, e1), (q2, e2)]) : sz + 2 ≤ H.size := by
  have l1 := (hP 0 _ rfl).lt
  have l2 := (hP 1 _ rfl).lt
  have a1 : A q1 := hD.2 0 _ rfl
  have a2 : A q2 := hD.2 1 _ rfl
  have ne : q1 ≠ q2 := fun e => absurd (hD.1 0 1 _ _ rfl rfl e) (by decide)
  rw [← hAe] at a1 a2
  have b1 : sz ≤ q1 := a1.elim (fun ⟨k, e, h⟩ => by simp at h) id
  have b2 : sz ≤ q2 := a2.elim (fun ⟨k, e, h⟩ => by simp at h) id
  simp only at l1 l2
  omega
theorem q_arr {g : GP} {s : State} {cA : ClassId} {ty : FieldType} {t0 : Nat} {cB : ClassId} (hK : va_K g.1 CLS (TYS g.2.1 ++ [(cA, ty)]) s) (h0 : (TYS g.2.1)[t0]? = some (cB, ty)) (hl : t0 < 8) : cA = cB := by
  have h1 := (hK.2 t0 (cB, ty) (by rw [List.getElem?_append_left (by simpa using hl)]; exact h0)).2
  have h2 := (hK.2 8 (cA, ty) rfl).2
  cases ty with
  | object C =>
    obtain ⟨k1, c1, a1, a2, a3, a4⟩ := h1
    obtain ⟨k2, c2, b1, b2, b3, b4⟩ := h2
    exact Option.some.inj (b4.symm.trans a4)
  | _ => exact Option.some.inj (Eq.trans (Eq.symm h2) h1)
section QR
variable {p : Program} {l : Launch} {e : Env} {R : Room} {s : State} {m : MethodId} {args : Array Value} {below : List Frame} {meth : Method} {c : Code} {H : Heap} {locs : List Loc} {cells slots mc ms : Nat} {Q : State → Prop} {g : GP} {A : Nat → Prop} {ws wc wr : va_W} {pc : Nat} {ls : Array Slot} {rest st0 : List Value} {a : Array Value}
theorem q_ci {post : Int32 → va_W → Prop} (hr : va_Run p l e R s m args below meth c H locs cells slots mc ms (F0 m pc ls st0) rest (va_Qi post (POST g (va_A wc H.size)) (va_A wc H.size) a) (va_A wc H.size)) (hP : va_P g.1 CLS ws H) (hD : va_D A ws) {H0 : Heap} (hS : va_S A H0 H locs) (hF : ∀ q, va_A wc H.size q → A q) (isC isR : List Nat) (hC : isC.map (fun i => ws[i]?) = wc.map some) (hR : isR.map (fun i => ws[i]?) = wr.map some) (hn : va_nd isR = true) (hdis : ∀ i ∈ isR, i ∉ isC)
    (kk : ∀ (r : Int32) (u : va_W) (H1 : Heap) (locs1 : List Loc), post r u → va_P g.1 CLS (wr ++ u) H1 → va_D A (wr ++ u) → va_S A H0 H1 locs1 → W p l e R s m args below meth c H1 locs1 (cells + mc) (slots + ms) Q (F0 m (pc + 3) ls (.int r :: rest))) : W p l e R s m args below meth c H locs cells slots Q (F0 m pc ls st0) := by
  refine va_calli hr hS (fun q _ h => hF q h) hF (fun r u t H1 locs1 ht hvm hw hB hz hk hS1 => ?_)
  obtain ⟨hP1, hK1, hD1⟩ := hB
  rw [ht] at hP1
  obtain ⟨hP2, hD2⟩ := va_join hP hD isC isR hC hR hn hdis hk hF hP1 hD1
  exact kk r u H1 locs1 hw hP2 hD2 hS1
theorem q_cl {post : Int64 → va_W → Prop} (hr : va_Run p l e R s m args below meth c H locs cells slots mc ms (F0 m pc ls st0) rest (va_Ql post (POST g (va_A wc H.size)) (va_A wc H.size) a) (va_A wc H.size)) (hP : va_P g.1 CLS ws H) (hD : va_D A ws) {H0 : Heap} (hS : va_S A H0 H locs) (hF : ∀ q, va_A wc H.size q → A q) (isC isR : List Nat) (hC : isC.map (fun i => ws[i]?) = wc.map some) (hR : isR.map (fun i => ws[i]?) = wr.map some) (hn : va_nd isR = true) (hdis : ∀ i ∈ isR, i ∉ isC)
    (kk : ∀ (r : Int64) (u : va_W) (H1 : Heap) (locs1 : List Loc), post r u → va_P g.1 CLS (wr ++ u) H1 → va_D A (wr ++ u) → va_S A H0 H1 locs1 → W p l e R s m args below meth c H1 locs1 (cells + mc) (slots + ms) Q (F0 m (pc + 3) ls (.long r :: rest))) : W p l e R s m args below meth c H locs cells slots Q (F0 m pc ls st0) := by
  refine va_calll hr hS (fun q _ h => hF q h) hF (fun r u t H1 locs1 ht hvm hw hB hz hk hS1 => ?_)
  obtain ⟨hP1, hK1, hD1⟩ := hB
  rw [ht] at hP1
  obtain ⟨hP2, hD2⟩ := va_join hP hD isC isR hC hR hn hdis hk hF hP1 hD1
  exact kk r u H1 locs1 hw hP2 hD2 hS1
theorem q_cf {post : UInt32 → va_W → Prop} (hr : va_Run p l e R s m args below meth c H locs cells slots mc ms (F0 m pc ls st0) rest (va_Qf post (POST g (va_A wc H.size)) (va_A wc H.size) a) (va_A wc H.size)) (hP : va_P g.1 CLS ws H) (hD : va_D A ws) {H0 : Heap} (hS : va_S A H0 H locs) (hF : ∀ q, va_A wc H.size q → A q) (isC isR : List Nat) (hC : isC.map (fun i => ws[i]?) = wc.map some) (hR : isR.map (fun i => ws[i]?) = wr.map some) (hn : va_nd isR = true) (hdis : ∀ i ∈ isR, i ∉ isC)
    (kk : ∀ (r : UInt32) (u : va_W) (H1 : Heap) (locs1 : List Loc), post r u → va_P g.1 CLS (wr ++ u) H1 → va_D A (wr ++ u) → va_S A H0 H1 locs1 → W p l e R s m args below meth c H1 locs1 (cells + mc) (slots + ms) Q (F0 m (pc + 3) ls (.float r :: rest))) : W p l e R s m args below meth c H locs cells slots Q (F0 m pc ls st0) := by
  refine va_callf hr hS (fun q _ h => hF q h) hF (fun r u t H1 locs1 ht hvm hw hB hz hk hS1 => ?_)
  obtain ⟨hP1, hK1, hD1⟩ := hB
  rw [ht] at hP1
  obtain ⟨hP2, hD2⟩ := va_join hP hD isC isR hC hR hn hdis hk hF hP1 hD1
  exact kk r u H1 locs1 hw hP2 hD2 hS1
theorem q_cd {post : UInt64 → va_W → Prop} (hr : va_Run p l e R s m args below meth c H locs cells slots mc ms (F0 m pc ls st0) rest (va_Qd post (POST g (va_A wc H.size)) (va_A wc H.size) a) (va_A wc H.size)) (hP : va_P g.1 CLS ws H) (hD : va_D A ws) {H0 : Heap} (hS : va_S A H0 H locs) (hF : ∀ q, va_A wc H.size q → A q) (isC isR : List Nat) (hC : isC.map (fun i => ws[i]?) = wc.map some) (hR : isR.map (fun i => ws[i]?) = wr.map some) (hn : va_nd isR = true) (hdis : ∀ i ∈ isR, i ∉ isC)
    (kk : ∀ (r : UInt64) (u : va_W) (H1 : Heap) (locs1 : List Loc), post r u → va_P g.1 CLS (wr ++ u) H1 → va_D A (wr ++ u) → va_S A H0 H1 locs1 → W p l e R s m args below meth c H1 locs1 (cells + mc) (slots + ms) Q (F0 m (pc + 3) ls (.double r :: rest))) : W p l e R s m args below meth c H locs cells slots Q (F0 m pc ls st0) := by
  refine va_calld hr hS (fun q _ h => hF q h) hF (fun r u t H1 locs1 ht hvm hw hB hz hk hS1 => ?_)
  obtain ⟨hP1, hK1, hD1⟩ := hB
  rw [ht] at hP1
  obtain ⟨hP2, hD2⟩ := va_join hP hD isC isR hC hR hn hdis hk hF hP1 hD1
  exact kk r u H1 locs1 hw hP2 hD2 hS1
theorem q_cq {post : Option Nat → va_W → Prop} (hr : va_Run p l e R s m args below meth c H locs cells slots mc ms (F0 m pc ls st0) rest (va_Qq post (POST g (va_A wc H.size)) (va_A wc H.size) a) (va_A wc H.size)) (hP : va_P g.1 CLS ws H) (hD : va_D A ws) {H0 : Heap} (hS : va_S A H0 H locs) (hF : ∀ q, va_A wc H.size q → A q) (isC isR : List Nat) (hC : isC.map (fun i => ws[i]?) = wc.map some) (hR : isR.map (fun i => ws[i]?) = wr.map some) (hn : va_nd isR = true) (hdis : ∀ i ∈ isR, i ∉ isC)
    (kk : ∀ (r : Option Nat) (u : va_W) (H1 : Heap) (locs1 : List Loc), post r u → va_P g.1 CLS (wr ++ u) H1 → va_D A (wr ++ u) → va_S A H0 H1 locs1 → W p l e R s m args below meth c H1 locs1 (cells + mc) (slots + ms) Q (F0 m (pc + 3) ls (va_rf r :: rest))) : W p l e R s m args below meth c H locs cells slots Q (F0 m pc ls st0) := by
  refine va_callq hr hS (fun q _ h => hF q h) hF (fun r u t H1 locs1 ht hvm hw hB hz hk hS1 => ?_)
  obtain ⟨hP1, hK1, hD1⟩ := hB
  rw [ht] at hP1
  obtain ⟨hP2, hD2⟩ := va_join hP hD isC isR hC hR hn hdis hk hF hP1 hD1
  exact kk r u H1 locs1 hw hP2 hD2 hS1
theorem q_cv {post : va_W → Prop} (hr : va_Run p l e R s m args below meth c H locs cells slots mc ms (F0 m pc ls st0) rest (va_Qv post (POST g (va_A wc H.size)) (va_A wc H.size) a) (va_A wc H.size)) (hP : va_P g.1 CLS ws H) (hD : va_D A ws) {H0 : Heap} (hS : va_S A H0 H locs) (hF : ∀ q, va_A wc H.size q → A q) (isC isR : List Nat) (hC : isC.map (fun i => ws[i]?) = wc.map some) (hR : isR.map (fun i => ws[i]?) = wr.map some) (hn : va_nd isR = true) (hdis : ∀ i ∈ isR, i ∉ isC)
    (kk : ∀ (u : va_W) (H1 : Heap) (locs1 : List Loc), post u → va_P g.1 CLS (wr ++ u) H1 → va_D A (wr ++ u) → va_S A H0 H1 locs1 → W p l e R s m args below meth c H1 locs1 (cells + mc) (slots + ms) Q (F0 m (pc + 3) ls (rest))) : W p l e R s m args below meth c H locs cells slots Q (F0 m pc ls st0) := by
  refine va_callv hr hS (fun q _ h => hF q h) hF (fun u t H1 locs1 ht hvm hw hB hz hk hS1 => ?_)
  obtain ⟨hP1, hK1, hD1⟩ := hB
  rw [ht] at hP1
  obtain ⟨hP2, hD2⟩ := va_join hP hD isC isR hC hR hn hdis hk hF hP1 hD1
  exact kk u H1 locs1 hw hP2 hD2 hS1
theorem q_cFi {post : Int32 → va_W → Prop} (hr : va_Run5 p l e R s m args below meth c H locs cells slots mc ms (F0 m pc ls st0) rest (va_Qi post (POST g (va_A wc H.size)) (va_A wc H.size) a) (va_A wc H.size)) (hP : va_P g.1 CLS ws H) (hD : va_D A ws) {H0 : Heap} (hS : va_S A H0 H locs) (hF : ∀ q, va_A wc H.size q → A q) (isC isR : List Nat) (hC : isC.map (fun i => ws[i]?) = wc.map some) (hR : isR.map (fun i => ws[i]?) = wr.map some) (hn : va_nd isR = true) (hdis : ∀ i ∈ isR, i ∉ isC)
    (kk : ∀ (r : Int32) (u : va_W) (H1 : Heap) (locs1 : List Loc), post r u → va_P g.1 CLS (wr ++ u) H1 → va_D A (wr ++ u) → va_S A H0 H1 locs1 → W p l e R s m args below meth c H1 locs1 (cells + mc) (slots + ms) Q (F0 m (pc + 5) ls (.int r :: rest))) : W p l e R s m args below meth c H locs cells slots Q (F0 m pc ls st0) := by
  refine va_callFi hr hS (fun q _ h => hF q h) hF (fun r u t H1 locs1 ht hvm hw hB hz hk hS1 => ?_)
  obtain ⟨hP1, hK1, hD1⟩ := hB
  rw [ht] at hP1
  obtain ⟨hP2, hD2⟩ := va_join hP hD isC isR hC hR hn hdis hk hF hP1 hD1
  exact kk r u H1 locs1 hw hP2 hD2 hS1
theorem q_cFl {post : Int64 → va_W → Prop} (hr : va_Run5 p l e R s m args below meth c H locs cells slots mc ms (F0 m pc ls st0) rest (va_Ql post (POST g (va_A wc H.size)) (va_A wc H.size) a) (va_A wc H.size)) (hP : va_P g.1 CLS ws H) (hD : va_D A ws) {H0 : Heap} (hS : va_S A H0 H locs) (hF : ∀ q, va_A wc H.size q → A q) (isC isR : List Nat) (hC : isC.map (fun i => ws[i]?) = wc.map some) (hR : isR.map (fun i => ws[i]?) = wr.map some) (hn : va_nd isR = true) (hdis : ∀ i ∈ isR, i ∉ isC)
    (kk : ∀ (r : Int64) (u : va_W) (H1 : Heap) (locs1 : List Loc), post r u → va_P g.1 CLS (wr ++ u) H1 → va_D A (wr ++ u) → va_S A H0 H1 locs1 → W p l e R s m args below meth c H1 locs1 (cells + mc) (slots + ms) Q (F0 m (pc + 5) ls (.long r :: rest))) : W p l e R s m args below meth c H locs cells slots Q (F0 m pc ls st0) := by
  refine va_callFl hr hS (fun q _ h => hF q h) hF (fun r u t H1 locs1 ht hvm hw hB hz hk hS1 => ?_)
  obtain ⟨hP1, hK1, hD1⟩ := hB
  rw [ht] at hP1
  obtain ⟨hP2, hD2⟩ := va_join hP hD isC isR hC hR hn hdis hk hF hP1 hD1
  exact kk r u H1 locs1 hw hP2 hD2 hS1
theorem q_cFf {post : UInt32 → va_W → Prop} (hr : va_Run5 p l e R s m args below meth c H locs cells slots mc ms (F0 m pc ls st0) rest (va_Qf post (POST g (va_A wc H.size)) (va_A wc H.size) a) (va_A wc H.size)) (hP : va_P g.1 CLS ws H) (hD : va_D A ws) {H0 : Heap} (hS : va_S A H0 H locs) (hF : ∀ q, va_A wc H.size q → A q) (isC isR : List Nat) (hC : isC.map (fun i => ws[i]?) = wc.map some) (hR : isR.map (fun i => ws[i]?) = wr.map some) (hn : va_nd isR = true) (hdis : ∀ i ∈ isR, i ∉ isC)
    (kk : ∀ (r : UInt32) (u : va_W) (H1 : Heap) (locs1 : List Loc), post r u → va_P g.1 CLS (wr ++ u) H1 → va_D A (wr ++ u) → va_S A H0 H1 locs1 → W p l e R s m args below meth c H1 locs1 (cells + mc) (slots + ms) Q (F0 m (pc + 5) ls (.float r :: rest))) : W p l e R s m args below meth c H locs cells slots Q (F0 m pc ls st0) := by
  refine va_callFf hr hS (fun q _ h => hF q h) hF (fun r u t H1 locs1 ht hvm hw hB hz hk hS1 => ?_)
  obtain ⟨hP1, hK1, hD1⟩ := hB
  rw [ht] at hP1
  obtain ⟨hP2, hD2⟩ := va_join hP hD isC isR hC hR hn hdis hk hF hP1 hD1
  exact kk r u H1 locs1 hw hP2 hD2 hS1
theorem q_cFd {post : UInt64 → va_W → Prop} (hr : va_Run5 p l e R s m args below meth c H locs cells slots mc ms (F0 m pc ls st0) rest (va_Qd post (POST g (va_A wc H.size)) (va_A wc H.size) a) (va_A wc H.size)) (hP : va_P g.1 CLS ws H) (hD : va_D A ws) {H0 : Heap} (hS : va_S A H0 H locs) (hF : ∀ q, va_A wc H.size q → A q) (isC isR : List Nat) (hC : isC.map (fun i => ws[i]?) = wc.map some) (hR : isR.map (fun i => ws[i]?) = wr.map some) (hn : va_nd isR = true) (hdis : ∀ i ∈ isR, i ∉ isC)
    (kk : ∀ (r : UInt64) (u : va_W) (H1 : Heap) (locs1 : List Loc), post r u → va_P g.1 CLS (wr ++ u) H1 → va_D A (wr ++ u) → va_S A H0 H1 locs1 → W p l e R s m args below meth c H1 locs1 (cells + mc) (slots + ms) Q (F0 m (pc + 5) ls (.double r :: rest))) : W p l e R s m args below meth c H locs cells slots Q (F0 m pc ls st0) := by
  refine va_callFd hr hS (fun q _ h => hF q h) hF (fun r u t H1 locs1 ht hvm hw hB hz hk hS1 => ?_)
  obtain ⟨hP1, hK1, hD1⟩ := hB
  rw [ht] at hP1
  obtain ⟨hP2, hD2⟩ := va_join hP hD isC isR hC hR hn hdis hk hF hP1 hD1
  exact kk r u H1 locs1 hw hP2 hD2 hS1
theorem q_cFq {post : Option Nat → va_W → Prop} (hr : va_Run5 p l e R s m args below meth c H locs cells slots mc ms (F0 m pc ls st0) rest (va_Qq post (POST g (va_A wc H.size)) (va_A wc H.size) a) (va_A wc H.size)) (hP : va_P g.1 CLS ws H) (hD : va_D A ws) {H0 : Heap} (hS : va_S A H0 H locs) (hF : ∀ q, va_A wc H.size q → A q) (isC isR : List Nat) (hC : isC.map (fun i => ws[i]?) = wc.map some) (hR : isR.map (fun i => ws[i]?) = wr.map some) (hn : va_nd isR = true) (hdis : ∀ i ∈ isR, i ∉ isC)
    (kk : ∀ (r : Option Nat) (u : va_W) (H1 : Heap) (locs1 : List Loc), post r u → va_P g.1 CLS (wr ++ u) H1 → va_D A (wr ++ u) → va_S A H0 H1 locs1 → W p l e R s m args below meth c H1 locs1 (cells + mc) (slots + ms) Q (F0 m (pc + 5) ls (va_rf r :: rest))) : W p l e R s m args below meth c H locs cells slots Q (F0 m pc ls st0) := by
  refine va_callFq hr hS (fun q _ h => hF q h) hF (fun r u t H1 locs1 ht hvm hw hB hz hk hS1 => ?_)
  obtain ⟨hP1, hK1, hD1⟩ := hB
  rw [ht] at hP1
  obtain ⟨hP2, hD2⟩ := va_join hP hD isC isR hC hR hn hdis hk hF hP1 hD1
  exact kk r u H1 locs1 hw hP2 hD2 hS1
theorem q_cFv {post : va_W → Prop} (hr : va_Run5 p l e R s m args below meth c H locs cells slots mc ms (F0 m pc ls st0) rest (va_Qv post (POST g (va_A wc H.size)) (va_A wc H.size) a) (va_A wc H.size)) (hP : va_P g.1 CLS ws H) (hD : va_D A ws) {H0 : Heap} (hS : va_S A H0 H locs) (hF : ∀ q, va_A wc H.size q → A q) (isC isR : List Nat) (hC : isC.map (fun i => ws[i]?) = wc.map some) (hR : isR.map (fun i => ws[i]?) = wr.map some) (hn : va_nd isR = true) (hdis : ∀ i ∈ isR, i ∉ isC)
    (kk : ∀ (u : va_W) (H1 : Heap) (locs1 : List Loc), post u → va_P g.1 CLS (wr ++ u) H1 → va_D A (wr ++ u) → va_S A H0 H1 locs1 → W p l e R s m args below meth c H1 locs1 (cells + mc) (slots + ms) Q (F0 m (pc + 5) ls (rest))) : W p l e R s m args below meth c H locs cells slots Q (F0 m pc ls st0) := by
  refine va_callFv hr hS (fun q _ h => hF q h) hF (fun u t H1 locs1 ht hvm hw hB hz hk hS1 => ?_)
  obtain ⟨hP1, hK1, hD1⟩ := hB
  rw [ht] at hP1
  obtain ⟨hP2, hD2⟩ := va_join hP hD isC isR hC hR hn hdis hk hF hP1 hD1
  exact kk u H1 locs1 hw hP2 hD2 hS1
theorem q_ciZ {post : Int32 → va_W → Prop} {kz : Nat} (hr : va_Run p l e R s m args below meth c H locs cells slots mc ms (F0 m pc ls st0) rest (va_Qi post (fun u t => POST g (va_A wc H.size) u t ∧ H.size + kz ≤ t.heap.size) (va_A wc H.size) a) (va_A wc H.size)) (hP : va_P g.1 CLS ws H) (hD : va_D A ws) {H0 : Heap} (hS : va_S A H0 H locs) (hF : ∀ q, va_A wc H.size q → A q) (isC isR : List Nat) (hC : isC.map (fun i => ws[i]?) = wc.map some) (hR : isR.map (fun i => ws[i]?) = wr.map some) (hn : va_nd isR = true) (hdis : ∀ i ∈ isR, i ∉ isC)
    (kk : ∀ (r : Int32) (u : va_W) (H1 : Heap) (locs1 : List Loc), H.size + kz ≤ H1.size → post r u → va_P g.1 CLS (wr ++ u) H1 → va_D A (wr ++ u) → va_S A H0 H1 locs1 → W p l e R s m args below meth c H1 locs1 (cells + mc) (slots + ms) Q (F0 m (pc + 3) ls (.int r :: rest))) : W p l e R s m args below meth c H locs cells slots Q (F0 m pc ls st0) := by
  refine va_calli hr hS (fun q _ h => hF q h) hF (fun r u t H1 locs1 ht hvm hw hB hz hk hS1 => ?_)
  obtain ⟨⟨hP1, hK1, hD1⟩, hZ⟩ := hB
  rw [ht] at hP1 hZ
  obtain ⟨hP2, hD2⟩ := va_join hP hD isC isR hC hR hn hdis hk hF hP1 hD1
  exact kk r u H1 locs1 hZ hw hP2 hD2 hS1
theorem q_loop {st : List Value} (n : Nat) (P : Nat → (Nat → Int32) → Heap → List Loc → Array Slot → Prop)
    (step : ∀ (i : Nat) (f : Nat → Int32) (H : Heap) (locs : List Loc) (ls : Array Slot), i < n → P i f H locs ls → (∀ (f' : Nat → Int32) (H' : Heap) (locs' : List Loc) (ls' : Array Slot), P (i + 1) f' H' locs' ls' → W p l e R s m args below meth c H' locs' cells slots Q (F0 m pc ls' st)) → W p l e R s m args below meth c H locs cells slots Q (F0 m pc ls st))
    (fin : ∀ (f : Nat → Int32) (H : Heap) (locs : List Loc) (ls : Array Slot), P n f H locs ls → W p l e R s m args below meth c H locs cells slots Q (F0 m pc ls st))
    (f : Nat → Int32) (h0 : P 0 f H locs ls) : W p l e R s m args below meth c H locs cells slots Q (F0 m pc ls st) := by
  have key : ∀ (k i : Nat), i + k = n → ∀ (f : Nat → Int32) (H : Heap) (locs : List Loc) (ls : Array Slot), P i f H locs ls → W p l e R s m args below meth c H locs cells slots Q (F0 m pc ls st) := by
    intro k
    induction k with
    | zero =>
      intro i hi f H locs ls h
      have : i = n := by omega
      subst this
      exact fin f H locs ls h
    | succ k ih =>
      intro i hi f H locs ls h
      exact step i f H locs ls (by omega) h (fun f' H' locs' ls' h' => ih (i + 1) (by omega) f' H' locs' ls' h')
  exact key n 0 (by omega) f H locs ls h0
theorem q_loopc {st : List Value} (n dc ds : Nat) (P : Nat → Heap → List Loc → Array Slot → Prop)
    (step : ∀ (i : Nat) (H : Heap) (locs : List Loc) (ls : Array Slot), i < n → P i H locs ls → (∀ (H' : Heap) (locs' : List Loc) (ls' : Array Slot), P (i + 1) H' locs' ls' → W p l e R s m args below meth c H' locs' (cells + dc * (i + 1)) (slots + ds * (i + 1)) Q (F0 m pc ls' st)) → W p l e R s m args below meth c H locs (cells + dc * i) (slots + ds * i) Q (F0 m pc ls st))
    (fin : ∀ (H : Heap) (locs : List Loc) (ls : Array Slot), P n H locs ls → W p l e R s m args below meth c H locs (cells + dc * n) (slots + ds * n) Q (F0 m pc ls st))
    (h0 : P 0 H locs ls) : W p l e R s m args below meth c H locs cells slots Q (F0 m pc ls st) := by
  have key : ∀ (k i : Nat), i + k = n → ∀ (H : Heap) (locs : List Loc) (ls : Array Slot), P i H locs ls → W p l e R s m args below meth c H locs (cells + dc * i) (slots + ds * i) Q (F0 m pc ls st) := by
    intro k
    induction k with
    | zero =>
      intro i hi H locs ls h
      have : i = n := by omega
      subst this
      exact fin H locs ls h
    | succ k ih =>
      intro i hi H locs ls h
      exact step i H locs ls (by omega) h (fun H' locs' ls' h' => ih (i + 1) (by omega) H' locs' ls' h')
  exact key n 0 (by omega) H locs ls h0
end QR
