/-! own words: one list of good words for every method; contracts over a list of cells -/
def G9 : List Cond := lw_tbl.filter goodWord
theorem g9 {w : Cond} (i : Nat) (h : lw_tbl[i]? = some w) (g : goodWord w = true) : w ∈ G9 := List.mem_filter.mpr ⟨List.mem_of_getElem? h, g⟩
theorem g9_good {w : Cond} (h : w ∈ G9) : goodWord w = true := (List.mem_filter.mp h).2
theorem g9_in {w : Cond} (h : w ∈ G9) : w ∈ lw_tbl := (List.mem_filter.mp h).1
abbrev wG (y : MethodName) (b : ByteArray) (n : Nat) (r : Option FieldType) : List Cond := .code y b n r :: G9
abbrev wH (y : MethodName) (b : ByteArray) (n : Nat) (r : Option FieldType) (hh : List (Nat × Nat × Nat × Nat)) : List Cond := .codeWith y b n r hh :: G9
abbrev LV (d mc ms : Nat) : Room := { frames := 8 * d, cells := mc, slots := ms, locals := 400 * d }
abbrev okN (y : MethodName) (n : Nat) : Prop := y.cls ≠ "java/lang/invoke/MethodHandle" ∧ y.cls ≠ "java/lang/invoke/VarHandle" ∧ (parseMethodDescriptor y.desc).map (fun d => d.parameters.length) = some n
theorem qsig {y : MethodName} {n : Nat} (h : okN y n) : ∀ sig, parseMethodDescriptor y.desc = some sig → n = sig.parameters.length := by
  intro sig hs
  have h3 := h.2.2
  rw [hs] at h3
  exact (Option.some.inj h3).symm
theorem qB {R : Room} {s : State} {args : Array Value} {own : String} {index : Nat} {y : MethodName} {b : ByteArray} {n mc ms k : Nat} {r : Option FieldType} {rm : Room} (ht : ∀ w ∈ G9, w.before args s = true)
    (hc : Cond.code y b n r ∈ G9) (hi : Cond.initialized y.cls ∈ G9) (hl : Cond.methodLink own index y ∈ G9) (ho : okN y k) (hrc : rm.cells = mc) (hrs : rm.slots = ms) (hR : rm.frames + 1 ≤ R.frames ∧ 8 + (n + 11) + rm.locals ≤ R.locals) :
    CallB R s args own index y b n r (wG y b n r) rm mc ms k :=
  ⟨hrc, hrs, hR.1, hR.2, fun w hw a' U hW => (List.mem_cons.mp hw).elim (fun e => by rw [e]; exact word_at hW (good_of_word (g9_good hc)) (ht _ hc)) (fun h => word_at hW (good_of_word (g9_good h)) (ht w h)), List.mem_cons_self, ht _ hc, ht _ hi, ⟨ho.1, ho.2.1⟩, qsig ho, ht _ hl⟩
theorem qN {R : Room} {s : State} {args : Array Value} {own host : String} {index : Nat} {y : MethodName} {b : ByteArray} {n mc ms k : Nat} {r : Option FieldType} {rm : Room} (ht : ∀ w ∈ G9, w.before args s = true)
    (hc : Cond.code y b n r ∈ G9) (hi : Cond.initialized y.cls ∈ G9) (hl : va_Nw (.methodLinkNest own index y host) s) (ho : okN y k) (hrc : rm.cells = mc) (hrs : rm.slots = ms) (hR : rm.frames + 1 ≤ R.frames ∧ 8 + (n + 11) + rm.locals ≤ R.locals) :
    va_CN R s args own index y host b n r (wG y b n r) rm mc ms k :=
  va_cnB k ht (fun w hw => (List.mem_cons.mp hw).elim (fun e => by rw [e]; exact ⟨hc, good_of_word (g9_good hc)⟩) (fun h => ⟨h, good_of_word (g9_good h)⟩)) rfl hrc hrs hl (ht _ hi) ho hR
theorem qI5 {R : Room} {s : State} {args : Array Value} {own C : String} {index : Nat} {x y : MethodName} {b : ByteArray} {n mc ms k : Nat} {r : Option FieldType} {rm : Room} (ht : ∀ w ∈ G9, w.before args s = true)
    (hc : Cond.code y b n r ∈ G9) (hi : Cond.initialized y.cls ∈ G9) (hl : Cond.methodLink own index x ∈ G9) (hse : Cond.selects C x y ∈ G9) (hin : Cond.instanceMethod y ∈ G9) (hF : va_Fw C x y s) (ho : okN x k) (hrc : rm.cells = mc) (hrs : rm.slots = ms) (hR : rm.frames + 1 ≤ R.frames ∧ 8 + (n + 11) + rm.locals ≤ R.locals) :
    va_CI R s args own C index x y b n r (wG y b n r) rm mc ms k := by
  refine va_cwF k ht ?_ rfl hrc hrs hF ho hR
  intro w hw
  rcases List.mem_append.mp hw with h | h
  · have : w ∈ G9 := by
      simp only [List.mem_cons, List.not_mem_nil, or_false] at h
      rcases h with rfl | rfl | rfl | rfl
      · exact hl
      · exact hse
      · exact hin
      · exact hi
    exact ⟨this, good_of_word (g9_good this)⟩
  · exact (List.mem_cons.mp h).elim (fun e => by rw [e]; exact ⟨hc, good_of_word (g9_good hc)⟩) (fun h => ⟨h, good_of_word (g9_good h)⟩)
/-- the classes whose objects are spoken of -/
abbrev CLS : List vw_C := [(RJx35411, TJx35411, 4), (RJx4a65c, TJx4a65c, 3), (RX0, TX0, 3), (RX1, TX1, 1), (RX2, TX2, 17), (RX4, TX4, 3), (RX5, TX5, 13), (RX6, TX6, 2), (RX7, TX7, 3), (RX8, TX8, 2), (RX9, TX9, 14), (RX11, TX11, 14), (RX12, TX12, 3)]
abbrev TYS (dA : Nat → ClassId) : List (ClassId × FieldType) := [(dA 0, .char), (dA 1, .int), (dA 2, .boolean), (dA 3, .object "HeroTable$Hero"), (dA 4, .object "HeroTable$Source"), (dA 5, .object "java/lang/Object"), (dA 6, .long), (dA 7, .double)]
/-- what is fixed for a run: class numbers, slots, array classes, addresses of the statics' things -/
abbrev GP : Type := va_G × (Nat → ClassId) × (Nat → Nat)
/-- texts: class, place, text -/
abbrev bts : Nat → List Int32
  | 0 => [46, 35, 126]
  | 1 => [98, 102, 104, 115]
  | 2 => [46, 35, 126]
  | 3 => [97, 116, 100, 115, 119]
  | 4 => [117, 109, 115, 111, 112, 61]
  | 5 => [112, 115, 98, 105, 104, 100]
  | _ => [98, 102, 104, 115]
abbrev yI_size : MethodName := ⟨"java/util/List", "size", "()I"⟩
abbrev yI_isEmpty : MethodName := ⟨"java/util/List", "isEmpty", "()Z"⟩
abbrev yI_iterator : MethodName := ⟨"java/util/List", "iterator", "()Ljava/util/Iterator;"⟩
abbrev yI_add : MethodName := ⟨"java/util/List", "add", "(Ljava/lang/Object;)Z"⟩
abbrev yI_hasNext : MethodName := ⟨"java/util/Iterator", "hasNext", "()Z"⟩
/-- what holds of the tables alone -/
def TF (U : State) : Prop :=
  (va_Nw (.methodLinkNest "HeroTable$Table" 28 yX1_init "HeroTable") U ∧ va_Nw (.methodLinkNest "HeroTable$Table" 35 yX0_init "HeroTable") U ∧ va_Nw (.methodLinkNest "HeroTable$Table" 44 yX2_init "HeroTable") U ∧ va_Nw (.methodLinkNest "HeroTable" 21 yX6_init "HeroTable") U) ∧
  (va_Nw (.fieldLinkNest "HeroTable$Hero" 67 "HeroTable" "FIRST_BASES" "[I" "HeroTable") U ∧ va_Nw (.fieldLinkNest "java/util/ArrayList$Itr" 28 "java/util/ArrayList" "size" "I" "java/util/ArrayList") U) ∧
  (va_Fw RJx4a65c yI_size yJx4a65c_size_8abf5 U ∧ va_Fw RJx4a65c yI_isEmpty yJx4a65c_isEmpty_aae02 U ∧ va_Fw RJx4a65c yI_iterator yJx4a65c_iterator_32c93 U ∧ va_Fw RJx4a65c yI_add yJx4a65c_add_9ea2d U ∧ va_Fw RJx35411 yI_hasNext yJx35411_hasNext_aae02 U) ∧
  (va_AO "HeroTable$Hero" U ∧ va_AO "HeroTable$Source" U ∧ va_AO "java/lang/Object" U) ∧
  (va_Nw (.castable "java/lang/IndexOutOfBoundsException" "java/lang/IndexOutOfBoundsException") U ∧ va_Nw (.castable "java/lang/IllegalArgumentException" "java/lang/IllegalArgumentException") U ∧ va_Nw (.castable "java/lang/IllegalStateException" "java/lang/IllegalStateException") U ∧ va_Nw (.castable "java/util/NoSuchElementException" "java/util/NoSuchElementException") U ∧ va_Nw (.castable "java/lang/ArithmeticException" "java/lang/ArithmeticException") U) ∧
  (va_Nc "java/lang/IllegalStateException" "java/lang/IllegalArgumentException" U) ∧
  (va_Nw (.castable "HeroTableModel$Call" "java/lang/Object") U ∧ va_Nw (.castable "HeroTableModel$Hero" "java/lang/Object") U ∧ va_Nw (.declares (Bundle.initS "java/lang/RuntimeException")) U ∧ va_Nw (.declares (Bundle.initS "java/lang/Exception")) U ∧ va_Nw (.declares (Bundle.initS Bundle.tN)) U ∧ va_Nw (.castable "java/lang/Integer" "java/lang/Object") U)
theorem TF.moved {s U : State} (hW : s.WarmedH U.vm) (h : TF s) : TF U := by
  obtain ⟨⟨a1, a2, a3, a4⟩, ⟨b1, b2⟩, ⟨c1, c2, c3, c4, c5⟩, ⟨d1, d2, d3⟩, ⟨e1, e2, e3, e4, e5⟩, f1, g1, g2, h1, h2, h3, i1⟩ := h
  exact ⟨⟨va_Nw.warmM hW a1, va_Nw.warmM hW a2, va_Nw.warmM hW a3, va_Nw.warmM hW a4⟩, ⟨va_Nw.warmF hW b1, va_Nw.warmF hW b2⟩,
    ⟨va_Fw.moved (by decide +kernel) hW.alike c1, va_Fw.moved (by decide +kernel) hW.alike c2, va_Fw.moved (by decide +kernel) hW.alike c3, va_Fw.moved (by decide +kernel) hW.alike c4, va_Fw.moved (by decide +kernel) hW.alike c5⟩,
    ⟨va_AO.moved hW.alike d1, va_AO.moved hW.alike d2, va_AO.moved hW.alike d3⟩, ⟨va_Nw.warmC hW e1, va_Nw.warmC hW e2, va_Nw.warmC hW e3, va_Nw.warmC hW e4, va_Nw.warmC hW e5⟩, va_Nc.moved hW.alike f1, va_Nw.warmC hW g1, va_Nw.warmC hW g2, va_Nw.warmD hW h1, va_Nw.warmD hW h2, va_Nw.warmD hW h3, va_Nw.warmC hW i1⟩
/-- the texts' references: own class, place, text, number of the address -/
abbrev SRS : List (String × Nat × String × Nat) := [("HeroTable$Table", 108, ".#~", 10), ("HeroTable$Table", 291, "bfhs", 11), ("HeroTableModel", 111, ".#~", 12), ("HeroTableModel", 123, "atdsw", 13), ("HeroTableModel", 190, "umsop=", 14), ("HeroTableModel", 197, "psbihd", 15), ("HeroTableModel", 356, "bfhs", 16),
  ("HeroTable", 265, "no such hero or source", 30), ("HeroTable", 268, "no such sign or cell, or out of range", 31), ("HeroTable", 273, "not in this state", 32), ("HeroTable", 279, "this can not be done now", 33), ("HeroTable", 249, "no heroes", 34), ("HeroTable", 283, "no such hero", 35), ("HeroTable", 115, "no such source", 36), ("HeroTable", 169, "no turn is on", 37), ("HeroTable", 216, "no such die was told", 38), ("HeroTable", 240, "no attack with a die", 39)]
def RF (ad : Nat → Nat) (U : State) : Prop := ∀ q ∈ SRS, vk_R q.1 q.2.1 q.2.2.1 (ad q.2.2.2) U
theorem RF.moved {ad : Nat → Nat} {s U : State} (hW : s.WarmedH U.vm) (h : RF ad s) : RF ad U := fun q hq => vk_R.warm hW (h q hq)
/-- what holds of the statics and texts in the heap -/
def HF (ad : Nat → Nat) (A : Nat → Prop) (U : State) (H : Heap) : Prop :=
  (vx_Zq Bundle.tN "UNASSIGNED_STACK" Bundle.steD A U H ∧ vx_Zq Bundle.tN "SUPPRESSED_SENTINEL" Bundle.listD A U H) ∧
  (va_Z "HeroTable" "FIRST_BASES" "[I" (.ref (ad 0)) A U H ∧ va_T .int (ad 0) 5 (fun j => .int (([12, 4, 5, 4, 2] : List Int32).getD j 0)) A U H) ∧
  (va_Z "java/util/ArrayList" "DEFAULTCAPACITY_EMPTY_ELEMENTDATA" "[Ljava/lang/Object;" (.ref (ad 1)) A U H ∧ va_T (.object "java/lang/Object") (ad 1) 0 (fun _ => .null) A U H) ∧
  (va_Z "java/lang/String" "COMPACT_STRINGS" "Z" (.int 1) A U H) ∧
  (va_Z "java/lang/Integer$IntegerCache" "high" "I" (.int 127) A U H ∧ va_Z "java/lang/Integer$IntegerCache" "cache" "[Ljava/lang/Integer;" (.ref (ad 2)) A U H ∧ va_T (.object "java/lang/Integer") (ad 2) 256 (fun j => .ref (ad (1000 + j))) A U H ∧ ∀ j : Nat, j < 256 → va_O "java/lang/Integer" (ad (1000 + j)) A U H) ∧
  (∀ i : Nat, i < 7 → va_O "java/lang/String" (ad (10 + i)) A U H ∧ va_OF "java/lang/String" "coder" "B" (.int 0) (ad (10 + i)) A U H ∧ va_OF "java/lang/String" "value" "[B" (.ref (ad (20 + i))) (ad (10 + i)) A U H ∧ va_T .byte (ad (20 + i)) (bts i).length (fun j => .int ((bts i).getD j 0)) A U H)
theorem HF.moved {ad : Nat → Nat} {A : Nat → Prop} {u U : State} {H : Heap} (hvm : u.vm.Alike U.vm) (h : HF ad A u H) : HF ad A U H := by
  obtain ⟨⟨a1, a2⟩, ⟨b1, b2⟩, ⟨c1, c2⟩, d1, ⟨e1, e2, e3, e4⟩, f⟩ := h
  exact ⟨⟨a1.moved hvm, a2.moved hvm⟩, ⟨b1.moved hvm, b2.moved hvm⟩, ⟨c1.moved hvm, c2.moved hvm⟩, d1.moved hvm, ⟨e1.moved hvm, e2.moved hvm, e3.moved hvm, fun j hj => (e4 j hj).moved hvm⟩, fun i hi => ⟨(f i hi).1.moved hvm, (f i hi).2.1.moved hvm, (f i hi).2.2.1.moved hvm, (f i hi).2.2.2.moved hvm⟩⟩
theorem HF.kept {ad : Nat → Nat} {A : Nat → Prop} {U : State} {H H1 : Heap} (h : HF ad A U H) (hq : ∀ a : Nat, a < H.size → ¬ A a → H1[a]? = H[a]?) : HF ad A U H1 := by
  obtain ⟨⟨a1, a2⟩, ⟨b1, b2⟩, ⟨c1, c2⟩, d1, ⟨e1, e2, e3, e4⟩, f⟩ := h
  exact ⟨⟨a1.kept hq, a2.kept hq⟩, ⟨b1.kept hq, b2.kept hq⟩, ⟨c1.kept hq, c2.kept hq⟩, d1.kept hq, ⟨e1.kept hq, e2.kept hq, e3.kept hq, fun j hj => (e4 j hj).kept hq⟩, fun i hi => ⟨(f i hi).1.kept hq, (f i hi).2.1.kept hq, (f i hi).2.2.1.kept hq, (f i hi).2.2.2.kept hq⟩⟩
theorem HF.narrow {ad : Nat → Nat} {A B : Nat → Prop} {U : State} {H : Heap} (h : HF ad A U H) (hq : ∀ q, B q → A q) : HF ad B U H := by
  obtain ⟨⟨a1, a2⟩, ⟨b1, b2⟩, ⟨c1, c2⟩, d1, ⟨e1, e2, e3, e4⟩, f⟩ := h
  exact ⟨⟨a1.narrow hq, a2.narrow hq⟩, ⟨b1.narrow hq, b2.narrow hq⟩, ⟨c1.narrow hq, c2.narrow hq⟩, d1.narrow hq, ⟨e1.narrow hq, e2.narrow hq, e3.narrow hq, fun j hj => (e4 j hj).narrow hq⟩, fun i hi => ⟨(f i hi).1.narrow hq, (f i hi).2.1.narrow hq, (f i hi).2.2.1.narrow hq, (f i hi).2.2.2.narrow hq⟩⟩
def SF (g : GP) (A : Nat → Prop) (U : State) (H : Heap) : Prop := TF U ∧ RF g.2.2 U ∧ HF g.2.2 A U H
def PRE (g : GP) (ws : va_W) (sz : Nat) (U : State) : Prop := U.heap.size = sz ∧ va_P g.1 CLS ws U.heap ∧ va_K g.1 CLS (TYS g.2.1) U ∧ va_D (fun _ => True) ws ∧ SF g (va_A ws sz) U U.heap
def POST (g : GP) (A : Nat → Prop) (u : va_W) (t : State) : Prop := va_P g.1 CLS u t.heap ∧ va_K g.1 CLS (TYS g.2.1) t ∧ va_D A u
/-- contracts: a method that returns an int, nothing, a reference or null, a long -/
def CI (l : Launch) (y : MethodName) (w : List Cond) (rm : Room) (g : GP) (av : List Value) (ws : va_W) (post : Int32 → va_W → Prop) : Prop :=
  ∀ sz : Nat, Met l y w rm (va_Pc av (PRE g ws sz)) (va_Qi post (POST g (va_A ws sz)) (va_A ws sz)) rm.cells rm.slots (va_A ws sz)
def CV (l : Launch) (y : MethodName) (w : List Cond) (rm : Room) (g : GP) (av : List Value) (ws : va_W) (post : va_W → Prop) : Prop :=
  ∀ sz : Nat, Met l y w rm (va_Pc av (PRE g ws sz)) (va_Qv post (POST g (va_A ws sz)) (va_A ws sz)) rm.cells rm.slots (va_A ws sz)
def CQ (l : Launch) (y : MethodName) (w : List Cond) (rm : Room) (g : GP) (av : List Value) (ws : va_W) (post : Option Nat → va_W → Prop) : Prop :=
  ∀ sz : Nat, Met l y w rm (va_Pc av (PRE g ws sz)) (va_Qq post (POST g (va_A ws sz)) (va_A ws sz)) rm.cells rm.slots (va_A ws sz)
def CL (l : Launch) (y : MethodName) (w : List Cond) (rm : Room) (g : GP) (av : List Value) (ws : va_W) (post : Int64 → va_W → Prop) : Prop :=
  ∀ sz : Nat, Met l y w rm (va_Pc av (PRE g ws sz)) (va_Ql post (POST g (va_A ws sz)) (va_A ws sz)) rm.cells rm.slots (va_A ws sz)
def CF (l : Launch) (y : MethodName) (w : List Cond) (rm : Room) (g : GP) (av : List Value) (ws : va_W) (post : UInt32 → va_W → Prop) : Prop :=
  ∀ sz : Nat, Met l y w rm (va_Pc av (PRE g ws sz)) (va_Qf post (POST g (va_A ws sz)) (va_A ws sz)) rm.cells rm.slots (va_A ws sz)
def CD (l : Launch) (y : MethodName) (w : List Cond) (rm : Room) (g : GP) (av : List Value) (ws : va_W) (post : UInt64 → va_W → Prop) : Prop :=
  ∀ sz : Nat, Met l y w rm (va_Pc av (PRE g ws sz)) (va_Qd post (POST g (va_A ws sz)) (va_A ws sz)) rm.cells rm.slots (va_A ws sz)
/-- .. or throws an object of the class E, under px -/
def XB : String → String → State → Prop := fun E E' _ => E' = E
abbrev XX (px : String → Prop) (A : Nat → Prop) : String → State → State → Prop := vx_X (fun E : String => px E) (fun E' E _ => E' = E) A
def XI (l : Launch) (y : MethodName) (w : List Cond) (rm : Room) (g : GP) (av : List Value) (ws : va_W) (post : Int32 → va_W → Prop) (px : String → Prop) : Prop :=
  ∀ sz : Nat, vx_Met l y w rm (va_Pc av (PRE g ws sz)) (va_Qi post (POST g (va_A ws sz)) (va_A ws sz)) (XX px (va_A ws sz)) rm.cells rm.slots (va_A ws sz)
def XQ (l : Launch) (y : MethodName) (w : List Cond) (rm : Room) (g : GP) (av : List Value) (ws : va_W) (post : Option Nat → va_W → Prop) (px : String → Prop) : Prop :=
  ∀ sz : Nat, vx_Met l y w rm (va_Pc av (PRE g ws sz)) (va_Qq post (POST g (va_A ws sz)) (va_A ws sz)) (XX px (va_A ws sz)) rm.cells rm.slots (va_A ws sz)
def XF (l : Launch) (y : MethodName) (w : List Cond) (rm : Room) (g : GP) (av : List Value) (ws : va_W) (post : UInt32 → va_W → Prop) (px : String → Prop) : Prop :=
  ∀ sz : Nat, vx_Met l y w rm (va_Pc av (PRE g ws sz)) (va_Qf post (POST g (va_A ws sz)) (va_A ws sz)) (XX px (va_A ws sz)) rm.cells rm.slots (va_A ws sz)
def XD (l : Launch) (y : MethodName) (w : List Cond) (rm : Room) (g : GP) (av : List Value) (ws : va_W) (post : UInt64 → va_W → Prop) (px : String → Prop) : Prop :=
  ∀ sz : Nat, vx_Met l y w rm (va_Pc av (PRE g ws sz)) (va_Qd post (POST g (va_A ws sz)) (va_A ws sz)) (XX px (va_A ws sz)) rm.cells rm.slots (va_A ws sz)
theorem q_blind {g : GP} {av : List Value} {ws : va_W} {sz : Nat} : FrameBlind (va_Pc av (PRE g ws sz)) := fun a U g' mk q => by
  obtain ⟨q0, q1, qP, qK, qD, qT, qR, qH⟩ := q
  exact ⟨q0, q1, qP, va_K.moved (u := U) (U := U.calling g' mk a) (Vm.Alike.refl U.vm) qK, qD, TF.moved (s := U) (U := U.calling g' mk a) (State.WarmedH.refl U) qT, RF.moved (s := U) (U := U.calling g' mk a) (State.WarmedH.refl U) qR, HF.moved (u := U) (U := U.calling g' mk a) (Vm.Alike.refl U.vm) qH⟩
/-- the callee's start, from the caller's world -/
theorem q_pre {g : GP} {s : State} {A : Nat → Prop} {wc : va_W} {H : Heap} {locs : List Loc} (av : List Value) (hP : va_P g.1 CLS wc H) (hD : va_D A wc) (hK : va_K g.1 CLS (TYS g.2.1) s) (hS : va_S A s.heap H locs) (hT : SF g A s s.heap) (hF : ∀ q, va_A wc H.size q → A q) :
    FrameBlind (va_Pc av (PRE g wc H.size)) ∧ ∀ U : State, U.heap = H → s.WarmedH U.vm → va_Pc av (PRE g wc H.size) av.toArray U :=
  ⟨q_blind, fun U hU hW => ⟨rfl, by rw [hU], by rw [hU]; exact hP, va_K.moved hW.alike hK, hD.weaken (fun _ _ _ _ => trivial), TF.moved hW hT.1, RF.moved hW hT.2.1, by
    rw [hU]
    exact HF.moved hW.alike ((HF.kept hT.2.2 hS.2.1).narrow hF)⟩⟩
