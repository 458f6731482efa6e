/-! own words: one list of good words for every method; contracts over a list of cells -/
def G9 : List Cond := lw_tbl.filter goodWord
theorem g9 {w : Cond} (i : Nat) (h : lw_tbl[i]? = some w) (g : goodWord w = true) : w ∈ G9 := List.mem_filter.mpr ⟨List.mem_of_getElem? h, g⟩
theorem g9_good {w : Cond} (h : w ∈ G9) : goodWord w = true := (List.mem_filter.mp h).2
theorem g9_in {w : Cond} (h : w ∈ G9) : w ∈ lw_tbl := (List.mem_filter.mp h).1
abbrev wG (y : MethodName) (b : ByteArray) (n : Nat) (r : Option FieldType) : List Cond := .code y b n r :: G9
abbrev wH (y : MethodName) (b : ByteArray) (n : Nat) (r : Option FieldType) (hh : List (Nat × Nat × Nat × Nat)) : List Cond := .codeWith y b n r hh :: G9
abbrev LV (d mc ms : Nat) : Room := { frames := 8 * d, cells := mc, slots := ms, locals := 400 * d }
abbrev okN (y : MethodName) (n : Nat) : Prop := y.cls ≠ "java/lang/invoke/MethodHandle" ∧ y.cls ≠ "java/lang/invoke/VarHandle" ∧ (parseMethodDescriptor y.desc).map (fun d => d.parameters.length) = some n
theorem qsig {y : MethodName} {n : Nat} (h : okN y n) : ∀ sig, parseMethodDescriptor y.desc = some sig → n = sig.parameters.length := by
  intro sig hs
  have h3 := h.2.2
  rw [hs] at h3
  exact (Option.some.inj h3).symm
theorem qB {R : Room} {s : State} {args : Array Value} {own : String} {index : Nat} {y : MethodName} {b : ByteArray} {n mc ms k : Nat} {r : Option FieldType} {rm : Room} (ht : ∀ w ∈ G9, w.before args s = true)
    (hc : Cond.code y b n r ∈ G9) (hi : Cond.initialized y.cls ∈ G9) (hl : Cond.methodLink own index y ∈ G9) (ho : okN y k) (hrc : rm.cells = mc) (hrs : rm.slots = ms) (hR : rm.frames + 1 ≤ R.frames ∧ 8 + (n + 11) + rm.locals ≤ R.locals) :
    CallB R s args own index y b n r (wG y b n r) rm mc ms k :=
  ⟨hrc, hrs, hR.1, hR.2, fun w hw a' U hW => (List.mem_cons.mp hw).elim (fun e => by rw [e]; exact word_at hW (good_of_word (g9_good hc)) (ht _ hc)) (fun h => word_at hW (good_of_word (g9_good h)) (ht w h)), List.mem_cons_self, ht _ hc, ht _ hi, ⟨ho.1, ho.2.1⟩, qsig ho, ht _ hl⟩
theorem qN {R : Room} {s : State} {args : Array Value} {own host : String} {index : Nat} {y : MethodName} {b : ByteArray} {n mc ms k : Nat} {r : Option FieldType} {rm : Room} (ht : ∀ w ∈ G9, w.before args s = true)
    (hc : Cond.code y b n r ∈ G9) (hi : Cond.initialized y.cls ∈ G9) (hl : va_Nw (.methodLinkNest own index y host) s) (ho : okN y k) (hrc : rm.cells = mc) (hrs : rm.slots = ms) (hR : rm.frames + 1 ≤ R.frames ∧ 8 + (n + 11) + rm.locals ≤ R.locals) :
    va_CN R s args own index y host b n r (wG y b n r) rm mc ms k :=
  va_cnB k ht (fun w hw => (List.mem_cons.mp hw).elim (fun e => by rw [e]; exact ⟨hc, good_of_word (g9_good hc)⟩) (fun h => ⟨h, good_of_word (g9_good h)⟩)) rfl hrc hrs hl (ht _ hi) ho hR
theorem qI5 {R : Room} {s : State} {args : Array Value} {own C : String} {index : Nat} {x y : MethodName} {b : ByteArray} {n mc ms k : Nat} {r : Option FieldType} {rm : Room} (ht : ∀ w ∈ G9, w.before args s = true)
    (hc : Cond.code y b n r ∈ G9) (hi : Cond.initialized y.cls ∈ G9) (hl : Cond.methodLink own index x ∈ G9) (hse : Cond.selects C x y ∈ G9) (hin : Cond.instanceMethod y ∈ G9) (hF : va_Fw C x y s) (ho : okN x k) (hrc : rm.cells = mc) (hrs : rm.slots = ms) (hR : rm.frames + 1 ≤ R.frames ∧ 8 + (n + 11) + rm.locals ≤ R.locals) :
    va_CI R s args own C index x y b n r (wG y b n r) rm mc ms k := by
  refine va_cwF k ht ?_ rfl hrc hrs hF ho hR
  intro w hw
  rcases List.mem_append.mp hw with h | h
  · have : w ∈ G9 := by
      simp only [List.mem_cons, List.not_mem_nil, or_false] at h
      rcases h with rfl | rfl | rfl | rfl
      · exact hl
      · exact hse
      · exact hin
      · exact hi
    exact ⟨this, good_of_word (g9_good this)⟩
  · exact (List.mem_cons.mp h).elim (fun e => by rw [e]; exact ⟨hc, good_of_word (g9_good hc)⟩) (fun h => ⟨h, good_of_word (g9_good h)⟩)
/-- the classes whose objects are made or written -/
abbrev CLS : List vw_C := [(RJx35411, TJx35411, 4), (RJx4a65c, TJx4a65c, 3)]
abbrev TYS (dA : Nat → ClassId) : List (ClassId × FieldType) := [(dA 0, .char), (dA 1, .int), (dA 2, .boolean), (dA 3, .object "HeroTable$Hero"), (dA 4, .object "HeroTable$Source"), (dA 5, .object "java/lang/Object"), (dA 6, .long), (dA 7, .double)]
/-- what is fixed for a run: class numbers, slots, array classes, addresses; 2010 and on: numbers -/
abbrev GP : Type := va_G × (Nat → ClassId) × (Nat → Nat)
abbrev yI_iterator : MethodName := ⟨"java/util/List", "iterator", "()Ljava/util/Iterator;"⟩
abbrev yI_hasNext : MethodName := ⟨"java/util/Iterator", "hasNext", "()Z"⟩
abbrev yI_next : MethodName := ⟨"java/util/Iterator", "next", "()Ljava/lang/Object;"⟩
/-- what holds of the tables alone -/
abbrev NESTS : List (String × Nat × String × String × String × String) := [("java/util/ArrayList$Itr", 28, "java/util/ArrayList", "size", "I", "java/util/ArrayList"), ("HeroTableModel", 366, "HeroTableModel$Call", "what", "C", "HeroTableModel"), ("HeroTableModel", 435, "HeroTableModel$Call", "numbers", "[I", "HeroTableModel"), ("HeroTableModel", 202, "HeroTableModel$Hero", "number", "I", "HeroTableModel"), ("HeroTableModel", 308, "HeroTableModel$Hero", "side", "I", "HeroTableModel"), ("HeroTableModel", 138, "HeroTableModel$Hero", "most", "I", "HeroTableModel"), ("HeroTableModel", 282, "HeroTableModel$Hero", "initiative", "I", "HeroTableModel"), ("HeroTableModel", 129, "HeroTableModel$Hero", "bases", "[I", "HeroTableModel"), ("HeroTableModel", 141, "HeroTableModel$Hero", "life", "I", "HeroTableModel"), ("HeroTableModel", 135, "HeroTableModel$Hero", "spare", "I", "HeroTableModel"), ("HeroTableModel", 84, "HeroTableModel$Hero", "x", "I", "HeroTableModel"), ("HeroTableModel", 87, "HeroTableModel$Hero", "y", "I", "HeroTableModel"), ("HeroTableModel", 199, "HeroTableModel$Hero", "immune", "I", "HeroTableModel"), ("HeroTableModel", 298, "HeroTableModel$Hero", "slots", "I", "HeroTableModel"), ("HeroTableModel", 269, "HeroTableModel$Hero", "hasReaction", "Z", "HeroTableModel"), ("HeroTableModel", 266, "HeroTableModel$Hero", "trigger", "C", "HeroTableModel"), ("HeroTableModel", 305, "HeroTableModel$Hero", "reaction", "C", "HeroTableModel"), ("HeroTableModel", 159, "HeroTableModel$Source", "hero", "I", "HeroTableModel"), ("HeroTableModel", 205, "HeroTableModel$Source", "letter", "C", "HeroTableModel"), ("HeroTableModel", 209, "HeroTableModel$Source", "type", "C", "HeroTableModel"), ("HeroTableModel", 212, "HeroTableModel$Source", "amount", "I", "HeroTableModel"), ("HeroTableModel", 260, "HeroTableModel$Source", "whose", "I", "HeroTableModel"), ("HeroTableModel", 257, "HeroTableModel$Source", "hasRounds", "Z", "HeroTableModel"), ("HeroTableModel", 263, "HeroTableModel$Source", "rounds", "I", "HeroTableModel"), ("HeroTableModel", 152, "HeroTableModel$Source", "isLive", "Z", "HeroTableModel"), ("HeroTableModel", 345, "HeroTableModel$Source", "minder", "I", "HeroTableModel"), ("HeroTableModel", 156, "HeroTableModel$Source", "isOfHarm", "Z", "HeroTableModel")]
def TF (U : State) : Prop :=
  (∀ q ∈ NESTS, va_Nw (.fieldLinkNest q.1 q.2.1 q.2.2.1 q.2.2.2.1 q.2.2.2.2.1 q.2.2.2.2.2) U) ∧
  (va_Fw RJx4a65c yI_iterator yJx4a65c_iterator_32c93 U ∧ va_Fw RJx35411 yI_hasNext yJx35411_hasNext_aae02 U ∧ va_Fw RJx35411 yI_next yJx35411_next_0502b U)
theorem TF.moved {s U : State} (hW : s.WarmedH U.vm) (h : TF s) : TF U := by
  obtain ⟨b2, c1, c2, c3⟩ := h
  exact ⟨fun q hq => va_Nw.warmF hW (b2 q hq), va_Fw.moved (by decide +kernel) hW.alike c1, va_Fw.moved (by decide +kernel) hW.alike c2, va_Fw.moved (by decide +kernel) hW.alike c3⟩
/-- the texts' references: own class, place, text, number of the address -/
abbrev SRS : List (String × Nat × String × Nat) := [("HeroTableModel", 123, "atdsw", 13)]
def RF (ad : Nat → Nat) (U : State) : Prop := ∀ q ∈ SRS, vk_R q.1 q.2.1 q.2.2.1 (ad q.2.2.2) U
theorem RF.moved {ad : Nat → Nat} {s U : State} (hW : s.WarmedH U.vm) (h : RF ad s) : RF ad U := fun q hq => vk_R.warm hW (h q hq)
/-- the sources, in any number ad 2010 (at most 2^30), each live, the hero's, of a condition (letter 'p': 112, type 'c': 99) -/
def SRC (ad : Nat → Nat) (A : Nat → Prop) (U : State) (H : Heap) : Prop := ∀ j : Nat, j < ad 2010 →
  va_O "HeroTableModel$Source" (ad (3000 + j)) A U H ∧ va_OF "HeroTableModel$Source" "isLive" "Z" (.int 1) (ad (3000 + j)) A U H ∧ va_OF "HeroTableModel$Source" "hero" "I" (.int 0) (ad (3000 + j)) A U H ∧ va_OF "HeroTableModel$Source" "letter" "C" (.int 112) (ad (3000 + j)) A U H
/-- the list of the sources: its row may be longer than it is -/
def LST (ad : Nat → Nat) (A : Nat → Prop) (U : State) (H : Heap) : Prop :=
  va_O "java/util/ArrayList" (ad 2002) A U H ∧ va_OF "java/util/ArrayList" "size" "I" (.int (nI (ad 2010))) (ad 2002) A U H ∧ va_OF "java/util/ArrayList" "elementData" "[Ljava/lang/Object;" (.ref (ad 2003)) (ad 2002) A U H ∧ va_OF "java/util/ArrayList" "modCount" "I" (.int (nI (ad 2012))) (ad 2002) A U H ∧
  va_T (.object "java/lang/Object") (ad 2003) (ad 2011) (fun j => if j < ad 2010 then .ref (ad (3000 + j)) else .null) A U H
/-- the model, its hero (number 0, bases 12, 4, 5, 4, 2), its dice (none left) -/
def MDL (ad : Nat → Nat) (A : Nat → Prop) (U : State) (H : Heap) : Prop :=
  (va_O "HeroTableModel" (ad 2000) A U H ∧ va_OF "HeroTableModel" "sources" "Ljava/util/List;" (.ref (ad 2002)) (ad 2000) A U H ∧ va_OF "HeroTableModel" "dice" "Ljava/util/ArrayDeque;" (.ref (ad 2005)) (ad 2000) A U H) ∧
  (va_O "java/util/ArrayDeque" (ad 2005) A U H ∧ va_OF "java/util/ArrayDeque" "head" "I" (.int (nI (ad 2013))) (ad 2005) A U H ∧ va_OF "java/util/ArrayDeque" "tail" "I" (.int (nI (ad 2013))) (ad 2005) A U H) ∧
  (va_OF "HeroTableModel$Hero" "number" "I" (.int 0) (ad 2001) A U H ∧ va_OF "HeroTableModel$Hero" "bases" "[I" (.ref (ad 2004)) (ad 2001) A U H ∧ va_T .int (ad 2004) 5 (fun j => .int (([12, 4, 5, 4, 2] : List Int32).getD j 0)) A U H)
/-- the text of the numbers' letters -/
def TXT (ad : Nat → Nat) (A : Nat → Prop) (U : State) (H : Heap) : Prop :=
  va_Z "java/lang/String" "COMPACT_STRINGS" "Z" (.int 1) A U H ∧
  (va_O "java/lang/String" (ad 13) A U H ∧ va_OF "java/lang/String" "coder" "B" (.int 0) (ad 13) A U H ∧ va_OF "java/lang/String" "value" "[B" (.ref (ad 23)) (ad 13) A U H ∧ va_T .byte (ad 23) 5 (fun j => .int (([97, 116, 100, 115, 119] : List Int32).getD j 0)) A U H)
theorem SRC.moved {ad : Nat → Nat} {A : Nat → Prop} {u U : State} {H : Heap} (hvm : u.vm.Alike U.vm) (h : SRC ad A u H) : SRC ad A U H := fun j hj => ⟨(h j hj).1.moved hvm, (h j hj).2.1.moved hvm, (h j hj).2.2.1.moved hvm, (h j hj).2.2.2.moved hvm⟩
theorem SRC.kept {ad : Nat → Nat} {A : Nat → Prop} {U : State} {H H1 : Heap} (h : SRC ad A U H) (hq : ∀ a : Nat, a < H.size → ¬ A a → H1[a]? = H[a]?) : SRC ad A U H1 := fun j hj => ⟨(h j hj).1.kept hq, (h j hj).2.1.kept hq, (h j hj).2.2.1.kept hq, (h j hj).2.2.2.kept hq⟩
theorem SRC.narrow {ad : Nat → Nat} {A B : Nat → Prop} {U : State} {H : Heap} (h : SRC ad A U H) (hq : ∀ q, B q → A q) : SRC ad B U H := fun j hj => ⟨(h j hj).1.narrow hq, (h j hj).2.1.narrow hq, (h j hj).2.2.1.narrow hq, (h j hj).2.2.2.narrow hq⟩
theorem LST.moved {ad : Nat → Nat} {A : Nat → Prop} {u U : State} {H : Heap} (hvm : u.vm.Alike U.vm) (h : LST ad A u H) : LST ad A U H := by
  obtain ⟨a1, a2, a3, a4, a5⟩ := h
  exact ⟨a1.moved hvm, a2.moved hvm, a3.moved hvm, a4.moved hvm, a5.moved hvm⟩
theorem LST.kept {ad : Nat → Nat} {A : Nat → Prop} {U : State} {H H1 : Heap} (h : LST ad A U H) (hq : ∀ a : Nat, a < H.size → ¬ A a → H1[a]? = H[a]?) : LST ad A U H1 := by
  obtain ⟨a1, a2, a3, a4, a5⟩ := h
  exact ⟨a1.kept hq, a2.kept hq, a3.kept hq, a4.kept hq, a5.kept hq⟩
theorem LST.narrow {ad : Nat → Nat} {A B : Nat → Prop} {U : State} {H : Heap} (h : LST ad A U H) (hq : ∀ q, B q → A q) : LST ad B U H := by
  obtain ⟨a1, a2, a3, a4, a5⟩ := h
  exact ⟨a1.narrow hq, a2.narrow hq, a3.narrow hq, a4.narrow hq, a5.narrow hq⟩
theorem MDL.moved {ad : Nat → Nat} {A : Nat → Prop} {u U : State} {H : Heap} (hvm : u.vm.Alike U.vm) (h : MDL ad A u H) : MDL ad A U H := by
  obtain ⟨⟨a1, a2, a3⟩, ⟨b1, b2, b3⟩, c1, c2, c3⟩ := h
  exact ⟨⟨a1.moved hvm, a2.moved hvm, a3.moved hvm⟩, ⟨b1.moved hvm, b2.moved hvm, b3.moved hvm⟩, c1.moved hvm, c2.moved hvm, c3.moved hvm⟩
theorem MDL.kept {ad : Nat → Nat} {A : Nat → Prop} {U : State} {H H1 : Heap} (h : MDL ad A U H) (hq : ∀ a : Nat, a < H.size → ¬ A a → H1[a]? = H[a]?) : MDL ad A U H1 := by
  obtain ⟨⟨a1, a2, a3⟩, ⟨b1, b2, b3⟩, c1, c2, c3⟩ := h
  exact ⟨⟨a1.kept hq, a2.kept hq, a3.kept hq⟩, ⟨b1.kept hq, b2.kept hq, b3.kept hq⟩, c1.kept hq, c2.kept hq, c3.kept hq⟩
theorem MDL.narrow {ad : Nat → Nat} {A B : Nat → Prop} {U : State} {H : Heap} (h : MDL ad A U H) (hq : ∀ q, B q → A q) : MDL ad B U H := by
  obtain ⟨⟨a1, a2, a3⟩, ⟨b1, b2, b3⟩, c1, c2, c3⟩ := h
  exact ⟨⟨a1.narrow hq, a2.narrow hq, a3.narrow hq⟩, ⟨b1.narrow hq, b2.narrow hq, b3.narrow hq⟩, c1.narrow hq, c2.narrow hq, c3.narrow hq⟩
theorem TXT.moved {ad : Nat → Nat} {A : Nat → Prop} {u U : State} {H : Heap} (hvm : u.vm.Alike U.vm) (h : TXT ad A u H) : TXT ad A U H := by
  obtain ⟨d1, a1, a2, a3, a4⟩ := h
  exact ⟨d1.moved hvm, a1.moved hvm, a2.moved hvm, a3.moved hvm, a4.moved hvm⟩
theorem TXT.kept {ad : Nat → Nat} {A : Nat → Prop} {U : State} {H H1 : Heap} (h : TXT ad A U H) (hq : ∀ a : Nat, a < H.size → ¬ A a → H1[a]? = H[a]?) : TXT ad A U H1 := by
  obtain ⟨d1, a1, a2, a3, a4⟩ := h
  exact ⟨d1.kept hq, a1.kept hq, a2.kept hq, a3.kept hq, a4.kept hq⟩
theorem TXT.narrow {ad : Nat → Nat} {A B : Nat → Prop} {U : State} {H : Heap} (h : TXT ad A U H) (hq : ∀ q, B q → A q) : TXT ad B U H := by
  obtain ⟨d1, a1, a2, a3, a4⟩ := h
  exact ⟨d1.narrow hq, a1.narrow hq, a2.narrow hq, a3.narrow hq, a4.narrow hq⟩
/-- numbers: how many sources, how long the row -/
def NUM (ad : Nat → Nat) : Prop := ad 2010 ≤ ad 2011 ∧ ad 2010 < 2 ^ 30 ∧ ad 2011 < 2 ^ 31
def HF (ad : Nat → Nat) (A : Nat → Prop) (U : State) (H : Heap) : Prop := TXT ad A U H ∧ MDL ad A U H ∧ LST ad A U H ∧ SRC ad A U H ∧ NUM ad
theorem HF.moved {ad : Nat → Nat} {A : Nat → Prop} {u U : State} {H : Heap} (hvm : u.vm.Alike U.vm) (h : HF ad A u H) : HF ad A U H := ⟨h.1.moved hvm, h.2.1.moved hvm, h.2.2.1.moved hvm, h.2.2.2.1.moved hvm, h.2.2.2.2⟩
theorem HF.kept {ad : Nat → Nat} {A : Nat → Prop} {U : State} {H H1 : Heap} (h : HF ad A U H) (hq : ∀ a : Nat, a < H.size → ¬ A a → H1[a]? = H[a]?) : HF ad A U H1 := ⟨h.1.kept hq, h.2.1.kept hq, h.2.2.1.kept hq, h.2.2.2.1.kept hq, h.2.2.2.2⟩
theorem HF.narrow {ad : Nat → Nat} {A B : Nat → Prop} {U : State} {H : Heap} (h : HF ad A U H) (hq : ∀ q, B q → A q) : HF ad B U H := ⟨h.1.narrow hq, h.2.1.narrow hq, h.2.2.1.narrow hq, h.2.2.2.1.narrow hq, h.2.2.2.2⟩
def SF (g : GP) (A : Nat → Prop) (U : State) (H : Heap) : Prop := TF U ∧ RF g.2.2 U ∧ HF g.2.2 A U H
def PRE (g : GP) (ws : va_W) (sz : Nat) (U : State) : Prop := U.heap.size = sz ∧ va_P g.1 CLS ws U.heap ∧ va_K g.1 CLS (TYS g.2.1) U ∧ va_D (fun _ => True) ws ∧ SF g (va_A ws sz) U U.heap
def POST (g : GP) (A : Nat → Prop) (u : va_W) (t : State) : Prop := va_P g.1 CLS u t.heap ∧ va_K g.1 CLS (TYS g.2.1) t ∧ va_D A u
/-- contracts: a method that returns an int, nothing, a reference or null, a long -/
def CI (l : Launch) (y : MethodName) (w : List Cond) (rm : Room) (g : GP) (av : List Value) (ws : va_W) (post : Int32 → va_W → Prop) : Prop :=
  ∀ sz : Nat, Met l y w rm (va_Pc av (PRE g ws sz)) (va_Qi post (POST g (va_A ws sz)) (va_A ws sz)) rm.cells rm.slots (va_A ws sz)
def CV (l : Launch) (y : MethodName) (w : List Cond) (rm : Room) (g : GP) (av : List Value) (ws : va_W) (post : va_W → Prop) : Prop :=
  ∀ sz : Nat, Met l y w rm (va_Pc av (PRE g ws sz)) (va_Qv post (POST g (va_A ws sz)) (va_A ws sz)) rm.cells rm.slots (va_A ws sz)
def CQ (l : Launch) (y : MethodName) (w : List Cond) (rm : Room) (g : GP) (av : List Value) (ws : va_W) (post : Option Nat → va_W → Prop) : Prop :=
  ∀ sz : Nat, Met l y w rm (va_Pc av (PRE g ws sz)) (va_Qq post (POST g (va_A ws sz)) (va_A ws sz)) rm.cells rm.slots (va_A ws sz)
/-- .. and at least k cells are new -/
def ZI (l : Launch) (y : MethodName) (w : List Cond) (rm : Room) (g : GP) (av : List Value) (ws : va_W) (k : Nat) (post : Int32 → va_W → Prop) : Prop :=
  ∀ sz : Nat, Met l y w rm (va_Pc av (PRE g ws sz)) (va_Qi post (fun u t => POST g (va_A ws sz) u t ∧ sz + k ≤ t.heap.size) (va_A ws sz)) rm.cells rm.slots (va_A ws sz)
theorem q_blind {g : GP} {av : List Value} {ws : va_W} {sz : Nat} : FrameBlind (va_Pc av (PRE g ws sz)) := fun a U g' mk q => by
  obtain ⟨q0, q1, qP, qK, qD, qT, qR, qH⟩ := q
  exact ⟨q0, q1, qP, va_K.moved (u := U) (U := U.calling g' mk a) (Vm.Alike.refl U.vm) qK, qD, TF.moved (s := U) (U := U.calling g' mk a) (State.WarmedH.refl U) qT, RF.moved (s := U) (U := U.calling g' mk a) (State.WarmedH.refl U) qR, HF.moved (u := U) (U := U.calling g' mk a) (Vm.Alike.refl U.vm) qH⟩
/-- the callee's start, from the caller's world -/
theorem q_pre {g : GP} {s : State} {A : Nat → Prop} {wc : va_W} {H : Heap} {locs : List Loc} (av : List Value) (hP : va_P g.1 CLS wc H) (hD : va_D A wc) (hK : va_K g.1 CLS (TYS g.2.1) s) (hS : va_S A s.heap H locs) (hT : SF g A s s.heap) (hF : ∀ q, va_A wc H.size q → A q) :
    FrameBlind (va_Pc av (PRE g wc H.size)) ∧ ∀ U : State, U.heap = H → s.WarmedH U.vm → va_Pc av (PRE g wc H.size) av.toArray U :=
  ⟨q_blind, fun U hU hW => ⟨rfl, by rw [hU], by rw [hU]; exact hP, va_K.moved hW.alike hK, hD.weaken (fun _ _ _ _ => trivial), TF.moved hW hT.1, RF.moved hW hT.2.1, by
    rw [hU]
    exact HF.moved hW.alike ((HF.kept hT.2.2 hS.2.1).narrow hF)⟩⟩
