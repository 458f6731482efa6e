/-! own words: one list of good words for every method; contracts over a list of cells -/
def G9 : List Cond := lw_tbl.filter goodWord
theorem g9 {w : Cond} (i : Nat) (h : lw_tbl[i]? = some w) (g : goodWord w = true) : w ∈ G9 := List.mem_filter.mpr ⟨List.mem_of_getElem? h, g⟩
theorem g9_good {w : Cond} (h : w ∈ G9) : goodWord w = true := (List.mem_filter.mp h).2
theorem g9_in {w : Cond} (h : w ∈ G9) : w ∈ lw_tbl := (List.mem_filter.mp h).1
abbrev wG (y : MethodName) (b : ByteArray) (n : Nat) (r : Option FieldType) : List Cond := .code y b n r :: G9
abbrev wH (y : MethodName) (b : ByteArray) (n : Nat) (r : Option FieldType) (hh : List (Nat × Nat × Nat × Nat)) : List Cond := .codeWith y b n r hh :: G9
abbrev LV (d mc ms : Nat) : Room := { frames := 8 * d, cells := mc, slots := ms, locals := 400 * d }
abbrev okN (y : MethodName) (n : Nat) : Prop := y.cls ≠ "java/lang/invoke/MethodHandle" ∧ y.cls ≠ "java/lang/invoke/VarHandle" ∧ (parseMethodDescriptor y.desc).map (fun d => d.parameters.length) = some n
theorem qsig {y : MethodName} {n : Nat} (h : okN y n) : ∀ sig, parseMethodDescriptor y.desc = some sig → n = sig.parameters.length := by
  intro sig hs
  have h3 := h.2.2
  rw [hs] at h3
  exact (Option.some.inj h3).symm
theorem qB {R : Room} {s : State} {args : Array Value} {own : String} {index : Nat} {y : MethodName} {b : ByteArray} {n mc ms k : Nat} {r : Option FieldType} {rm : Room} (ht : ∀ w ∈ G9, w.before args s = true)
    (hc : Cond.code y b n r ∈ G9) (hi : Cond.initialized y.cls ∈ G9) (hl : Cond.methodLink own index y ∈ G9) (ho : okN y k) (hrc : rm.cells = mc) (hrs : rm.slots = ms) (hR : rm.frames + 1 ≤ R.frames ∧ 8 + (n + 11) + rm.locals ≤ R.locals) :
    CallB R s args own index y b n r (wG y b n r) rm mc ms k :=
  ⟨hrc, hrs, hR.1, hR.2, fun w hw a' U hW => (List.mem_cons.mp hw).elim (fun e => by rw [e]; exact word_at hW (good_of_word (g9_good hc)) (ht _ hc)) (fun h => word_at hW (good_of_word (g9_good h)) (ht w h)), List.mem_cons_self, ht _ hc, ht _ hi, ⟨ho.1, ho.2.1⟩, qsig ho, ht _ hl⟩
theorem qN {R : Room} {s : State} {args : Array Value} {own host : String} {index : Nat} {y : MethodName} {b : ByteArray} {n mc ms k : Nat} {r : Option FieldType} {rm : Room} (ht : ∀ w ∈ G9, w.before args s = true)
    (hc : Cond.code y b n r ∈ G9) (hi : Cond.initialized y.cls ∈ G9) (hl : va_Nw (.methodLinkNest own index y host) s) (ho : okN y k) (hrc : rm.cells = mc) (hrs : rm.slots = ms) (hR : rm.frames + 1 ≤ R.frames ∧ 8 + (n + 11) + rm.locals ≤ R.locals) :
    va_CN R s args own index y host b n r (wG y b n r) rm mc ms k :=
  va_cnB k ht (fun w hw => (List.mem_cons.mp hw).elim (fun e => by rw [e]; exact ⟨hc, good_of_word (g9_good hc)⟩) (fun h => ⟨h, good_of_word (g9_good h)⟩)) rfl hrc hrs hl (ht _ hi) ho hR
theorem qI5 {R : Room} {s : State} {args : Array Value} {own C : String} {index : Nat} {x y : MethodName} {b : ByteArray} {n mc ms k : Nat} {r : Option FieldType} {rm : Room} (ht : ∀ w ∈ G9, w.before args s = true)
    (hc : Cond.code y b n r ∈ G9) (hi : Cond.initialized y.cls ∈ G9) (hl : Cond.methodLink own index x ∈ G9) (hse : Cond.selects C x y ∈ G9) (hin : Cond.instanceMethod y ∈ G9) (hF : va_Fw C x y s) (ho : okN x k) (hrc : rm.cells = mc) (hrs : rm.slots = ms) (hR : rm.frames + 1 ≤ R.frames ∧ 8 + (n + 11) + rm.locals ≤ R.locals) :
    va_CI R s args own C index x y b n r (wG y b n r) rm mc ms k := by
  refine va_cwF k ht ?_ rfl hrc hrs hF ho hR
  intro w hw
  rcases List.mem_append.mp hw with h | h
  · have : w ∈ G9 := by
      simp only [List.mem_cons, List.not_mem_nil, or_false] at h
      rcases h with rfl | rfl | rfl | rfl
      · exact hl
      · exact hse
      · exact hin
      · exact hi
    exact ⟨this, good_of_word (g9_good this)⟩
  · exact (List.mem_cons.mp h).elim (fun e => by rw [e]; exact ⟨hc, good_of_word (g9_good hc)⟩) (fun h => ⟨h, good_of_word (g9_good h)⟩)
/-- the classes whose objects are spoken of -/
abbrev CLS : List vw_C := [(RJx35411, TJx35411, 4), (RJx4a65c, TJx4a65c, 3), (RX8, TX8, 2), (RX9, TX9, 14), (RX10, TX10, 10), (RX11, TX11, 14)]
abbrev TYS (dA : Nat → ClassId) : List (ClassId × FieldType) := [(dA 0, .char), (dA 1, .int), (dA 2, .boolean), (dA 3, .object "HeroTable$Hero"), (dA 4, .object "HeroTable$Source"), (dA 5, .object "java/lang/Object"), (dA 6, .long), (dA 7, .double)]
/-- what is fixed for a run: class numbers, slots, array classes, addresses; 2010 and on: numbers -/
abbrev GP : Type := va_G × (Nat → ClassId) × (Nat → Nat)
abbrev yI_iterator : MethodName := ⟨"java/util/List", "iterator", "()Ljava/util/Iterator;"⟩
abbrev yI_hasNext : MethodName := ⟨"java/util/Iterator", "hasNext", "()Z"⟩
abbrev yI_next : MethodName := ⟨"java/util/Iterator", "next", "()Ljava/lang/Object;"⟩
abbrev yI_add : MethodName := ⟨"java/util/List", "add", "(Ljava/lang/Object;)Z"⟩
abbrev yI_get : MethodName := ⟨"java/util/List", "get", "(I)Ljava/lang/Object;"⟩
abbrev yI_size : MethodName := ⟨"java/util/List", "size", "()I"⟩
abbrev NESTS : List (String × Nat × String × String × String × String) := [("java/util/ArrayList$Itr", 28, "java/util/ArrayList", "size", "I", "java/util/ArrayList"), ("HeroTableModel", 366, "HeroTableModel$Call", "what", "C", "HeroTableModel"), ("HeroTableModel", 435, "HeroTableModel$Call", "numbers", "[I", "HeroTableModel"), ("HeroTableModel", 202, "HeroTableModel$Hero", "number", "I", "HeroTableModel"), ("HeroTableModel", 308, "HeroTableModel$Hero", "side", "I", "HeroTableModel"), ("HeroTableModel", 138, "HeroTableModel$Hero", "most", "I", "HeroTableModel"), ("HeroTableModel", 282, "HeroTableModel$Hero", "initiative", "I", "HeroTableModel"), ("HeroTableModel", 129, "HeroTableModel$Hero", "bases", "[I", "HeroTableModel"), ("HeroTableModel", 141, "HeroTableModel$Hero", "life", "I", "HeroTableModel"), ("HeroTableModel", 135, "HeroTableModel$Hero", "spare", "I", "HeroTableModel"), ("HeroTableModel", 84, "HeroTableModel$Hero", "x", "I", "HeroTableModel"), ("HeroTableModel", 87, "HeroTableModel$Hero", "y", "I", "HeroTableModel"), ("HeroTableModel", 199, "HeroTableModel$Hero", "immune", "I", "HeroTableModel"), ("HeroTableModel", 298, "HeroTableModel$Hero", "slots", "I", "HeroTableModel"), ("HeroTableModel", 269, "HeroTableModel$Hero", "hasReaction", "Z", "HeroTableModel"), ("HeroTableModel", 266, "HeroTableModel$Hero", "trigger", "C", "HeroTableModel"), ("HeroTableModel", 305, "HeroTableModel$Hero", "reaction", "C", "HeroTableModel"), ("HeroTableModel", 159, "HeroTableModel$Source", "hero", "I", "HeroTableModel"), ("HeroTableModel", 205, "HeroTableModel$Source", "letter", "C", "HeroTableModel"), ("HeroTableModel", 209, "HeroTableModel$Source", "type", "C", "HeroTableModel"), ("HeroTableModel", 212, "HeroTableModel$Source", "amount", "I", "HeroTableModel"), ("HeroTableModel", 260, "HeroTableModel$Source", "whose", "I", "HeroTableModel"), ("HeroTableModel", 257, "HeroTableModel$Source", "hasRounds", "Z", "HeroTableModel"), ("HeroTableModel", 263, "HeroTableModel$Source", "rounds", "I", "HeroTableModel"), ("HeroTableModel", 152, "HeroTableModel$Source", "isLive", "Z", "HeroTableModel"), ("HeroTableModel", 345, "HeroTableModel$Source", "minder", "I", "HeroTableModel"), ("HeroTableModel", 156, "HeroTableModel$Source", "isOfHarm", "Z", "HeroTableModel")]
/-- what holds of the tables alone -/
def TF (U : State) : Prop :=
  (∀ q ∈ NESTS, va_Nw (.fieldLinkNest q.1 q.2.1 q.2.2.1 q.2.2.2.1 q.2.2.2.2.1 q.2.2.2.2.2) U) ∧ va_Nw (.castable "HeroTableModel$Call" "java/lang/Object") U ∧
  va_Fw RJx4a65c yI_iterator yJx4a65c_iterator_32c93 U ∧ va_Fw RJx35411 yI_hasNext yJx35411_hasNext_aae02 U ∧ va_Fw RJx35411 yI_next yJx35411_next_0502b U ∧ va_Fw RJx4a65c yI_add yJx4a65c_add_9ea2d U ∧ va_Fw RJx4a65c yI_get yJx4a65c_get_915e3 U ∧ va_Fw RJx4a65c yI_size yJx4a65c_size_8abf5 U
theorem TF.moved {s U : State} (hW : s.WarmedH U.vm) (h : TF s) : TF U := by
  obtain ⟨b2, b3, c0, c1, c2, c3, c4, c5⟩ := h
  exact ⟨fun q hq => va_Nw.warmF hW (b2 q hq), va_Nw.warmC hW b3, va_Fw.moved (by decide +kernel) hW.alike c0, va_Fw.moved (by decide +kernel) hW.alike c1, va_Fw.moved (by decide +kernel) hW.alike c2, va_Fw.moved (by decide +kernel) hW.alike c3, va_Fw.moved (by decide +kernel) hW.alike c4, va_Fw.moved (by decide +kernel) hW.alike c5⟩
/-- the texts' references: own class, place, text, number of the address -/
abbrev SRS : List (String × Nat × String × Nat) := [("HeroTableModel", 123, "atdsw", 13)]
def RF (ad : Nat → Nat) (U : State) : Prop := ∀ q ∈ SRS, vk_R q.1 q.2.1 q.2.2.1 (ad q.2.2.2) U
theorem RF.moved {ad : Nat → Nat} {s U : State} (hW : s.WarmedH U.vm) (h : RF ad s) : RF ad U := fun q hq => vk_R.warm hW (h q hq)
/-- the text of the numbers' letters -/
def TXT (g : GP) (A : Nat → Prop) (U : State) (H : Heap) : Prop :=
  va_Z "java/lang/String" "COMPACT_STRINGS" "Z" (.int 1) A U H ∧
  va_O "java/lang/String" (g.2.2 13) A U H ∧
  va_OF "java/lang/String" "coder" "B" (.int 0) (g.2.2 13) A U H ∧
  va_OF "java/lang/String" "value" "[B" (.ref (g.2.2 23)) (g.2.2 13) A U H ∧
  va_T .byte (g.2.2 23) 5 (fun j => .int (([97, 116, 100, 115, 119] : List Int32).getD j 0)) A U H
theorem TXT.moved {g : GP} {A : Nat → Prop} {u U : State} {H : Heap} (hvm : u.vm.Alike U.vm) (h : TXT g A u H) : TXT g A U H := by
  obtain ⟨a0, a1, a2, a3, a4⟩ := h
  exact ⟨a0.moved hvm, a1.moved hvm, a2.moved hvm, a3.moved hvm, a4.moved hvm⟩
theorem TXT.kept {g : GP} {A : Nat → Prop} {U : State} {H H1 : Heap} (h : TXT g A U H) (hq : ∀ a : Nat, a < H.size → ¬ A a → H1[a]? = H[a]?) : TXT g A U H1 := by
  obtain ⟨a0, a1, a2, a3, a4⟩ := h
  exact ⟨a0.kept hq, a1.kept hq, a2.kept hq, a3.kept hq, a4.kept hq⟩
theorem TXT.narrow {g : GP} {A B : Nat → Prop} {U : State} {H : Heap} (h : TXT g A U H) (hq : ∀ q, B q → A q) : TXT g B U H := by
  obtain ⟨a0, a1, a2, a3, a4⟩ := h
  exact ⟨a0.narrow hq, a1.narrow hq, a2.narrow hq, a3.narrow hq, a4.narrow hq⟩
/-- the dice: none left; the bases of the hero: 12, 4, 5, 4, 2 -/
def DEQ (g : GP) (A : Nat → Prop) (U : State) (H : Heap) : Prop :=
  va_O "java/util/ArrayDeque" (g.2.2 2005) A U H ∧
  va_OF "java/util/ArrayDeque" "head" "I" (.int (nI (g.2.2 2013))) (g.2.2 2005) A U H ∧
  va_OF "java/util/ArrayDeque" "tail" "I" (.int (nI (g.2.2 2013))) (g.2.2 2005) A U H ∧
  va_T .int (g.2.2 2004) 5 (fun j => .int (([12, 4, 5, 4, 2] : List Int32).getD j 0)) A U H
theorem DEQ.moved {g : GP} {A : Nat → Prop} {u U : State} {H : Heap} (hvm : u.vm.Alike U.vm) (h : DEQ g A u H) : DEQ g A U H := by
  obtain ⟨a0, a1, a2, a3⟩ := h
  exact ⟨a0.moved hvm, a1.moved hvm, a2.moved hvm, a3.moved hvm⟩
theorem DEQ.kept {g : GP} {A : Nat → Prop} {U : State} {H H1 : Heap} (h : DEQ g A U H) (hq : ∀ a : Nat, a < H.size → ¬ A a → H1[a]? = H[a]?) : DEQ g A U H1 := by
  obtain ⟨a0, a1, a2, a3⟩ := h
  exact ⟨a0.kept hq, a1.kept hq, a2.kept hq, a3.kept hq⟩
theorem DEQ.narrow {g : GP} {A B : Nat → Prop} {U : State} {H : Heap} (h : DEQ g A U H) (hq : ∀ q, B q → A q) : DEQ g B U H := by
  obtain ⟨a0, a1, a2, a3⟩ := h
  exact ⟨a0.narrow hq, a1.narrow hq, a2.narrow hq, a3.narrow hq⟩
/-- the list of the sources: its row may be longer than it is -/
def LST (g : GP) (A : Nat → Prop) (U : State) (H : Heap) : Prop :=
  va_O "java/util/ArrayList" (g.2.2 2002) A U H ∧
  va_OF "java/util/ArrayList" "size" "I" (.int (nI (g.2.2 2010))) (g.2.2 2002) A U H ∧
  va_OF "java/util/ArrayList" "elementData" "[Ljava/lang/Object;" (.ref (g.2.2 2003)) (g.2.2 2002) A U H ∧
  va_OF "java/util/ArrayList" "modCount" "I" (.int (nI (g.2.2 2012))) (g.2.2 2002) A U H ∧
  va_T (.object "java/lang/Object") (g.2.2 2003) (g.2.2 2011) (fun j => if j < g.2.2 2010 then .ref (g.2.2 (3000 + j)) else .null) A U H
theorem LST.moved {g : GP} {A : Nat → Prop} {u U : State} {H : Heap} (hvm : u.vm.Alike U.vm) (h : LST g A u H) : LST g A U H := by
  obtain ⟨a0, a1, a2, a3, a4⟩ := h
  exact ⟨a0.moved hvm, a1.moved hvm, a2.moved hvm, a3.moved hvm, a4.moved hvm⟩
theorem LST.kept {g : GP} {A : Nat → Prop} {U : State} {H H1 : Heap} (h : LST g A U H) (hq : ∀ a : Nat, a < H.size → ¬ A a → H1[a]? = H[a]?) : LST g A U H1 := by
  obtain ⟨a0, a1, a2, a3, a4⟩ := h
  exact ⟨a0.kept hq, a1.kept hq, a2.kept hq, a3.kept hq, a4.kept hq⟩
theorem LST.narrow {g : GP} {A B : Nat → Prop} {U : State} {H : Heap} (h : LST g A U H) (hq : ∀ q, B q → A q) : LST g B U H := by
  obtain ⟨a0, a1, a2, a3, a4⟩ := h
  exact ⟨a0.narrow hq, a1.narrow hq, a2.narrow hq, a3.narrow hq, a4.narrow hq⟩
/-- the order of turns: one hero -/
def ORD (g : GP) (A : Nat → Prop) (U : State) (H : Heap) : Prop :=
  va_O "java/util/ArrayList" (g.2.2 2006) A U H ∧
  va_OF "java/util/ArrayList" "size" "I" (.int 1) (g.2.2 2006) A U H ∧
  va_OF "java/util/ArrayList" "elementData" "[Ljava/lang/Object;" (.ref (g.2.2 2007)) (g.2.2 2006) A U H ∧
  va_T (.object "java/lang/Object") (g.2.2 2007) (g.2.2 2014) (fun j => if j < 1 then .ref (g.2.2 2001) else .null) A U H
theorem ORD.moved {g : GP} {A : Nat → Prop} {u U : State} {H : Heap} (hvm : u.vm.Alike U.vm) (h : ORD g A u H) : ORD g A U H := by
  obtain ⟨a0, a1, a2, a3⟩ := h
  exact ⟨a0.moved hvm, a1.moved hvm, a2.moved hvm, a3.moved hvm⟩
theorem ORD.kept {g : GP} {A : Nat → Prop} {U : State} {H H1 : Heap} (h : ORD g A U H) (hq : ∀ a : Nat, a < H.size → ¬ A a → H1[a]? = H[a]?) : ORD g A U H1 := by
  obtain ⟨a0, a1, a2, a3⟩ := h
  exact ⟨a0.kept hq, a1.kept hq, a2.kept hq, a3.kept hq⟩
theorem ORD.narrow {g : GP} {A B : Nat → Prop} {U : State} {H : Heap} (h : ORD g A U H) (hq : ∀ q, B q → A q) : ORD g B U H := by
  obtain ⟨a0, a1, a2, a3⟩ := h
  exact ⟨a0.narrow hq, a1.narrow hq, a2.narrow hq, a3.narrow hq⟩
/-- the model and its hero, where they are only read -/
def EXT (g : GP) (A : Nat → Prop) (U : State) (H : Heap) : Prop :=
  va_O "HeroTableModel" (g.2.2 2000) A U H ∧
  va_OF "HeroTableModel" "sources" "Ljava/util/List;" (.ref (g.2.2 2002)) (g.2.2 2000) A U H ∧
  va_OF "HeroTableModel" "dice" "Ljava/util/ArrayDeque;" (.ref (g.2.2 2005)) (g.2.2 2000) A U H ∧
  va_OF "HeroTableModel$Hero" "number" "I" (.int 0) (g.2.2 2001) A U H ∧
  va_OF "HeroTableModel$Hero" "bases" "[I" (.ref (g.2.2 2004)) (g.2.2 2001) A U H
theorem EXT.moved {g : GP} {A : Nat → Prop} {u U : State} {H : Heap} (hvm : u.vm.Alike U.vm) (h : EXT g A u H) : EXT g A U H := by
  obtain ⟨a0, a1, a2, a3, a4⟩ := h
  exact ⟨a0.moved hvm, a1.moved hvm, a2.moved hvm, a3.moved hvm, a4.moved hvm⟩
theorem EXT.kept {g : GP} {A : Nat → Prop} {U : State} {H H1 : Heap} (h : EXT g A U H) (hq : ∀ a : Nat, a < H.size → ¬ A a → H1[a]? = H[a]?) : EXT g A U H1 := by
  obtain ⟨a0, a1, a2, a3, a4⟩ := h
  exact ⟨a0.kept hq, a1.kept hq, a2.kept hq, a3.kept hq, a4.kept hq⟩
theorem EXT.narrow {g : GP} {A B : Nat → Prop} {U : State} {H : Heap} (h : EXT g A U H) (hq : ∀ q, B q → A q) : EXT g B U H := by
  obtain ⟨a0, a1, a2, a3, a4⟩ := h
  exact ⟨a0.narrow hq, a1.narrow hq, a2.narrow hq, a3.narrow hq, a4.narrow hq⟩
/-- the sources, in any number g.2.2 2010: each live, of the hero 0, of a condition (letter 112, type 99) with the difficulty 30, lasting -/
def SRC (g : GP) (A : Nat → Prop) (U : State) (H : Heap) : Prop := ∀ j : Nat, j < g.2.2 2010 →
  (va_P g.1 CLS [(g.2.2 (3000 + j), .inr (4, [.int 0, .int 112, .int 99, .int 30, .int 0, .int 0, .int 0, .int 1, .int (-1), .int 0]))] H ∧ ¬ A (g.2.2 (3000 + j))) ∧ va_O "HeroTableModel$Source" (g.2.2 (3000 + j)) A U H ∧ va_OF "HeroTableModel$Source" "isLive" "Z" (.int 1) (g.2.2 (3000 + j)) A U H ∧ va_OF "HeroTableModel$Source" "hero" "I" (.int 0) (g.2.2 (3000 + j)) A U H ∧ va_OF "HeroTableModel$Source" "letter" "C" (.int 112) (g.2.2 (3000 + j)) A U H ∧ va_OF "HeroTableModel$Source" "type" "C" (.int 99) (g.2.2 (3000 + j)) A U H ∧ va_OF "HeroTableModel$Source" "amount" "I" (.int 30) (g.2.2 (3000 + j)) A U H ∧ va_OF "HeroTableModel$Source" "hasRounds" "Z" (.int 0) (g.2.2 (3000 + j)) A U H
theorem SRC.moved {g : GP} {A : Nat → Prop} {u U : State} {H : Heap} (hvm : u.vm.Alike U.vm) (h : SRC g A u H) : SRC g A U H := fun j hj => by
  obtain ⟨⟨b1, b2⟩, a0, a1, a2, a3, a4, a5, a6⟩ := h j hj
  exact ⟨⟨b1, b2⟩, a0.moved hvm, a1.moved hvm, a2.moved hvm, a3.moved hvm, a4.moved hvm, a5.moved hvm, a6.moved hvm⟩
theorem SRC.kept {g : GP} {A : Nat → Prop} {U : State} {H H1 : Heap} (h : SRC g A U H) (hq : ∀ a : Nat, a < H.size → ¬ A a → H1[a]? = H[a]?) : SRC g A U H1 := fun j hj => by
  obtain ⟨⟨b1, b2⟩, a0, a1, a2, a3, a4, a5, a6⟩ := h j hj
  exact ⟨⟨b1.kept (fun k x hx => by
    have hx0 : k < 1 := (List.getElem?_eq_some_iff.mp hx).1
    have hk0 : k = 0 := by omega
    subst hk0
    cases hx
    exact hq _ (b1 0 _ rfl).lt b2), b2⟩, a0.kept hq, a1.kept hq, a2.kept hq, a3.kept hq, a4.kept hq, a5.kept hq, a6.kept hq⟩
theorem SRC.narrow {g : GP} {A B : Nat → Prop} {U : State} {H : Heap} (h : SRC g A U H) (hq : ∀ q, B q → A q) : SRC g B U H := fun j hj => by
  obtain ⟨⟨b1, b2⟩, a0, a1, a2, a3, a4, a5, a6⟩ := h j hj
  exact ⟨⟨b1, fun q => b2 (hq _ q)⟩, a0.narrow hq, a1.narrow hq, a2.narrow hq, a3.narrow hq, a4.narrow hq, a5.narrow hq, a6.narrow hq⟩
/-- numbers: how many sources, how long the rows -/
def NUM (g : GP) : Prop := g.2.2 2010 ≤ g.2.2 2011 ∧ g.2.2 2010 < 2 ^ 30 ∧ g.2.2 2011 < 2 ^ 31 ∧ 1 ≤ g.2.2 2014 ∧ g.2.2 2014 < 2 ^ 31
def HF (g : GP) (A : Nat → Prop) (U : State) (H : Heap) : Prop := TXT g A U H ∧ DEQ g A U H ∧ LST g A U H ∧ ORD g A U H ∧ SRC g A U H ∧ NUM g
theorem HF.moved {g : GP} {A : Nat → Prop} {u U : State} {H : Heap} (hvm : u.vm.Alike U.vm) (h : HF g A u H) : HF g A U H := ⟨h.1.moved hvm, h.2.1.moved hvm, h.2.2.1.moved hvm, h.2.2.2.1.moved hvm, h.2.2.2.2.1.moved hvm, h.2.2.2.2.2⟩
theorem HF.kept {g : GP} {A : Nat → Prop} {U : State} {H H1 : Heap} (h : HF g A U H) (hq : ∀ a : Nat, a < H.size → ¬ A a → H1[a]? = H[a]?) : HF g A U H1 := ⟨h.1.kept hq, h.2.1.kept hq, h.2.2.1.kept hq, h.2.2.2.1.kept hq, h.2.2.2.2.1.kept hq, h.2.2.2.2.2⟩
theorem HF.narrow {g : GP} {A B : Nat → Prop} {U : State} {H : Heap} (h : HF g A U H) (hq : ∀ q, B q → A q) : HF g B U H := ⟨h.1.narrow hq, h.2.1.narrow hq, h.2.2.1.narrow hq, h.2.2.2.1.narrow hq, h.2.2.2.2.1.narrow hq, h.2.2.2.2.2⟩
def SF (g : GP) (A : Nat → Prop) (U : State) (H : Heap) : Prop := TF U ∧ RF g.2.2 U ∧ HF g A U H
def PRE (g : GP) (ws : va_W) (sz : Nat) (U : State) : Prop := U.heap.size = sz ∧ va_P g.1 CLS ws U.heap ∧ va_K g.1 CLS (TYS g.2.1) U ∧ va_D (fun _ => True) ws ∧ SF g (va_A ws sz) U U.heap
/-- .. where the model and its hero are only read -/
def PREa (g : GP) (ws : va_W) (sz : Nat) (U : State) : Prop := PRE g ws sz U ∧ EXT g (va_A ws sz) U U.heap
def POST (g : GP) (A : Nat → Prop) (u : va_W) (t : State) : Prop := va_P g.1 CLS u t.heap ∧ va_K g.1 CLS (TYS g.2.1) t ∧ va_D A u
def CI (l : Launch) (y : MethodName) (w : List Cond) (rm : Room) (g : GP) (av : List Value) (ws : va_W) (post : Int32 → va_W → Prop) : Prop :=
  ∀ sz : Nat, Met l y w rm (va_Pc av (PRE g ws sz)) (va_Qi post (POST g (va_A ws sz)) (va_A ws sz)) rm.cells rm.slots (va_A ws sz)
/-- .. and at least k cells are new -/
def ZI (l : Launch) (y : MethodName) (w : List Cond) (rm : Room) (g : GP) (av : List Value) (ws : va_W) (k : Nat) (post : Int32 → va_W → Prop) : Prop :=
  ∀ sz : Nat, Met l y w rm (va_Pc av (PRE g ws sz)) (va_Qi post (fun u t => POST g (va_A ws sz) u t ∧ sz + k ≤ t.heap.size) (va_A ws sz)) rm.cells rm.slots (va_A ws sz)
def CIa (l : Launch) (y : MethodName) (w : List Cond) (rm : Room) (g : GP) (av : List Value) (ws : va_W) (post : Int32 → va_W → Prop) : Prop :=
  ∀ sz : Nat, Met l y w rm (va_Pc av (PREa g ws sz)) (va_Qi post (POST g (va_A ws sz)) (va_A ws sz)) rm.cells rm.slots (va_A ws sz)
/-- .. and at least k cells are new -/
def ZIa (l : Launch) (y : MethodName) (w : List Cond) (rm : Room) (g : GP) (av : List Value) (ws : va_W) (k : Nat) (post : Int32 → va_W → Prop) : Prop :=
  ∀ sz : Nat, Met l y w rm (va_Pc av (PREa g ws sz)) (va_Qi post (fun u t => POST g (va_A ws sz) u t ∧ sz + k ≤ t.heap.size) (va_A ws sz)) rm.cells rm.slots (va_A ws sz)
def CV (l : Launch) (y : MethodName) (w : List Cond) (rm : Room) (g : GP) (av : List Value) (ws : va_W) (post : va_W → Prop) : Prop :=
  ∀ sz : Nat, Met l y w rm (va_Pc av (PRE g ws sz)) (va_Qv post (POST g (va_A ws sz)) (va_A ws sz)) rm.cells rm.slots (va_A ws sz)
def CQ (l : Launch) (y : MethodName) (w : List Cond) (rm : Room) (g : GP) (av : List Value) (ws : va_W) (post : Option Nat → va_W → Prop) : Prop :=
  ∀ sz : Nat, Met l y w rm (va_Pc av (PRE g ws sz)) (va_Qq post (POST g (va_A ws sz)) (va_A ws sz)) rm.cells rm.slots (va_A ws sz)
theorem q_blind {g : GP} {av : List Value} {ws : va_W} {sz : Nat} : FrameBlind (va_Pc av (PRE g ws sz)) := fun a U g' mk q => by
  obtain ⟨q0, q1, qP, qK, qD, qT, qR, qH⟩ := q
  exact ⟨q0, q1, qP, va_K.moved (u := U) (U := U.calling g' mk a) (Vm.Alike.refl U.vm) qK, qD, TF.moved (s := U) (U := U.calling g' mk a) (State.WarmedH.refl U) qT, RF.moved (s := U) (U := U.calling g' mk a) (State.WarmedH.refl U) qR, HF.moved (u := U) (U := U.calling g' mk a) (Vm.Alike.refl U.vm) qH⟩
theorem q_blinda {g : GP} {av : List Value} {ws : va_W} {sz : Nat} : FrameBlind (va_Pc av (PREa g ws sz)) := fun a U g' mk q => by
  obtain ⟨q0, ⟨q1, qP, qK, qD, qT, qR, qH⟩, qE⟩ := q
  exact ⟨q0, ⟨q1, qP, va_K.moved (u := U) (U := U.calling g' mk a) (Vm.Alike.refl U.vm) qK, qD, TF.moved (s := U) (U := U.calling g' mk a) (State.WarmedH.refl U) qT, RF.moved (s := U) (U := U.calling g' mk a) (State.WarmedH.refl U) qR, HF.moved (u := U) (U := U.calling g' mk a) (Vm.Alike.refl U.vm) qH⟩, EXT.moved (u := U) (U := U.calling g' mk a) (Vm.Alike.refl U.vm) qE⟩
/-- the callee's start, from the caller's world -/
theorem q_pre {g : GP} {s : State} {A : Nat → Prop} {wc : va_W} {H : Heap} {locs : List Loc} (av : List Value) (hP : va_P g.1 CLS wc H) (hD : va_D A wc) (hK : va_K g.1 CLS (TYS g.2.1) s) (hS : va_S A s.heap H locs) (hT : SF g A s s.heap) (hF : ∀ q, va_A wc H.size q → A q) :
    FrameBlind (va_Pc av (PRE g wc H.size)) ∧ ∀ U : State, U.heap = H → s.WarmedH U.vm → va_Pc av (PRE g wc H.size) av.toArray U :=
  ⟨q_blind, fun U hU hW => ⟨rfl, by rw [hU], by rw [hU]; exact hP, va_K.moved hW.alike hK, hD.weaken (fun _ _ _ _ => trivial), TF.moved hW hT.1, RF.moved hW hT.2.1, by
    rw [hU]
    exact HF.moved hW.alike ((HF.kept hT.2.2 hS.2.1).narrow hF)⟩⟩
theorem q_prea {g : GP} {s : State} {A : Nat → Prop} {wc : va_W} {H : Heap} {locs : List Loc} (av : List Value) (hP : va_P g.1 CLS wc H) (hD : va_D A wc) (hK : va_K g.1 CLS (TYS g.2.1) s) (hS : va_S A s.heap H locs) (hT : SF g A s s.heap) (hE : EXT g A s s.heap) (hF : ∀ q, va_A wc H.size q → A q) :
    FrameBlind (va_Pc av (PREa g wc H.size)) ∧ ∀ U : State, U.heap = H → s.WarmedH U.vm → va_Pc av (PREa g wc H.size) av.toArray U :=
  ⟨q_blinda, fun U hU hW => ⟨rfl, (((q_pre av hP hD hK hS hT hF).2 U hU hW).2), by
    rw [hU]
    exact EXT.moved hW.alike ((EXT.kept hE hS.2.1).narrow hF)⟩⟩
/-- a field of an object of the world, said of it as of what is only read -/
theorem q_of {D : va_G} {s : State} {args : Array Value} {H : Heap} {ws : va_W} {tys : List (ClassId × FieldType)} {A : Nat → Prop} {C : String} {T : u_T} {N ci a : Nat} {Ts : List Cond} (hts : ∀ w ∈ Ts, w.before args s = true) (hin : ∀ w ∈ u_ws C T N, w ∈ Ts) (hK : va_K D CLS tys s) (hP : va_P D CLS ws H) (q0 : Nat) {fs : List Value} (he : ws[q0]? = some (a, .inr (ci, fs))) (hc : CLS[ci]? = some (C, T, N)) (k : Nat) (hk : k < N) {v : Value} (hv : fs[k]? = some v) (hA : ¬ A a) : va_OF (T k).1 (T k).2.1 (T k).2.2.1 v a A s H := by
  obtain ⟨r, h1, cell, q1, q2, q3, q4⟩ := hP q0 _ he
  have hr : r = (C, T, N) := Option.some.inj (h1.symm.trans hc)
  subst hr
  obtain ⟨hS, hfc, kC, hkC, hkind⟩ := hK.1 ci _ hc
  obtain ⟨cf, kf, fi, f, hi, hsl⟩ := hS k hk
  refine ⟨cf, kf, fi, f, cell, hi, (u_facts hfc hkC (u_lays hts hin hk) hi).1, q1, (by rw [q3]; exact fun h => by cases h), ?_, hA⟩
  rw [hsl, q4 k hk]
  simp [vp_V, hv]
theorem q_o {D : va_G} {s : State} {H : Heap} {ws : va_W} {tys : List (ClassId × FieldType)} {A : Nat → Prop} {q : vw_C} {ci a : Nat} (hK : va_K D CLS tys s) (hP : va_P D CLS ws H) (q0 : Nat) {fs : List Value} (he : ws[q0]? = some (a, .inr (ci, fs))) (hc : CLS[ci]? = some q) (hA : ¬ A a) : va_O q.1 a A s H := by
  obtain ⟨cell, h1, h2, h3⟩ := va_recv hK hP hc he
  exact ⟨cell, h1, h2, h3, hA⟩
