/-! THE CLAIM OUT OF ONE WALK OF THE LAW'S BODY. Your part is whole_start (and what it stands on); all else here is the same for every law, but numbers. -/
def R_law : String := "HeroTableLaw"
def lw_P (b : Addr) (xs : List Int32) (args : Array Value) (s : State) : Prop := args = #[.ref b] ∧ s.IntsAt b xs ∧ xs.length ≤ 7 ∧ (Jvm.Cond.and given_1 narrow_1).before args s = true
/-- what a walk over the start with the record d0 says of its end, said of the start itself -/
theorem lw_closed {s t : State} {o : Outcome} {d0 : Drawn} {L : List Loc} {k n : Nat} (hd0 : s.drawn.sameBut d0 lw_cs) (hv : ∃ v, o = .returned v) (hW : (s.setDrawn d0).WarmedH t.vm) (hs : (s.setDrawn d0).sameButNew ({ t with vm := s.vm } : State) L k n) : State.butDraws s t lw_cs (fun t1 => Framed s o t1 L k n) := by
  have h2 : t.drawn = d0 := congrArg State.drawn hs.1
  refine ⟨⟨hv, hW, State.sameButNew.setDrawn hs s.drawn⟩, ?_, by decide⟩
  rw [h2]
  exact hd0
def lw_Q (_ : Array Value) (s : State) (o : Outcome) (t : State) : Prop := o = .returned (some (.int 1)) ∧ State.butDraws s t lw_cs (fun t1 => Framed s o t1 [] 600006 7302056)
def lw_Z (below : List Frame) (a : Array Value) (s : State) : State → Prop := fun t => ∃ o, t.status = .running ∧ Ended t below o ∧ lw_Q a s o t
/-- the law's own end, with 1 on the stack, nothing written that was there before, its room as the claim has it; d0: the record of draws at this point (at the entry s.drawn: begin with 'refine W.base ?_' and 'have hd0 := Drawn.sameBut.refl s.drawn lw_cs') -/
theorem lw_ret {p : Program} {l : Launch} {e : Env} {s : State} {m : MethodId} {below : List Frame} {meth : Method} {c : Code} {b : Nat} {d0 : Drawn} (hd0 : s.drawn.sameBut d0 lw_cs) (hx : p.tables.exec = Jvm.exec) (hb : c.code = code) (hr : meth.sig.returnType = ret) (hlocks : meth.locks = false) {pc : Nat} {H : Heap} {ls : Array Slot} (hdg : decode code pc = .ok (.ireturn, 1)) : W p l e room_1 (s.setDrawn d0) m #[Value.ref b] below meth c H [] 600006 7302056 (lw_Z below #[Value.ref b] s) (F0 m pc ls [.int 1]) := by
  intro T hT X
  obtain ⟨fs, hret, hrun, hended, hW, hframe⟩ := X.leave (v := some (.int 1)) (hlocks := hlocks) (fun h => by rw [hr] at h; cases h)
  have hmeth' : T.vm.method? m = some meth := X.method'
  refine ⟨T.setFrames fs, ?_, .returned (some (.int 1)), hrun, hended, rfl, lw_closed hd0 ⟨_, rfl⟩ hW hframe⟩
  jvm_step X.here [X.here.top, hx, hb, hdg, hmeth', hr, ret, narrow_b1]
  (try refine ⟨rfl, ?_⟩); (try refine ⟨rfl, ?_⟩)
  first | (intro acts; rw [hret _ acts rfl rfl rfl]) | rw [hret _ _ rfl rfl rfl]
  exact Steps.refl _
/-- what holds at the law's entry: the machine, the code, the tables' words (any of lw_tbl by 'hts w (by decide +kernel)'), the script of L ints xs at the cell b, what the Statement gives of the start (any of its parts by flat_of_before) -/
def lw_At (p : Program) (s : State) (m : MethodId) (meth : Method) (c : Code) (b L : Nat) (xs : Nat → Int32) : Prop :=
  p.tables.exec = Jvm.exec ∧ c.code = code ∧ meth.sig.returnType = ret ∧ c.maxLocals = 9 ∧ s.vm.findClass R_law = some m.cls ∧ (∀ w ∈ lw_tbl, w.before #[Value.ref b] s = true) ∧ va_X b L xs s s.heap ∧ b < s.heap.size ∧ meth.locks = false ∧ (Jvm.Cond.and given_1 narrow_1).before #[Value.ref b] s = true

set_option maxHeartbeats 4000000 in
set_option maxRecDepth 100000 in
theorem lw_tail {p : Program} {l : Launch} {e : Env} {s : State} {m : MethodId} {below : List Frame} {meth : Method} {c : Code} {b : Nat} {xs : Nat → Int32} {A : Nat → Prop} {H : Heap} {ls : Array Slot} {k n : Nat} (hx : p.tables.exec = Jvm.exec) (hb : c.code = code) (hr : meth.sig.returnType = ret) (hlocks : meth.locks = false) (hbl : b < s.heap.size) (hbA : ¬ A b) (hS : va_S A s.heap H []) (hX : va_X b 7 xs s s.heap) (hl : lv_has ls 9 [(5, .int 0), (0, .ref b)]) (hk : k ≤ 1000) (hn : n ≤ 10000) : W p l e room_1 s m #[Value.ref b] below meth c H [] k n (lw_Z below #[Value.ref b] s) (F0 m 2646 ls []) := by
  refine lv_iinc (v := 7) (lv' := [(5, .int 7), (0, .ref b)]) hx hb dL_law_2646 hl (k := 0) rfl (by decide) (by decide) rfl (fun ls hl => ?_)
  refine lv_goto (tgt := 28) hx hb dL_law_2649 (by decide) ?_
  refine lv_iload hx hb dL_law_28 (lv_at hl 0 rfl) ?_
  refine lv_aload_n hx hb dL_law_30 rfl (lv_at hl 1 rfl) ?_
  refine va_slen hx hb hX hbl hbA hS dL_law_31 ?_
  refine lv_topi (fun x_1 ex_1 => ?_)
  obtain rfl : x_1 = 7 := ex_1.trans rfl
  refine lv_bipush (v := 7) hx hb dL_law_32 (by decide) ?_
  refine lv_isub hx hb dL_law_34 ?_
  refine lv_topi (fun x_2 ex_2 => ?_)
  obtain rfl : x_2 = 0 := ex_2.trans (by decide)
  refine lv_icmp_gt (tgt := 2652) hx hb dL_law_35 (by decide) (fun c_3 => ?_) (fun c_3 => absurd (by decide) c_3)
  refine lv_iconst (v := 1) hx hb dL_law_2652 (by decide) ?_
  refine W.widen (k := 600006) (n := 7302056) (Nat.le_trans hk (Nat.le_of_ble_eq_true rfl)) (Nat.le_trans hn (Nat.le_of_ble_eq_true rfl)) ?_
  exact W.base (lw_ret (Drawn.sameBut.refl s.drawn lw_cs) hx hb hr hlocks dL_law_2653)

set_option maxHeartbeats 4000000 in
set_option maxRecDepth 100000 in
theorem lw_done {p : Program} {l : Launch} {e : Env} {s : State} {m : MethodId} {below : List Frame} {meth : Method} {c : Code} {b : Nat} {xs : Nat → Int32} {A : Nat → Prop} {H : Heap} {ls : Array Slot} {L x0 m0 o0 o1 k n : Nat} (hx : p.tables.exec = Jvm.exec) (hb : c.code = code) (hr : meth.sig.returnType = ret) (hlocks : meth.locks = false) (hbl : b < s.heap.size) (hbA : ¬ A b) (hS : va_S A s.heap H []) (hX : va_X b L xs s s.heap) (hneg : Int32.ofNat L - 7 < 0) (hl : lv_has ls 9 [(5, .int 0), (4, .ref o1), (3, .ref o0), (2, .ref m0), (1, .ref x0), (0, .ref b)]) (hk : k ≤ 1000) (hn : n ≤ 10000) : W p l e room_1 s m #[Value.ref b] below meth c H [] k n (lw_Z below #[Value.ref b] s) (F0 m 28 ls []) := by
  refine lv_iload hx hb dL_law_28 (lv_at hl 0 rfl) ?_
  refine lv_aload_n hx hb dL_law_30 rfl (lv_at hl 5 rfl) ?_
  refine va_slen hx hb hX hbl hbA hS dL_law_31 ?_
  refine lv_topi (fun x_1 ex_1 => ?_)
  refine lv_bipush (v := 7) hx hb dL_law_32 (by decide) ?_
  refine lv_isub hx hb dL_law_34 ?_
  refine lv_topi (fun x_2 ex_2 => ?_)
  refine lv_icmp_gt (tgt := 2652) hx hb dL_law_35 (by decide) (fun c_3 => ?_) (fun c_3 => absurd (by rw [ex_2, ex_1]; exact hneg) c_3)
  refine lv_iconst (v := 1) hx hb dL_law_2652 (by decide) ?_
  refine W.widen (k := 600006) (n := 7302056) (Nat.le_trans hk (Nat.le_of_ble_eq_true rfl)) (Nat.le_trans hn (Nat.le_of_ble_eq_true rfl)) ?_
  exact W.base (lw_ret (Drawn.sameBut.refl s.drawn lw_cs) hx hb hr hlocks dL_law_2653)

set_option maxHeartbeats 4000000 in
set_option maxRecDepth 100000 in
theorem lw_go {p : Program} {l : Launch} {e : Env} {s : State} {m : MethodId} {below : List Frame} {meth : Method} {c : Code} {b : Nat} {xs : Nat → Int32} {A : Nat → Prop} {H : Heap} {ls : Array Slot} {g : GP} (C0 : LX p l s m meth c b xs g A) (hr : meth.sig.returnType = ret) (hlocks : meth.locks = false) (x0 : Nat) (t0 : Nat) (u0 : Nat) (k0 : Nat) (th : Nat) (ts : Nat) (tg : Nat) (td : Nat) (tr : Nat) (tw : Nat) (tc : Nat) (tv : Nat) (z0 : Nat) (z1 : Nat) (z2 : Nat) (z3 : Nat) (z4 : Nat) (z5 : Nat) (uh : Nat) (us : Nat) (ug : Nat) (ud : Nat) (ur : Nat) (uw : Nat) (uc : Nat) (uv : Nat) (kr : Nat) (fh : Nat → Option Nat) (fc : Nat → Int32) (fu : Nat → Int32) (m0 : Nat) (mh : Nat) (mg : Nat) (ms : Nat) (md : Nat) (mc : Nat) (mr : Nat) (me : Nat) (fm : Nat → Int32) (o0 : Nat) (o1 : Nat) (hfh : fh 0 = some z0) (hfc : ∀ j : Nat, j < 64 → fc j = 46) (hfm : ∀ j : Nat, j < 64 → fm j = 46) (hP : va_P g.1 CLS [(x0, .inr (8, [.ref t0, .ref u0, .ref k0])), (t0, .inr (6, [.ref th, .ref ts, .ref tg, .ref td, .int 0, .ref tr, .int (-1), .int 0, .int 0, .int 0, .long 0, .int 0, .int 0])), (th, .inl (g.2.1 3, 6, .inr (.inr (.inr (.inr fh))))), (z0, .inr (4, [.int 0, .int 0, .int 0, .int 0, .int 0, .int 0, .int 0, .int 0, .int 0, .int 0, .int 0, .int 0, .ref z1, .ref z2, .ref z3, .ref z4, .ref z5])), (z1, .inl (g.2.1 1, 5, .inl (fun _ => 0))), (z2, .inl (g.2.1 1, 5, .inl (fun _ => 0))), (z3, .inl (g.2.1 2, 5, .inl (fun _ => 0))), (z4, .inl (g.2.1 1, 6, .inl (fun _ => 0))), (z5, .inl (g.2.1 2, 6, .inl (fun _ => 0))), (ts, .inr (5, [.ref th, .ref tw, .int 0])), (tg, .inr (3, [.ref tc])), (tc, .inl (g.2.1 0, 64, .inl fc)), (td, .inr (2, [.ref tv, .int 0, .int 0])), (tv, .inl (g.2.1 1, 16, .inl (fun _ => 0))), (u0, .inr (6, [.ref uh, .ref us, .ref ug, .ref ud, .int 0, .ref ur, .int (-1), .int 0, .int 0, .int 0, .long 0, .int 0, .int 0])), (us, .inr (5, [.ref uh, .ref uw, .int 0])), (ug, .inr (3, [.ref uc])), (uc, .inl (g.2.1 0, 64, .inl fu)), (ud, .inr (2, [.ref uv, .int 0, .int 0])), (k0, .inr (7, [.ref kr, .int 0])), (kr, .inl (g.2.1 1, 128, .inl (fun _ => 0))), (m0, .inr (11, [.ref mh, .ref mg, .ref ms, .ref md, .ref mc, .ref mr, .int (-1), .int 0, .int 0, .int 0, .long 0, .int 0, .int 0, .int 0])), (mh, .inr (1, [.int 0, .ref (g.2.2 1), .int 0])), (mg, .inl (g.2.1 0, 64, .inl fm)), (ms, .inr (1, [.int 0, .ref (g.2.2 1), .int 0])), (md, .inr (12, [.ref me, .int 0, .int 0])), (me, .inl (g.2.1 5, 17, .inr (.inr (.inr (.inr (fun _ => none)))))), (mc, .inr (1, [.int 0, .ref (g.2.2 1), .int 0])), (mr, .inr (1, [.int 0, .ref (g.2.2 1), .int 0])), (o0, .inl (g.2.1 6, 1, .inr (.inl (fun _ => 0)))), (o1, .inl (g.2.1 7, 1, .inr (.inr (.inr (.inl (fun _ => 0))))))] H) (hD : va_D A [(x0, .inr (8, [.ref t0, .ref u0, .ref k0])), (t0, .inr (6, [.ref th, .ref ts, .ref tg, .ref td, .int 0, .ref tr, .int (-1), .int 0, .int 0, .int 0, .long 0, .int 0, .int 0])), (th, .inl (g.2.1 3, 6, .inr (.inr (.inr (.inr fh))))), (z0, .inr (4, [.int 0, .int 0, .int 0, .int 0, .int 0, .int 0, .int 0, .int 0, .int 0, .int 0, .int 0, .int 0, .ref z1, .ref z2, .ref z3, .ref z4, .ref z5])), (z1, .inl (g.2.1 1, 5, .inl (fun _ => 0))), (z2, .inl (g.2.1 1, 5, .inl (fun _ => 0))), (z3, .inl (g.2.1 2, 5, .inl (fun _ => 0))), (z4, .inl (g.2.1 1, 6, .inl (fun _ => 0))), (z5, .inl (g.2.1 2, 6, .inl (fun _ => 0))), (ts, .inr (5, [.ref th, .ref tw, .int 0])), (tg, .inr (3, [.ref tc])), (tc, .inl (g.2.1 0, 64, .inl fc)), (td, .inr (2, [.ref tv, .int 0, .int 0])), (tv, .inl (g.2.1 1, 16, .inl (fun _ => 0))), (u0, .inr (6, [.ref uh, .ref us, .ref ug, .ref ud, .int 0, .ref ur, .int (-1), .int 0, .int 0, .int 0, .long 0, .int 0, .int 0])), (us, .inr (5, [.ref uh, .ref uw, .int 0])), (ug, .inr (3, [.ref uc])), (uc, .inl (g.2.1 0, 64, .inl fu)), (ud, .inr (2, [.ref uv, .int 0, .int 0])), (k0, .inr (7, [.ref kr, .int 0])), (kr, .inl (g.2.1 1, 128, .inl (fun _ => 0))), (m0, .inr (11, [.ref mh, .ref mg, .ref ms, .ref md, .ref mc, .ref mr, .int (-1), .int 0, .int 0, .int 0, .long 0, .int 0, .int 0, .int 0])), (mh, .inr (1, [.int 0, .ref (g.2.2 1), .int 0])), (mg, .inl (g.2.1 0, 64, .inl fm)), (ms, .inr (1, [.int 0, .ref (g.2.2 1), .int 0])), (md, .inr (12, [.ref me, .int 0, .int 0])), (me, .inl (g.2.1 5, 17, .inr (.inr (.inr (.inr (fun _ => none)))))), (mc, .inr (1, [.int 0, .ref (g.2.2 1), .int 0])), (mr, .inr (1, [.int 0, .ref (g.2.2 1), .int 0])), (o0, .inl (g.2.1 6, 1, .inr (.inl (fun _ => 0)))), (o1, .inl (g.2.1 7, 1, .inr (.inr (.inr (.inl (fun _ => 0))))))]) (hS : va_S A s.heap H []) (hl : lv_has ls 9 [(5, .int 0), (4, .ref o1), (3, .ref o0), (2, .ref m0), (1, .ref x0), (0, .ref b)]) : W p l e room_1 s m #[Value.ref b] below meth c H [] 400 2000 (lw_Z below #[Value.ref b] s) (F0 m 28 ls []) := by
  obtain ⟨hfl, hx, hb, hml, hown, htg, hK, hT, hX, hbl, hbA, hA, hA2⟩ := id C0
  refine lv_iload hx hb dL_law_28 (lv_at hl 0 rfl) ?_
  refine lv_aload_n hx hb dL_law_30 rfl (lv_at hl 5 rfl) ?_
  refine va_slen hx hb hX hbl hbA hS dL_law_31 ?_
  refine lv_topi (fun x_1 ex_1 => ?_)
  obtain rfl : x_1 = 7 := ex_1.trans rfl
  refine lv_bipush (v := 7) hx hb dL_law_32 (by decide) ?_
  refine lv_isub hx hb dL_law_34 ?_
  refine lv_topi (fun x_2 ex_2 => ?_)
  obtain rfl : x_2 = 0 := ex_2.trans (by decide)
  refine lv_icmp_gt (tgt := 2652) hx hb dL_law_35 (by decide) (fun c_3 => absurd c_3 (by decide)) (fun c_3 => ?_)
  refine lv_aload_n hx hb dL_law_38 rfl (lv_at hl 5 rfl) ?_
  refine lv_iload hx hb dL_law_39 (lv_at hl 0 rfl) ?_
  refine va_sld hx hb hX hbl hbA hS (i := 0) (vp_in_iff.mpr (by decide)) dL_law_41 ?_
  refine lv_topi (fun x_4 ex_4 => ?_)
  obtain rfl : x_4 = xs 0 := ex_4.trans (congrArg xs (by decide))
  refine lv_bipush (v := 63) hx hb dL_law_42 (by decide) ?_
  refine lv_iand hx hb dL_law_44 ?_
  refine lv_topi (fun x_5 ex_5 => ?_)
  have kend : ∀ (H : Heap) (ls : Array Slot), lv_has ls 9 [(5, .int 0), (0, .ref b)] → va_S A s.heap H [] → ∀ {k n : Nat}, k ≤ 1000 → n ≤ 10000 → W p l e room_1 s m #[Value.ref b] below meth c H [] k n (lw_Z below #[Value.ref b] s) (F0 m 2646 ls []) := fun H ls hl hS {k n} hk hn => lw_tail hx hb hr hlocks hbl hbA hS hX hl hk hn
  by_cases hrg : x_5.toInt < 0 ∨ 39 < x_5.toInt
  · refine lv_tableOut hx hb dL_law_45 hrg (tgt := 2646) (by decide) ?_
    exact kend H _ (lv_sub hl [0, 5] rfl) hS (Nat.le_of_ble_eq_true rfl) (Nat.le_of_ble_eq_true rfl)
  have hr1 : ¬ x_5.toInt < 0 := fun h => hrg (Or.inl h)
  have hr2 : ¬ 39 < x_5.toInt := fun h => hrg (Or.inr h)
  obtain ⟨k9, hk9⟩ : ∃ k : Nat, (x_5.toInt - 0).toNat = k := ⟨_, rfl⟩
  have hk40 : k9 < 40 := by omega
  clear hrg
  match k9, hk9, hk40 with
  | 0, hk9, _ => exact lv_tableIn hx hb dL_law_45 hr1 hr2 (off := 175) (tgt := 220) (by rw [hk9]; rfl) (by decide) (case_0 C0 x0 t0 u0 k0 th ts tg td tr tw tc tv z0 z1 z2 z3 z4 z5 uh us ug ud ur uw uc uv kr fh fc fu m0 mh mg ms md mc mr me fm o0 o1 hfh hfc hfm hP hD hS hl kend)
  | 1, hk9, _ => exact lv_tableIn hx hb dL_law_45 hr1 hr2 (off := 279) (tgt := 324) (by rw [hk9]; rfl) (by decide) (case_1 C0 x0 t0 u0 k0 th ts tg td tr tw tc tv z0 z1 z2 z3 z4 z5 uh us ug ud ur uw uc uv kr fh fc fu m0 mh mg ms md mc mr me fm o0 o1 hfh hfc hfm hP hD hS hl kend)
  | 2, hk9, _ => exact lv_tableIn hx hb dL_law_45 hr1 hr2 (off := 361) (tgt := 406) (by rw [hk9]; rfl) (by decide) (case_2 C0 x0 t0 u0 k0 th ts tg td tr tw tc tv z0 z1 z2 z3 z4 z5 uh us ug ud ur uw uc uv kr fh fc fu m0 mh mg ms md mc mr me fm o0 o1 hfh hfc hfm hP hD hS hl kend)
  | 3, hk9, _ => exact lv_tableIn hx hb dL_law_45 hr1 hr2 (off := 443) (tgt := 488) (by rw [hk9]; rfl) (by decide) (case_3 C0 x0 t0 u0 k0 th ts tg td tr tw tc tv z0 z1 z2 z3 z4 z5 uh us ug ud ur uw uc uv kr fh fc fu m0 mh mg ms md mc mr me fm o0 o1 hfh hfc hfm hP hD hS hl kend)
  | 4, hk9, _ => exact lv_tableIn hx hb dL_law_45 hr1 hr2 (off := 511) (tgt := 556) (by rw [hk9]; rfl) (by decide) (case_4 C0 x0 t0 u0 k0 th ts tg td tr tw tc tv z0 z1 z2 z3 z4 z5 uh us ug ud ur uw uc uv kr fh fc fu m0 mh mg ms md mc mr me fm o0 o1 hfh hfc hfm hP hD hS hl kend)
  | 5, hk9, _ => exact lv_tableIn hx hb dL_law_45 hr1 hr2 (off := 579) (tgt := 624) (by rw [hk9]; rfl) (by decide) (case_5 C0 x0 t0 u0 k0 th ts tg td tr tw tc tv z0 z1 z2 z3 z4 z5 uh us ug ud ur uw uc uv kr fh fc fu m0 mh mg ms md mc mr me fm o0 o1 hfh hfc hfm hP hD hS hl kend)
  | 6, hk9, _ => exact lv_tableIn hx hb dL_law_45 hr1 hr2 (off := 635) (tgt := 680) (by rw [hk9]; rfl) (by decide) (case_6 C0 x0 t0 u0 k0 th ts tg td tr tw tc tv z0 z1 z2 z3 z4 z5 uh us ug ud ur uw uc uv kr fh fc fu m0 mh mg ms md mc mr me fm o0 o1 hfh hfc hfm hP hD hS hl kend)
  | 7, hk9, _ => exact lv_tableIn hx hb dL_law_45 hr1 hr2 (off := 691) (tgt := 736) (by rw [hk9]; rfl) (by decide) (case_7 C0 x0 t0 u0 k0 th ts tg td tr tw tc tv z0 z1 z2 z3 z4 z5 uh us ug ud ur uw uc uv kr fh fc fu m0 mh mg ms md mc mr me fm o0 o1 hfh hfc hfm hP hD hS hl kend)
  | 8, hk9, _ => exact lv_tableIn hx hb dL_law_45 hr1 hr2 (off := 747) (tgt := 792) (by rw [hk9]; rfl) (by decide) (case_8 C0 x0 t0 u0 k0 th ts tg td tr tw tc tv z0 z1 z2 z3 z4 z5 uh us ug ud ur uw uc uv kr fh fc fu m0 mh mg ms md mc mr me fm o0 o1 hfh hfc hfm hP hD hS hl kend)
  | 9, hk9, _ => exact lv_tableIn hx hb dL_law_45 hr1 hr2 (off := 834) (tgt := 879) (by rw [hk9]; rfl) (by decide) (case_9 C0 x0 t0 u0 k0 th ts tg td tr tw tc tv z0 z1 z2 z3 z4 z5 uh us ug ud ur uw uc uv kr fh fc fu m0 mh mg ms md mc mr me fm o0 o1 hfh hfc hfm hP hD hS hl kend)
  | 10, hk9, _ => exact lv_tableIn hx hb dL_law_45 hr1 hr2 (off := 956) (tgt := 1001) (by rw [hk9]; rfl) (by decide) (case_10 C0 x0 t0 u0 k0 th ts tg td tr tw tc tv z0 z1 z2 z3 z4 z5 uh us ug ud ur uw uc uv kr fh fc fu m0 mh mg ms md mc mr me fm o0 o1 hfh hfc hfm hP hD hS hl kend)
  | 11, hk9, _ => exact lv_tableIn hx hb dL_law_45 hr1 hr2 (off := 1062) (tgt := 1107) (by rw [hk9]; rfl) (by decide) (case_11 C0 x0 t0 u0 k0 th ts tg td tr tw tc tv z0 z1 z2 z3 z4 z5 uh us ug ud ur uw uc uv kr fh fc fu m0 mh mg ms md mc mr me fm o0 o1 hfh hfc hfm hP hD hS hl kend)
  | 12, hk9, _ => exact lv_tableIn hx hb dL_law_45 hr1 hr2 (off := 1125) (tgt := 1170) (by rw [hk9]; rfl) (by decide) (case_12 C0 x0 t0 u0 k0 th ts tg td tr tw tc tv z0 z1 z2 z3 z4 z5 uh us ug ud ur uw uc uv kr fh fc fu m0 mh mg ms md mc mr me fm o0 o1 hfh hfc hfm hP hD hS hl kend)
  | 13, hk9, _ => exact lv_tableIn hx hb dL_law_45 hr1 hr2 (off := 1230) (tgt := 1275) (by rw [hk9]; rfl) (by decide) (case_13 C0 x0 t0 u0 k0 th ts tg td tr tw tc tv z0 z1 z2 z3 z4 z5 uh us ug ud ur uw uc uv kr fh fc fu m0 mh mg ms md mc mr me fm o0 o1 hfh hfc hfm hP hD hS hl kend)
  | 14, hk9, _ => exact lv_tableIn hx hb dL_law_45 hr1 hr2 (off := 1293) (tgt := 1338) (by rw [hk9]; rfl) (by decide) (case_14 C0 x0 t0 u0 k0 th ts tg td tr tw tc tv z0 z1 z2 z3 z4 z5 uh us ug ud ur uw uc uv kr fh fc fu m0 mh mg ms md mc mr me fm o0 o1 hfh hfc hfm hP hD hS hl kend)
  | 15, hk9, _ => exact lv_tableIn hx hb dL_law_45 hr1 hr2 (off := 1363) (tgt := 1408) (by rw [hk9]; rfl) (by decide) (case_15 C0 x0 t0 u0 k0 th ts tg td tr tw tc tv z0 z1 z2 z3 z4 z5 uh us ug ud ur uw uc uv kr fh fc fu m0 mh mg ms md mc mr me fm o0 o1 hfh hfc hfm hP hD hS hl kend)
  | 16, hk9, _ => exact lv_tableIn hx hb dL_law_45 hr1 hr2 (off := 1433) (tgt := 1478) (by rw [hk9]; rfl) (by decide) (case_16 C0 x0 t0 u0 k0 th ts tg td tr tw tc tv z0 z1 z2 z3 z4 z5 uh us ug ud ur uw uc uv kr fh fc fu m0 mh mg ms md mc mr me fm o0 o1 hfh hfc hfm hP hD hS hl kend)
  | 17, hk9, _ => exact lv_tableIn hx hb dL_law_45 hr1 hr2 (off := 1510) (tgt := 1555) (by rw [hk9]; rfl) (by decide) (case_17 C0 x0 t0 u0 k0 th ts tg td tr tw tc tv z0 z1 z2 z3 z4 z5 uh us ug ud ur uw uc uv kr fh fc fu m0 mh mg ms md mc mr me fm o0 o1 hfh hfc hfm hP hD hS hl kend)
  | 18, hk9, _ => exact lv_tableIn hx hb dL_law_45 hr1 hr2 (off := 1523) (tgt := 1568) (by rw [hk9]; rfl) (by decide) (case_18 C0 x0 t0 u0 k0 th ts tg td tr tw tc tv z0 z1 z2 z3 z4 z5 uh us ug ud ur uw uc uv kr fh fc fu m0 mh mg ms md mc mr me fm o0 o1 hfh hfc hfm hP hD hS hl kend)
  | 19, hk9, _ => exact lv_tableIn hx hb dL_law_45 hr1 hr2 (off := 1579) (tgt := 1624) (by rw [hk9]; rfl) (by decide) (case_19 C0 x0 t0 u0 k0 th ts tg td tr tw tc tv z0 z1 z2 z3 z4 z5 uh us ug ud ur uw uc uv kr fh fc fu m0 mh mg ms md mc mr me fm o0 o1 hfh hfc hfm hP hD hS hl kend)
  | 20, hk9, _ => exact lv_tableIn hx hb dL_law_45 hr1 hr2 (off := 1592) (tgt := 1637) (by rw [hk9]; rfl) (by decide) (case_20 C0 x0 t0 u0 k0 th ts tg td tr tw tc tv z0 z1 z2 z3 z4 z5 uh us ug ud ur uw uc uv kr fh fc fu m0 mh mg ms md mc mr me fm o0 o1 hfh hfc hfm hP hD hS hl kend)
  | 21, hk9, _ => exact lv_tableIn hx hb dL_law_45 hr1 hr2 (off := 1636) (tgt := 1681) (by rw [hk9]; rfl) (by decide) (case_21 C0 x0 t0 u0 k0 th ts tg td tr tw tc tv z0 z1 z2 z3 z4 z5 uh us ug ud ur uw uc uv kr fh fc fu m0 mh mg ms md mc mr me fm o0 o1 hfh hfc hfm hP hD hS hl kend)
  | 22, hk9, _ => exact lv_tableIn hx hb dL_law_45 hr1 hr2 (off := 1680) (tgt := 1725) (by rw [hk9]; rfl) (by decide) (case_22 C0 x0 t0 u0 k0 th ts tg td tr tw tc tv z0 z1 z2 z3 z4 z5 uh us ug ud ur uw uc uv kr fh fc fu m0 mh mg ms md mc mr me fm o0 o1 hfh hfc hfm hP hD hS hl kend)
  | 23, hk9, _ => exact lv_tableIn hx hb dL_law_45 hr1 hr2 (off := 1724) (tgt := 1769) (by rw [hk9]; rfl) (by decide) (case_23 C0 x0 t0 u0 k0 th ts tg td tr tw tc tv z0 z1 z2 z3 z4 z5 uh us ug ud ur uw uc uv kr fh fc fu m0 mh mg ms md mc mr me fm o0 o1 hfh hfc hfm hP hD hS hl kend)
  | 24, hk9, _ => exact lv_tableIn hx hb dL_law_45 hr1 hr2 (off := 1768) (tgt := 1813) (by rw [hk9]; rfl) (by decide) (case_24 C0 x0 t0 u0 k0 th ts tg td tr tw tc tv z0 z1 z2 z3 z4 z5 uh us ug ud ur uw uc uv kr fh fc fu m0 mh mg ms md mc mr me fm o0 o1 hfh hfc hfm hP hD hS hl kend)
  | 25, hk9, _ => exact lv_tableIn hx hb dL_law_45 hr1 hr2 (off := 1781) (tgt := 1826) (by rw [hk9]; rfl) (by decide) (case_25 C0 x0 t0 u0 k0 th ts tg td tr tw tc tv z0 z1 z2 z3 z4 z5 uh us ug ud ur uw uc uv kr fh fc fu m0 mh mg ms md mc mr me fm o0 o1 hfh hfc hfm hP hD hS hl kend)
  | 26, hk9, _ => exact lv_tableIn hx hb dL_law_45 hr1 hr2 (off := 1825) (tgt := 1870) (by rw [hk9]; rfl) (by decide) (case_26 C0 x0 t0 u0 k0 th ts tg td tr tw tc tv z0 z1 z2 z3 z4 z5 uh us ug ud ur uw uc uv kr fh fc fu m0 mh mg ms md mc mr me fm o0 o1 hfh hfc hfm hP hD hS hl kend)
  | 27, hk9, _ => exact lv_tableIn hx hb dL_law_45 hr1 hr2 (off := 1888) (tgt := 1933) (by rw [hk9]; rfl) (by decide) (case_27 C0 x0 t0 u0 k0 th ts tg td tr tw tc tv z0 z1 z2 z3 z4 z5 uh us ug ud ur uw uc uv kr fh fc fu m0 mh mg ms md mc mr me fm o0 o1 hfh hfc hfm hP hD hS hl kend)
  | 28, hk9, _ => exact lv_tableIn hx hb dL_law_45 hr1 hr2 (off := 1944) (tgt := 1989) (by rw [hk9]; rfl) (by decide) (case_28 C0 x0 t0 u0 k0 th ts tg td tr tw tc tv z0 z1 z2 z3 z4 z5 uh us ug ud ur uw uc uv kr fh fc fu m0 mh mg ms md mc mr me fm o0 o1 hfh hfc hfm hP hD hS hl kend)
  | 29, hk9, _ => exact lv_tableIn hx hb dL_law_45 hr1 hr2 (off := 2019) (tgt := 2064) (by rw [hk9]; rfl) (by decide) (case_29 C0 x0 t0 u0 k0 th ts tg td tr tw tc tv z0 z1 z2 z3 z4 z5 uh us ug ud ur uw uc uv kr fh fc fu m0 mh mg ms md mc mr me fm o0 o1 hfh hfc hfm hP hD hS hl kend)
  | 30, hk9, _ => exact lv_tableIn hx hb dL_law_45 hr1 hr2 (off := 2070) (tgt := 2115) (by rw [hk9]; rfl) (by decide) (case_30 C0 x0 t0 u0 k0 th ts tg td tr tw tc tv z0 z1 z2 z3 z4 z5 uh us ug ud ur uw uc uv kr fh fc fu m0 mh mg ms md mc mr me fm o0 o1 hfh hfc hfm hP hD hS hl kend)
  | 31, hk9, _ => exact lv_tableIn hx hb dL_law_45 hr1 hr2 (off := 2149) (tgt := 2194) (by rw [hk9]; rfl) (by decide) (case_31 C0 x0 t0 u0 k0 th ts tg td tr tw tc tv z0 z1 z2 z3 z4 z5 uh us ug ud ur uw uc uv kr fh fc fu m0 mh mg ms md mc mr me fm o0 o1 hfh hfc hfm hP hD hS hl kend)
  | 32, hk9, _ => exact lv_tableIn hx hb dL_law_45 hr1 hr2 (off := 2231) (tgt := 2276) (by rw [hk9]; rfl) (by decide) (case_32 C0 x0 t0 u0 k0 th ts tg td tr tw tc tv z0 z1 z2 z3 z4 z5 uh us ug ud ur uw uc uv kr fh fc fu m0 mh mg ms md mc mr me fm o0 o1 hfh hfc hfm hP hD hS hl kend)
  | 33, hk9, _ => exact lv_tableIn hx hb dL_law_45 hr1 hr2 (off := 2287) (tgt := 2332) (by rw [hk9]; rfl) (by decide) (case_33 C0 x0 t0 u0 k0 th ts tg td tr tw tc tv z0 z1 z2 z3 z4 z5 uh us ug ud ur uw uc uv kr fh fc fu m0 mh mg ms md mc mr me fm o0 o1 hfh hfc hfm hP hD hS hl kend)
  | 34, hk9, _ => exact lv_tableIn hx hb dL_law_45 hr1 hr2 (off := 2350) (tgt := 2395) (by rw [hk9]; rfl) (by decide) (case_34 C0 x0 t0 u0 k0 th ts tg td tr tw tc tv z0 z1 z2 z3 z4 z5 uh us ug ud ur uw uc uv kr fh fc fu m0 mh mg ms md mc mr me fm o0 o1 hfh hfc hfm hP hD hS hl kend)
  | 35, hk9, _ => exact lv_tableIn hx hb dL_law_45 hr1 hr2 (off := 2363) (tgt := 2408) (by rw [hk9]; rfl) (by decide) (case_35 C0 x0 t0 u0 k0 th ts tg td tr tw tc tv z0 z1 z2 z3 z4 z5 uh us ug ud ur uw uc uv kr fh fc fu m0 mh mg ms md mc mr me fm o0 o1 hfh hfc hfm hP hD hS hl kend)
  | 36, hk9, _ => exact lv_tableIn hx hb dL_law_45 hr1 hr2 (off := 2443) (tgt := 2488) (by rw [hk9]; rfl) (by decide) (case_36 C0 x0 t0 u0 k0 th ts tg td tr tw tc tv z0 z1 z2 z3 z4 z5 uh us ug ud ur uw uc uv kr fh fc fu m0 mh mg ms md mc mr me fm o0 o1 hfh hfc hfm hP hD hS hl kend)
  | 37, hk9, _ => exact lv_tableIn hx hb dL_law_45 hr1 hr2 (off := 2457) (tgt := 2502) (by rw [hk9]; rfl) (by decide) (case_37 C0 x0 t0 u0 k0 th ts tg td tr tw tc tv z0 z1 z2 z3 z4 z5 uh us ug ud ur uw uc uv kr fh fc fu m0 mh mg ms md mc mr me fm o0 o1 hfh hfc hfm hP hD hS hl kend)
  | 38, hk9, _ => exact lv_tableIn hx hb dL_law_45 hr1 hr2 (off := 2523) (tgt := 2568) (by rw [hk9]; rfl) (by decide) (case_38 C0 x0 t0 u0 k0 th ts tg td tr tw tc tv z0 z1 z2 z3 z4 z5 uh us ug ud ur uw uc uv kr fh fc fu m0 mh mg ms md mc mr me fm o0 o1 hfh hfc hfm hP hD hS hl kend)
  | 39, hk9, _ => exact lv_tableIn hx hb dL_law_45 hr1 hr2 (off := 2588) (tgt := 2633) (by rw [hk9]; rfl) (by decide) (case_39 C0 x0 t0 u0 k0 th ts tg td tr tw tc tv z0 z1 z2 z3 z4 z5 uh us ug ud ur uw uc uv kr fh fc fu m0 mh mg ms md mc mr me fm o0 o1 hfh hfc hfm hP hD hS hl kend)
  | k + 40, _, h => exact absurd h (by omega)
