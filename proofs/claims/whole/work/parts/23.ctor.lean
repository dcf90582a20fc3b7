theorem fo_X0_9 : Cond.fieldLink RX0 9 RX0 (TX0 0).2.1 (TX0 0).2.2.1 ∈ tb := tb_in 80 (by decide +kernel) (by decide +kernel)
theorem fo_X0_15 : Cond.fieldLink RX0 15 RX0 (TX0 1).2.1 (TX0 1).2.2.1 ∈ tb := tb_in 82 (by decide +kernel) (by decide +kernel)
theorem fo_X0_18 : Cond.fieldLink RX0 18 RX0 (TX0 2).2.1 (TX0 2).2.2.1 ∈ tb := tb_in 85 (by decide +kernel) (by decide +kernel)
theorem fo_X1_7 : Cond.fieldLink RX1 7 RX1 (TX1 0).2.1 (TX1 0).2.2.1 ∈ tb := tb_in 181 (by decide +kernel) (by decide +kernel)
theorem fo_X2_12 : Cond.fieldLink RX2 12 RX2 (TX2 0).2.1 (TX2 0).2.2.1 ∈ tb := tb_in 101 (by decide +kernel) (by decide +kernel)
theorem fo_X2_18 : Cond.fieldLink RX2 18 RX2 (TX2 1).2.1 (TX2 1).2.2.1 ∈ tb := tb_in 103 (by decide +kernel) (by decide +kernel)
theorem fo_X3_9 : Cond.fieldLink RX3 9 RX3 (TX3 0).2.1 (TX3 0).2.2.1 ∈ tb := tb_in 262 (by decide +kernel) (by decide +kernel)
theorem fo_X3_15 : Cond.fieldLink RX3 15 RX3 (TX3 1).2.1 (TX3 1).2.2.1 ∈ tb := tb_in 263 (by decide +kernel) (by decide +kernel)
theorem fo_X3_19 : Cond.fieldLink RX3 19 RX3 (TX3 2).2.1 (TX3 2).2.2.1 ∈ tb := tb_in 264 (by decide +kernel) (by decide +kernel)
theorem fo_X3_25 : Cond.fieldLink RX3 25 RX3 (TX3 3).2.1 (TX3 3).2.2.1 ∈ tb := tb_in 265 (by decide +kernel) (by decide +kernel)
theorem fo_X4_7 : Cond.fieldLink RX4 7 RX4 (TX4 1).2.1 (TX4 1).2.2.1 ∈ tb := tb_in 465 (by decide +kernel) (by decide +kernel)
theorem fo_X4_13 : Cond.fieldLink RX4 13 RX4 (TX4 2).2.1 (TX4 2).2.2.1 ∈ tb := tb_in 466 (by decide +kernel) (by decide +kernel)
theorem fo_X4_16 : Cond.fieldLink RX4 16 RX4 (TX4 5).2.1 (TX4 5).2.2.1 ∈ tb := tb_in 469 (by decide +kernel) (by decide +kernel)
theorem fo_X4_20 : Cond.fieldLink RX4 20 RX4 (TX4 6).2.1 (TX4 6).2.2.1 ∈ tb := tb_in 470 (by decide +kernel) (by decide +kernel)
theorem fo_X4_23 : Cond.fieldLink RX4 23 RX4 (TX4 7).2.1 (TX4 7).2.2.1 ∈ tb := tb_in 471 (by decide +kernel) (by decide +kernel)
theorem fo_X4_26 : Cond.fieldLink RX4 26 RX4 (TX4 8).2.1 (TX4 8).2.2.1 ∈ tb := tb_in 472 (by decide +kernel) (by decide +kernel)
theorem fo_X4_29 : Cond.fieldLink RX4 29 RX4 (TX4 9).2.1 (TX4 9).2.2.1 ∈ tb := tb_in 473 (by decide +kernel) (by decide +kernel)
theorem fo_X4_32 : Cond.fieldLink RX4 32 RX4 (TX4 10).2.1 (TX4 10).2.2.1 ∈ tb := tb_in 474 (by decide +kernel) (by decide +kernel)
theorem fo_X4_35 : Cond.fieldLink RX4 35 RX4 (TX4 11).2.1 (TX4 11).2.2.1 ∈ tb := tb_in 475 (by decide +kernel) (by decide +kernel)
theorem fo_X4_38 : Cond.fieldLink RX4 38 RX4 (TX4 12).2.1 (TX4 12).2.2.1 ∈ tb := tb_in 476 (by decide +kernel) (by decide +kernel)
theorem fo_X4_41 : Cond.fieldLink RX4 41 RX4 (TX4 13).2.1 (TX4 13).2.2.1 ∈ tb := tb_in 477 (by decide +kernel) (by decide +kernel)
theorem fo_X4_44 : Cond.fieldLink RX4 44 RX4 (TX4 14).2.1 (TX4 14).2.2.1 ∈ tb := tb_in 478 (by decide +kernel) (by decide +kernel)
theorem fo_X4_47 : Cond.fieldLink RX4 47 RX4 (TX4 15).2.1 (TX4 15).2.2.1 ∈ tb := tb_in 479 (by decide +kernel) (by decide +kernel)
theorem fo_X4_50 : Cond.fieldLink RX4 50 RX4 (TX4 16).2.1 (TX4 16).2.2.1 ∈ tb := tb_in 480 (by decide +kernel) (by decide +kernel)
theorem fo_X4_53 : Cond.fieldLink RX4 53 RX4 (TX4 17).2.1 (TX4 17).2.2.1 ∈ tb := tb_in 481 (by decide +kernel) (by decide +kernel)
theorem fo_X4_56 : Cond.fieldLink RX4 56 RX4 (TX4 18).2.1 (TX4 18).2.2.1 ∈ tb := tb_in 482 (by decide +kernel) (by decide +kernel)
theorem fo_X4_59 : Cond.fieldLink RX4 59 RX4 (TX4 19).2.1 (TX4 19).2.2.1 ∈ tb := tb_in 483 (by decide +kernel) (by decide +kernel)
theorem fo_X4_62 : Cond.fieldLink RX4 62 RX4 (TX4 20).2.1 (TX4 20).2.2.1 ∈ tb := tb_in 484 (by decide +kernel) (by decide +kernel)
theorem fo_X4_66 : Cond.fieldLink RX4 66 RX4 (TX4 21).2.1 (TX4 21).2.2.1 ∈ tb := tb_in 485 (by decide +kernel) (by decide +kernel)
theorem fo_X4_69 : Cond.fieldLink RX4 69 RX4 (TX4 22).2.1 (TX4 22).2.2.1 ∈ tb := tb_in 486 (by decide +kernel) (by decide +kernel)
theorem fo_X4_72 : Cond.fieldLink RX4 72 RX4 (TX4 23).2.1 (TX4 23).2.2.1 ∈ tb := tb_in 487 (by decide +kernel) (by decide +kernel)
theorem fo_X4_75 : Cond.fieldLink RX4 75 RX4 (TX4 24).2.1 (TX4 24).2.2.1 ∈ tb := tb_in 488 (by decide +kernel) (by decide +kernel)
theorem fo_X4_78 : Cond.fieldLink RX4 78 RX4 (TX4 25).2.1 (TX4 25).2.2.1 ∈ tb := tb_in 489 (by decide +kernel) (by decide +kernel)
theorem fo_X4_81 : Cond.fieldLink RX4 81 RX4 (TX4 26).2.1 (TX4 26).2.2.1 ∈ tb := tb_in 490 (by decide +kernel) (by decide +kernel)
theorem fo_X4_84 : Cond.fieldLink RX4 84 RX4 (TX4 27).2.1 (TX4 27).2.2.1 ∈ tb := tb_in 491 (by decide +kernel) (by decide +kernel)
theorem fo_X4_87 : Cond.fieldLink RX4 87 RX4 (TX4 28).2.1 (TX4 28).2.2.1 ∈ tb := tb_in 492 (by decide +kernel) (by decide +kernel)
theorem fo_X4_90 : Cond.fieldLink RX4 90 RX4 (TX4 29).2.1 (TX4 29).2.2.1 ∈ tb := tb_in 493 (by decide +kernel) (by decide +kernel)
theorem fo_X4_93 : Cond.fieldLink RX4 93 RX4 (TX4 30).2.1 (TX4 30).2.2.1 ∈ tb := tb_in 494 (by decide +kernel) (by decide +kernel)
theorem fo_X4_96 : Cond.fieldLink RX4 96 RX4 (TX4 31).2.1 (TX4 31).2.2.1 ∈ tb := tb_in 495 (by decide +kernel) (by decide +kernel)
theorem fo_X4_99 : Cond.fieldLink RX4 99 RX4 (TX4 32).2.1 (TX4 32).2.2.1 ∈ tb := tb_in 496 (by decide +kernel) (by decide +kernel)
theorem fo_X4_102 : Cond.fieldLink RX4 102 RX4 (TX4 33).2.1 (TX4 33).2.2.1 ∈ tb := tb_in 497 (by decide +kernel) (by decide +kernel)
theorem fo_X4_105 : Cond.fieldLink RX4 105 RX4 (TX4 34).2.1 (TX4 34).2.2.1 ∈ tb := tb_in 498 (by decide +kernel) (by decide +kernel)
theorem fo_X4_108 : Cond.fieldLink RX4 108 RX4 (TX4 35).2.1 (TX4 35).2.2.1 ∈ tb := tb_in 499 (by decide +kernel) (by decide +kernel)
theorem fo_X4_111 : Cond.fieldLink RX4 111 RX4 (TX4 0).2.1 (TX4 0).2.2.1 ∈ tb := tb_in 464 (by decide +kernel) (by decide +kernel)
theorem lo_X3_1 : Cond.methodLink RX3 1 objectInit ∈ tb := tb_in 62 (by decide +kernel) (by decide +kernel)
theorem lo_X2_3 : Cond.methodLink RX2 3 objectInit ∈ tb := tb_in 73 (by decide +kernel) (by decide +kernel)
theorem lo_X0_3 : Cond.methodLink RX0 3 objectInit ∈ tb := tb_in 79 (by decide +kernel) (by decide +kernel)
theorem lo_X1_1 : Cond.methodLink RX1 1 objectInit ∈ tb := tb_in 180 (by decide +kernel) (by decide +kernel)
theorem lo_X4_1 : Cond.methodLink RX4 1 objectInit ∈ tb := tb_in 431 (by decide +kernel) (by decide +kernel)
theorem w_oi : Cond.instanceMethod objectInit ∈ tb := tb_in 63 (by decide +kernel) (by decide +kernel)
theorem w_oc : Cond.code objectInit ⟨#[0xb1]⟩ 1 none ∈ tb := tb_in 64 rfl (by decide +kernel)
theorem w_aI : Cond.arrayClass .int ∈ tb := tb_in 100 (by decide +kernel) (by decide +kernel)
theorem w_aZ : Cond.arrayClass .boolean ∈ tb := tb_in 99 (by decide +kernel) (by decide +kernel)
theorem w_aF : Cond.arrayClass .float ∈ tb := tb_in 573 (by decide +kernel) (by decide +kernel)
theorem cl_L_7 : Cond.classLink RL 7 RX3 ∈ tb := tb_in 57 (by decide +kernel) (by decide +kernel)
theorem cl_X3_13 : Cond.classLink RX3 13 RX2 ∈ tb := tb_in 65 (by decide +kernel) (by decide +kernel)
theorem cl_X3_23 : Cond.classLink RX3 23 RX1 ∈ tb := tb_in 67 (by decide +kernel) (by decide +kernel)
theorem cl_X2_9 : Cond.classLink RX2 9 RX0 ∈ tb := tb_in 74 (by decide +kernel) (by decide +kernel)
theorem cl_L_18 : Cond.classLink RL 18 RX4 ∈ tb := tb_in 426 (by decide +kernel) (by decide +kernel)
theorem in_X3 : Cond.instantiable RX3 6 ∈ tb := tb_in 58 (by decide +kernel) (by decide +kernel)
theorem in_X2 : Cond.instantiable RX2 19 ∈ tb := tb_in 69 (by decide +kernel) (by decide +kernel)
theorem in_X0 : Cond.instantiable RX0 4 ∈ tb := tb_in 75 (by decide +kernel) (by decide +kernel)
theorem in_X1 : Cond.instantiable RX1 10 ∈ tb := tb_in 176 (by decide +kernel) (by decide +kernel)
theorem in_X4 : Cond.instantiable RX4 36 ∈ tb := tb_in 427 (by decide +kernel) (by decide +kernel)
theorem ii_L : Cond.initialized RL ∈ tb := tb_in 51 (by decide +kernel) (by decide +kernel)
theorem ii_X3 : Cond.initialized RX3 ∈ tb := tb_in 52 (by decide +kernel) (by decide +kernel)
theorem ii_X2 : Cond.initialized RX2 ∈ tb := tb_in 53 (by decide +kernel) (by decide +kernel)
theorem ii_X0 : Cond.initialized RX0 ∈ tb := tb_in 54 (by decide +kernel) (by decide +kernel)
theorem ii_X1 : Cond.initialized RX1 ∈ tb := tb_in 55 (by decide +kernel) (by decide +kernel)
theorem ii_X4 : Cond.initialized RX4 ∈ tb := tb_in 56 (by decide +kernel) (by decide +kernel)
set_option maxRecDepth 40000 in
theorem ci_X0 : (yX0_init.cls ≠ "java/lang/invoke/MethodHandle" ∧ yX0_init.cls ≠ "java/lang/invoke/VarHandle" ∧ (parseMethodDescriptor yX0_init.desc).map (fun d => d.parameters.length) = some 0) ∧ Cond.instanceMethod yX0_init ∈ tb ∧ Cond.initialized yX0_init.cls ∈ tb ∧ Cond.code yX0_init cX0_init 1 none ∈ tb := ⟨⟨by decide, by decide, by decide +kernel⟩, tb_in 77 (by decide +kernel) (by decide +kernel), tb_in 54 (by decide +kernel) (by decide +kernel), tb_in 78 rfl (by decide +kernel)⟩
set_option maxRecDepth 40000 in
theorem ci_X1 : (yX1_init.cls ≠ "java/lang/invoke/MethodHandle" ∧ yX1_init.cls ≠ "java/lang/invoke/VarHandle" ∧ (parseMethodDescriptor yX1_init.desc).map (fun d => d.parameters.length) = some 1) ∧ Cond.instanceMethod yX1_init ∈ tb ∧ Cond.initialized yX1_init.cls ∈ tb ∧ Cond.code yX1_init cX1_init 2 none ∈ tb := ⟨⟨by decide, by decide, by decide +kernel⟩, tb_in 178 (by decide +kernel) (by decide +kernel), tb_in 55 (by decide +kernel) (by decide +kernel), tb_in 179 rfl (by decide +kernel)⟩
set_option maxRecDepth 40000 in
theorem ci_X2 : (yX2_init.cls ≠ "java/lang/invoke/MethodHandle" ∧ yX2_init.cls ≠ "java/lang/invoke/VarHandle" ∧ (parseMethodDescriptor yX2_init.desc).map (fun d => d.parameters.length) = some 0) ∧ Cond.instanceMethod yX2_init ∈ tb ∧ Cond.initialized yX2_init.cls ∈ tb ∧ Cond.code yX2_init cX2_init 1 none ∈ tb := ⟨⟨by decide, by decide, by decide +kernel⟩, tb_in 71 (by decide +kernel) (by decide +kernel), tb_in 53 (by decide +kernel) (by decide +kernel), tb_in 72 rfl (by decide +kernel)⟩
set_option maxRecDepth 40000 in
theorem ci_X3 : (yX3_init.cls ≠ "java/lang/invoke/MethodHandle" ∧ yX3_init.cls ≠ "java/lang/invoke/VarHandle" ∧ (parseMethodDescriptor yX3_init.desc).map (fun d => d.parameters.length) = some 1) ∧ Cond.instanceMethod yX3_init ∈ tb ∧ Cond.initialized yX3_init.cls ∈ tb ∧ Cond.code yX3_init cX3_init 3 none ∈ tb := ⟨⟨by decide, by decide, by decide +kernel⟩, tb_in 60 (by decide +kernel) (by decide +kernel), tb_in 52 (by decide +kernel) (by decide +kernel), tb_in 61 rfl (by decide +kernel)⟩
set_option maxRecDepth 40000 in
theorem ci_X4 : (yX4_init.cls ≠ "java/lang/invoke/MethodHandle" ∧ yX4_init.cls ≠ "java/lang/invoke/VarHandle" ∧ (parseMethodDescriptor yX4_init.desc).map (fun d => d.parameters.length) = some 1) ∧ Cond.instanceMethod yX4_init ∈ tb ∧ Cond.initialized yX4_init.cls ∈ tb ∧ Cond.code yX4_init cX4_init 3 none ∈ tb := ⟨⟨by decide, by decide, by decide +kernel⟩, tb_in 429 (by decide +kernel) (by decide +kernel), tb_in 56 (by decide +kernel) (by decide +kernel), tb_in 430 rfl (by decide +kernel)⟩
def KA (g : GX) (U : State) : Prop := KK g U ∧ va_AO RX2 U ∧ va_AO RX1 U
theorem KA.warm {g : GX} {s U : State} (hW : s.WarmedH U.vm) (h : KA g s) : KA g U := ⟨h.1.warm hW, va_AO.moved hW.alike h.2.1, va_AO.moved hW.alike h.2.2⟩
theorem KA.calling {g : GX} {U : State} {f : JFrame} {mk : MethodId} {a : Array Value} (h : KA g U) : KA g (U.calling f mk a) := ⟨h.1.calling, va_AO.moved (u := U) (U := U.calling f mk a) (Vm.Alike.refl U.vm) h.2.1, va_AO.moved (u := U) (U := U.calling f mk a) (Vm.Alike.refl U.vm) h.2.2⟩
def PA (g : GX) (Pre : Heap → Prop) (sz : Nat) (av : List Value) : Array Value → State → Prop := fun v U => v = av.toArray ∧ KA g U ∧ U.heap.size = sz ∧ Pre U.heap
def QA (Post : Heap → Prop) (A : Nat → Prop) (sz2 : Nat) : Array Value → State → Outcome → State → Prop := fun _ st oc t => oc = .returned none ∧ Post t.heap ∧ t.heap.size = sz2 ∧ va_F A st t
abbrev MA (l : Launch) (y : MethodName) (ws : List Cond) (rm : Room) (g : GX) (Pre Post : Heap → Prop) (A : Nat → Prop) (sz sz2 : Nat) (av : List Value) (mc ms : Nat) : Prop := Met l y ws rm (PA g Pre sz av) (QA Post A sz2) mc ms A
abbrev rma (f lo c s : Nat) : Room := { frames := f, cells := c, slots := s, locals := lo }
theorem MA.start (own : String) {l : Launch} {y : MethodName} {cc : ByteArray} {nL : Nat} {rm : Room} {g : GX} {Pre Post : Heap → Prop} {A : Nat → Prop} {sz sz2 mc ms : Nat} {av : List Value} (hy : plainName y.cls = true) (ho : y.cls = own) (hyn : y.name = "<init>") (hn : (lg_sl av).length ≤ nL)
    (body : ∀ (p : Program) (e : Env) (s : State) (m : MethodId) (below : List Frame) (meth : Method) (c : Code) (ls : Array Slot), Cx g p s m av.toArray c cc nL own → KA g s → meth.sig.returnType = none → meth.locks = false → meth.name = "<init>" → s.heap.size = sz → Pre s.heap → va_S A s.heap s.heap [] → lv_has ls nL (lv_args 0 av) → W p l e rm s m av.toArray below meth c s.heap [] 0 0 (MQ below (QA Post A sz2) av.toArray s mc ms A) (F0 m 0 ls [])) :
    MA l y (.code y cc nL none :: tb) rm g Pre Post A sz sz2 av mc ms := by
  refine Met.ofW (cc := cc) (maxL := nL) (ret := none) hy rfl ?_
  intro p e s m args below meth c s₁ B hml hv
  obtain ⟨rfl, hK, hz, hR⟩ := hv
  have hl := lv_entry av (n := nL) hn
  rw [lg_entry_eq]
  exact body p e s m below meth c _ ⟨B.exec, B.bytes, hml, ho ▸ findClass_of_methodNamed B.named, fun w hw => atoms_spec (ws := .code y cc nL none :: tb) B.pre w (List.mem_cons_of_mem _ hw), hK.1⟩ hK B.returns B.notSynchronized ((name_of_methodNamed B.named B.method).1.trans hyn) hz hR va_S.rf hl
section CTOR
variable {p : Program} {l : Launch} {e : Env} {R : Room} {s : State} {m : MethodId} {args : Array Value} {below : List Frame} {meth : Method} {c : Code} {H H0 : Heap} {locs : List Loc} {cells slots : Nat} {Q : State → Prop}
variable {cc : ByteArray} {nL pc index : Nat} {ls : Array Slot} {rest : List Value} {g : GX} {own : String} {A : Nat → Prop} {Pre Post : Heap → Prop}
theorem endA {sz2 : Nat} (C : Cx g p s m args c cc nL own) (hr : meth.sig.returnType = none) (hlocks : meth.locks = false) (hR : Post H) (hz : H.size = sz2) (hS : va_S A s.heap H locs) (hdg : decode cc pc = .ok (.return_, 1)) : W p l e R s m args below meth c H locs cells slots (MQ below (QA Post A sz2) args s cells slots A) (F0 m pc ls []) :=
  W.vret C.1 C.2.1 hr (fun t ht hW => ⟨rfl, by rw [ht]; exact hR, by rw [ht]; exact hz, hS.F ht⟩) hS.2.2 hdg
theorem goA {A0 A1 : Nat → Prop} {a : Array Value} {st0 : List Value} {sz2 mc ms : Nat} (hr : va_Run p l e R s m args below meth c H locs cells slots mc ms (F0 m pc ls st0) rest (QA Post A1 sz2 a) A1) (hS : va_S A0 H0 H locs) (hA : ∀ q, A1 q → A0 q)
    (kk : ∀ (H1 : Heap) (locs1 : List Loc), Post H1 → H1.size = sz2 → va_S A0 H0 H1 locs1 → (∀ q : Nat, q < H.size → ¬ A1 q → H1[q]? = H[q]?) → W p l e R s m args below meth c H1 locs1 (cells + mc) (slots + ms) Q (F0 m (pc + 3) ls rest)) : W p l e R s m args below meth c H locs cells slots Q (F0 m pc ls st0) := by
  intro T hT X
  obtain ⟨v, st₀, t, T', L, h0, X', hL, e1, e2, ⟨hv, hp, hz2, hz, hk⟩, st⟩ := hr T hT X
  cases hv
  rw [h0] at hz hk
  obtain ⟨t2, a1, b1⟩ := kk T'.heap (locs ++ L) (by rw [e1]; exact hp) (by rw [e1]; exact hz2)
    ⟨Nat.le_trans hS.1 (by rw [e1]; exact hz), fun q h1 h2 => by rw [e1, hk q (Nat.lt_of_lt_of_le h1 hS.1) (fun z => h2 (hA q z))]; exact hS.2.1 q h1 h2, fun q hq => by
      rcases List.mem_append.mp hq with h | h
      · exact hS.2.2 q h
      · exact hA _ (hL q h)⟩ (fun q h1 h2 => by rw [e1]; exact hk q h1 h2) T' rfl X'
  exact ⟨t2, st t2 a1, b1⟩
theorem cxI {A0 A1 : Nat → Prop} {y : MethodName} {bytes : ByteArray} {maxL n sz sz2 mc ms a : Nat} {rm : Room} {As st0 : List Value} (C : Cx g p s m args c cc nL own) (hKA : KA g s) (hM : MA l y (.code y bytes maxL none :: tb) rm g Pre Post A1 sz sz2 (.ref a :: As) mc ms)
    (hd : (y.cls ≠ "java/lang/invoke/MethodHandle" ∧ y.cls ≠ "java/lang/invoke/VarHandle" ∧ (parseMethodDescriptor y.desc).map (fun d => d.parameters.length) = some n) ∧ Cond.instanceMethod y ∈ tb ∧ Cond.initialized y.cls ∈ tb ∧ Cond.code y bytes maxL none ∈ tb) (hyn : y.name = "<init>")
    (hl : Cond.methodLink own index y ∈ tb ∨ Cond.methodLinkNest own index y RX3 ∈ nb) (hR : rm.frames + 1 ≤ R.frames ∧ 8 + (maxL + 11) + rm.locals ≤ R.locals) (hrm : rm.cells = mc ∧ rm.slots = ms) (hn : As.length = n) (hsize : ls.size = nL) (hst : st0 = As.reverse ++ .ref a :: rest) (hW : (rest.map fun v => v.category).sum ≤ 8)
    (hdg : decode cc pc = .ok (.invokespecial index, 3)) (hsz : H.size = sz) (hpre : Pre H) (hf : cells + mc ≤ R.cells ∧ slots + ms ≤ R.slots) (hS : va_S A0 H0 H locs) (hA : ∀ q, A1 q → A0 q)
    (kk : ∀ (H1 : Heap) (locs1 : List Loc), Post H1 → H1.size = sz2 → va_S A0 H0 H1 locs1 → (∀ q : Nat, q < H.size → ¬ A1 q → H1[q]? = H[q]?) → W p l e R s m args below meth c H1 locs1 (cells + mc) (slots + ms) Q (F0 m (pc + 3) ls rest)) : W p l e R s m args below meth c H locs cells slots Q (F0 m pc ls st0) := by
  obtain ⟨hx, hb, hml, hown, hT, hK⟩ := C
  obtain ⟨hd, w1, w3, w4⟩ := hd
  have hcw : ∀ w ∈ Cond.code y bytes maxL none :: tb, w ∈ tb := fun w hw => (List.mem_cons.mp hw).elim (fun h => h ▸ w4) id
  have hp : PreS s H (PA g Pre sz (.ref a :: As)) (.ref a :: As) := ⟨fun _ _ _ _ h => ⟨h.1, h.2.1.calling, h.2.2.1, h.2.2.2⟩, fun U hU hW => ⟨rfl, hKA.warm hW, by rw [hU]; exact hsz, by rw [hU]; exact hpre⟩⟩
  rcases hl with hl | hl
  · exact goA (va_runI (As := As) (rest := rest) ⟨hx, hb, hml, hown, hT⟩ hM (cwI n hT (tb_good hcw) rfl hrm.1 hrm.2 (hT _ w3) (hT _ hl) (hT _ w1) hyn hd hR) hp rfl hn hsize hst (lv_room hW) hdg hf) hS hA kk
  · exact goA (va_runIN (As := As) (rest := rest) (host := RX3) ⟨hx, hb, hml, hown, hT⟩ hM ⟨va_cnB n hT (tb_good hcw) rfl hrm.1 hrm.2 (hK.2 _ hl) (hT _ w3) hd hR, hyn, hT _ w1⟩ hp rfl hn hsize hst (lv_room hW) hdg hf) hS hA kk
theorem oI {a : Nat} (C : Cx g p s m args c cc nL own) (hl : Cond.methodLink own index objectInit ∈ tb) (hsize : ls.size = nL) (hdg : decode cc pc = .ok (.invokespecial index, 3)) (hfr : 1 ≤ R.frames) (hlo : 20 ≤ R.locals) (kk : W p l e R s m args below meth c H locs cells slots Q (F0 m (pc + 3) ls [])) : W p l e R s m args below meth c H locs cells slots Q (F0 m pc ls [.ref a]) := by
  obtain ⟨hx, hb, hml, hown, hT, hK⟩ := C
  refine W.objInit hx hb hown (hT _ hl) (hT _ w_oi) (hT _ w_oc) rfl (by rw [hml]; exact hsize) (rest := []) rfl hdg hfr ?_ kk
  have := lv_room (m := m) (pc := pc) (ls := ls) (rest := [.ref a]) (st := []) (Nat.zero_le _)
  omega
end CTOR
def reg (a n : Nat) : Nat → Prop := fun q => a ≤ q ∧ q < a + n
def FQ (g : GX) (a : Nat) (H : Heap) : Prop := va_at g.1 vwCl (a, .inr (0, [.ref (a + 1), .ref (a + 2), .ref (a + 3), .int 0])) H ∧ va_at g.1 vwCl (a + 1, .inl (g.2 0, 5, .inl (fun _ => 0))) H ∧ va_at g.1 vwCl (a + 2, .inl (g.2 0, 5, .inl (fun _ => 0))) H ∧ va_at g.1 vwCl (a + 3, .inl (g.2 0, 5, .inl (fun _ => 0))) H
theorem FQ.keep {g : GX} {a : Nat} {H H1 : Heap} (h : FQ g a H) (oq : ∀ q : Nat, a ≤ q → q < a + 4 → H1[q]? = H[q]?) : FQ g a H1 := ⟨at_eq h.1 (oq _ (by omega) (by omega)) rfl, at_eq h.2.1 (oq _ (by omega) (by omega)) rfl, at_eq h.2.2.1 (oq _ (by omega) (by omega)) rfl, at_eq h.2.2.2 (oq _ (by omega) (by omega)) rfl⟩
def fq0 : List Value := [.null, .null, .null, .int 0]
def st0 : List Value := [.null, .null, .int 0, .int 0, .int 0, .int 0, .int 0, .int 0, .int 0, .int 0, .int 0, .int 0, .int 0, .float 0, .int 0, .int 0, .int 0, .int 0, .int 0]
def rg0 : List Value := [.int 0, .int 0, .int 0, .int 0, .int 0, .int 0, .int 0, .int 0, .int 0, .int 0]
def stN (a : Nat) : List Value := [.ref (a + 1), .ref (a + 5), .int (nI 1), .int (-1), .int (nI 20), .int 0, .int 0, .int 0, .int 0, .int 0, .int 0, .int 0, .int (-1), .float 0, .int 0, .int 0, .int (-1), .int 0, .int 0]
def STN (g : GX) (a : Nat) (H : Heap) : Prop := va_at g.1 vwCl (a, .inr (2, stN a)) H ∧ FQ g (a + 1) H ∧ FQ g (a + 5) H
theorem STN.keep {g : GX} {a : Nat} {H H1 : Heap} (h : STN g a H) (oq : ∀ q : Nat, a ≤ q → q < a + 9 → H1[q]? = H[q]?) : STN g a H1 := ⟨at_eq h.1 (oq _ (by omega) (by omega)) rfl, h.2.1.keep (fun q h1 h2 => oq q (by omega) (by omega)), h.2.2.keep (fun q h1 h2 => oq q (by omega) (by omega))⟩
def rgN (f : Nat) : List Value := [.int (nI f), .int 0, .int 0, .int 0, .int 0, .int 0, .int 0, .int 0, .int 0, .int 0]
