/-! THE CLAIM OUT OF ONE WALK OF THE LAW'S BODY. Your part is whole_start (and what it stands on); all else here is the same for every law, but numbers. -/
def R_law : String := "DualRingLaw"
def lw_P (b : Addr) (xs : List Int32) (args : Array Value) (s : State) : Prop := args = #[.ref b] ∧ s.IntsAt b xs ∧ xs.length ≤ 2561 ∧ (Jvm.Cond.and given_1 narrow_1).before args s = true
def lw_Q (_ : Array Value) (s : State) (o : Outcome) (t : State) : Prop := o = .returned (some (.int 1)) ∧ Framed s o t [] 600000 7302250
def lw_Z (below : List Frame) (a : Array Value) (s : State) : State → Prop := fun t => ∃ o, t.status = .running ∧ Ended t below o ∧ lw_Q a s o t
/-- the law's own end, with 1 on the stack, nothing written that was there before, its room as the claim has it -/
theorem lw_ret {p : Program} {l : Launch} {e : Env} {s : State} {m : MethodId} {below : List Frame} {meth : Method} {c : Code} {b : Nat} (hx : p.tables.exec = Jvm.exec) (hb : c.code = code) (hr : meth.sig.returnType = ret) (hlocks : meth.locks = false) {pc : Nat} {H : Heap} {ls : Array Slot} (hdg : decode code pc = .ok (.ireturn, 1)) : W p l e room_1 s m #[Value.ref b] below meth c H [] 600000 7302250 (lw_Z below #[Value.ref b] s) (F0 m pc ls [.int 1]) := by
  intro T hT X
  obtain ⟨fs, hret, hrun, hended, hW, hframe⟩ := X.leave (v := some (.int 1)) (hlocks := hlocks) (fun h => by rw [hr] at h; cases h)
  have hmeth' : T.vm.method? m = some meth := X.method'
  refine ⟨T.setFrames fs, ?_, .returned (some (.int 1)), hrun, hended, rfl, ⟨_, rfl⟩, hW, hframe⟩
  jvm_step X.here [X.here.top, hx, hb, hdg, hmeth', hr, ret, narrow_b1]
  (try refine ⟨rfl, ?_⟩); (try refine ⟨rfl, ?_⟩)
  first | (intro acts; rw [hret _ acts rfl rfl rfl]) | rw [hret _ _ rfl rfl rfl]
  exact Steps.refl _
/-- what holds at the law's entry: the machine, the code, the tables' words (any of lw_tbl by 'hts w (by decide +kernel)'), the script of L ints xs at the cell b, what the Statement gives of the start (any of its parts by flat_of_before) -/
def lw_At (p : Program) (s : State) (m : MethodId) (meth : Method) (c : Code) (b L : Nat) (xs : Nat → Int32) : Prop :=
  p.tables.exec = Jvm.exec ∧ c.code = code ∧ meth.sig.returnType = ret ∧ c.maxLocals = 8 ∧ s.vm.findClass R_law = some m.cls ∧ (∀ w ∈ lw_tbl, w.before #[Value.ref b] s = true) ∧ va_X b L xs s s.heap ∧ b < s.heap.size ∧ meth.locks = false ∧ (Jvm.Cond.and given_1 narrow_1).before #[Value.ref b] s = true

/-! what the tables say at the entry -/
theorem tb_sub {w : Cond} (h : w ∈ tb) : w ∈ lw_tbl := (List.mem_filter.mp h).1
theorem nest_on {w : Cond} (h : isNest w = true) : w.onTables = true := by
  cases w <;> first | rfl | exact absurd h (by simp [isNest])
theorem ao_X2 : Cond.arrayOver (.object RX2) ∈ lw_tbl := List.mem_of_getElem? (i := 66) (by decide +kernel)
theorem ao_X1 : Cond.arrayOver (.object RX1) ∈ lw_tbl := List.mem_of_getElem? (i := 68) (by decide +kernel)
theorem ka_start {args : Array Value} {s : State} (hts : ∀ w ∈ lw_tbl, w.before args s = true) : ∃ g : GX, KA g s := by
  have ht : ∀ w ∈ tb, w.before args s = true := fun w h => hts w (tb_sub h)
  obtain ⟨c0, i0, k0⟩ := u_known (C := RX0) (T := TX0) (N := 4) (n := 4) ht in0 (ht _ in_X0)
  obtain ⟨c1, i1, k1⟩ := u_known (C := RX1) (T := TX1) (N := 10) (n := 10) ht in1 (ht _ in_X1)
  obtain ⟨c2, i2, k2⟩ := u_known (C := RX2) (T := TX2) (N := 19) (n := 19) ht in2 (ht _ in_X2)
  obtain ⟨c3, i3, k3⟩ := u_known (C := RX3) (T := TX3) (N := 6) (n := 6) ht in3 (ht _ in_X3)
  obtain ⟨c4, i4, k4⟩ := u_known (C := RX4) (T := TX4) (N := 36) (n := 36) ht in4 (ht _ in_X4)
  obtain ⟨a0, b0, d0, f0, g0, h0⟩ := Cond.arrayClass_spec (ht _ w_aI)
  obtain ⟨a1, b1, d1, f1, g1, h1⟩ := Cond.arrayClass_spec (ht _ w_aZ)
  obtain ⟨a2, b2, d2, f2, g2, h2⟩ := Cond.arrayClass_spec (ht _ w_aF)
  obtain ⟨d3, a3, b3, e3, -, g3, h3, f3⟩ := Cond.arrayOver_spec (hts _ ao_X2)
  obtain ⟨d4, a4, b4, e4, -, g4, h4, f4⟩ := Cond.arrayOver_spec (hts _ ao_X1)
  refine ⟨((fun k => match k with | 0 => c0 | 1 => c1 | 2 => c2 | 3 => c3 | _ => c4, fun k => match k with | 0 => i0 | 1 => i1 | 2 => i2 | 3 => i3 | _ => i4), fun k => match k with | 0 => a0 | 1 => a1 | 2 => a2 | 3 => a3 | _ => a4), ⟨⟨fun k q hq => ?_, fun k q hq => ?_⟩, fun w hw => va_Nw.of (nest_on (List.mem_filter.mp hw).2) (hts w (List.mem_filter.mp hw).1)⟩, va_AO.of (hts _ ao_X2), va_AO.of (hts _ ao_X1)⟩
  · match k, hq with
    | 0, hq => cases hq; exact k0
    | 1, hq => cases hq; exact k1
    | 2, hq => cases hq; exact k2
    | 3, hq => cases hq; exact k3
    | 4, hq => cases hq; exact k4
    | k + 5, hq => simp at hq
  · match k, hq with
    | 0, hq => cases hq; exact ⟨fun N z => ⟨fun k h => (by cases h), b0, g0, d0, h0⟩, f0⟩
    | 1, hq => cases hq; exact ⟨fun N z => ⟨fun k h => (by cases h), b1, g1, d1, h1⟩, f1⟩
    | 2, hq => cases hq; exact ⟨fun N z => ⟨fun k h => (by cases h), b2, g2, d2, h2⟩, f2⟩
    | 3, hq => cases hq; exact ⟨fun N z => ⟨fun k h => (by cases h), b3, g3, d3, h3⟩, b3, d3, g3, h3, e3, f3⟩
    | 4, hq => cases hq; exact ⟨fun N z => ⟨fun k h => (by cases h), b4, g4, d4, h4⟩, b4, d4, g4, h4, e4, f4⟩
    | k + 5, hq => simp [tyl] at hq
/-! the law's own small method -/
def PS (b L : Nat) (xs : Nat → Int32) : Array Value → State → Prop := fun v U => v = #[.ref b, .int (nI 0)] ∧ va_X b L xs U U.heap
def QS (v : Int32) : Array Value → State → Outcome → State → Prop := fun _ st oc t => oc = .returned (some (.int v)) ∧ t.heap = st.heap
def cl0 (L : Nat) (xs : Nat → Int32) : Int32 := if 0 < L then xs 0 else 0
set_option maxHeartbeats 4000000 in
set_option maxRecDepth 100000 in
theorem k_cell (l : Launch) (b L : Nat) (xs : Nat → Int32) (hL : L ≤ 2561) : Met l yL_cell (.code yL_cell cL_cell 2 (some .int) :: tb) (rmk 0 0) (PS b L xs) (QS (cl0 L xs)) 0 0 (fun _ => False) := by
  refine Met.ofW (cc := cL_cell) (maxL := 2) (ret := some .int) (by decide) rfl ?_
  intro p e s m args below meth c s₁ B hml hv
  obtain ⟨rfl, hX⟩ := hv
  have hl := lv_entry ([.ref b, .int (nI 0)]) (n := 2) (Nat.le_of_ble_eq_true rfl)
  show W p l e _ s m ([.ref b, .int (nI 0)] : List Value).toArray below meth c s.heap [] 0 0 _ (entryFrame m ([.ref b, .int (nI 0)] : List Value).toArray 2)
  rw [lg_entry_eq]
  generalize (lg_sl ([.ref b, .int (nI 0)]) ++ List.replicate (2 - (lg_sl ([.ref b, .int (nI 0)])).length) Slot.unset).toArray = ls at hl ⊢
  have hl : lv_has ls 2 [(0, .ref b), (1, .int (nI 0))] := hl
  have hS : va_S (fun _ => False) s.heap s.heap [] := va_S.rf
  have hbl : b < s.heap.size := by
    obtain ⟨scr, h1, _⟩ := hX
    exact (Array.getElem?_eq_some_iff.mp h1).1
  refine lv_iload_n B.exec B.bytes dL_cell_0 rfl (lv_at hl 1 rfl) ?_
  refine lv_aload_n B.exec B.bytes dL_cell_1 rfl (lv_at hl 0 rfl) ?_
  refine va_slen B.exec B.bytes hX hbl (fun h => h) hS dL_cell_2 ?_
  refine lv_icmp_ge (tgt := 12) B.exec B.bytes dL_cell_3 (by decide) (fun c3 => ?_) (fun c3 => ?_)
  · have h0 : cl0 L xs = nI 0 := by
      unfold cl0
      rw [if_neg (fun h => nI_ge (a := 0) (b := L) h (by omega) c3)]
      rfl
    refine lv_iconst (v := nI 0) B.exec B.bytes dL_cell_12 (by decide) ?_
    rw [h0]
    exact W.iret B.exec B.bytes B.returns (fun t ht hW => ⟨rfl, ht⟩) hS.2.2 dL_cell_13
  · have hlt : 0 < L := by
      rcases Nat.eq_zero_or_pos L with h | h
      · exact absurd (by rw [h]; decide) c3
      · exact h
    have h0 : cl0 L xs = xs 0 := if_pos hlt
    refine lv_aload_n B.exec B.bytes dL_cell_6 rfl (lv_at hl 0 rfl) ?_
    refine lv_iload_n B.exec B.bytes dL_cell_7 rfl (lv_at hl 1 rfl) ?_
    refine va_sld B.exec B.bytes hX hbl (fun h => h) hS (vp_in_nI hlt (by omega)) dL_cell_8 ?_
    refine lv_goto (tgt := 13) B.exec B.bytes dL_cell_9 (by decide) ?_
    rw [h0, nI_clamp (by omega)]
    exact W.iret B.exec B.bytes B.returns (fun t ht hW => ⟨rfl, ht⟩) hS.2.2 dL_cell_13
theorem cf_cell : (yL_cell.cls ≠ "java/lang/invoke/MethodHandle" ∧ yL_cell.cls ≠ "java/lang/invoke/VarHandle" ∧ (parseMethodDescriptor yL_cell.desc).map (fun d => d.parameters.length) = some 2) := ⟨by decide, by decide, by decide +kernel⟩
theorem w_cell : Cond.code yL_cell cL_cell 2 (some .int) ∈ tb := tb_in 425 rfl (by decide +kernel)
theorem s_cell : Cond.static yL_cell ∈ tb := tb_in 424 (by decide +kernel) (by decide +kernel)
theorem l_cell : Cond.methodLink RL 9 yL_cell ∈ tb := tb_in 423 (by decide +kernel) (by decide +kernel)
def LG (s : State) (bx d N : Nat) : Prop := s.heap.size ≤ bx ∧ bx + 4 + 10 * N ≤ d ∧ 2 ≤ N ∧ N ≤ 6
abbrev A0 (s : State) : Nat → Prop := fun q => s.heap.size ≤ q
section LAW
variable {p : Program} {l : Launch} {e : Env} {R : Room} {s : State} {m : MethodId} {args : Array Value} {below : List Frame} {meth : Method} {c : Code} {H : Heap} {locs : List Loc} {cells slots : Nat} {Q : State → Prop}
variable {cc : ByteArray} {nL pc index : Nat} {ls : Array Slot} {rest : List Value} {g : GX} {own : String} {bx d N : Nat} {S S2 M M2 : SX} {Fl Fl2 G G2 : FX}
theorem goS {a : Array Value} {st0 : List Value} {v : Int32} (hr : va_Run p l e R s m args below meth c H locs cells slots 0 0 (F0 m pc ls st0) rest (QS v a) (fun _ => False))
    (kk : W p l e R s m args below meth c H locs cells slots Q (F0 m (pc + 3) ls (.int v :: rest))) : W p l e R s m args below meth c H locs cells slots Q (F0 m pc ls st0) := by
  intro T hT X
  obtain ⟨v', st₀, t, T', L, h0, X', hL, e1, e2, ⟨hv, hp⟩, st⟩ := hr T hT X
  cases hv
  have hLn : L = [] := by
    cases L with
    | nil => rfl
    | cons q _ => exact (hL q (List.mem_cons_self)).elim
  subst hLn
  rw [List.append_nil] at X'
  obtain ⟨t2, a1, b1⟩ := kk T' (by rw [e1, hp, h0]) X'
  exact ⟨t2, st t2 a1, b1⟩
theorem cellS {b L : Nat} {xs : Nat → Int32} (hL : L ≤ 2561) (C : Cx g p s m args c cc nL RL) (hX : va_X b L xs s s.heap) (hbl : b < s.heap.size) (hS : va_S (A0 s) s.heap H locs) (hR : 1 ≤ R.frames ∧ 21 ≤ R.locals) (hsize : ls.size = nL) (hW : (rest.map fun v => v.category).sum ≤ 8) (hdg : decode cc pc = .ok (.invokestatic 9, 3)) (hf : cells ≤ R.cells ∧ slots ≤ R.slots)
    (kk : W p l e R s m args below meth c H locs cells slots Q (F0 m (pc + 3) ls (.int (cl0 L xs) :: rest))) : W p l e R s m args below meth c H locs cells slots Q (F0 m pc ls (.int (nI 0) :: .ref b :: rest)) := by
  obtain ⟨hx, hb, hml, hown, hT, hK⟩ := C
  have hX1 : va_X b L xs s H := hX.kept (hS.2.1 b hbl (Nat.not_le.mpr hbl))
  refine goS (va_runS (As := [.ref b, .int (nI 0)]) (rest := rest) ⟨hx, hb, hml, hown, hT⟩ (k_cell l b L xs hL) (va_cwS 2 hT (tb_good ?_) rfl rfl rfl cf_cell hR) ⟨fun a U f mk h => ⟨h.1, va_X.moved (u := U) (U := U.calling f mk a) (Vm.Alike.refl U.vm) h.2⟩, fun U hU hW => ⟨rfl, by rw [hU]; exact hX1.moved hW.alike⟩⟩ rfl rfl hsize rfl (lv_room hW) hdg hf) kk
  intro w hw
  rcases List.mem_append.mp hw with h | h
  · simp only [List.mem_cons, List.not_mem_nil, or_false] at h
    rcases h with rfl | rfl | rfl
    · exact l_cell
    · exact s_cell
    · exact ii_L
  · rcases List.mem_cons.mp h with rfl | h
    · exact w_cell
    · exact h
/-- a call of DualRing -/
theorem xcall {y : MethodName} {bytes : ByteArray} {maxL n : Nat} {ret : Option FieldType} {rm : Room} {As st0 : List Value} {r : Option Value} (C : Cx g p s m args c cc nL own) (G0 : LG s bx d N) (hX : RepX g bx N S Fl H) (hM : RepM g d N M G H) (hS : va_S (A0 s) s.heap H locs) (hz : d + 34 ≤ H.size) (hMR : MR l y (.code y bytes maxL ret :: tb) rm g (RepX g bx N S Fl) (RepX g bx N S2 Fl2) (AX bx N) (.ref bx :: As) r)
    (hd : (y.cls = ((RX3, TX3, 6) : vw_C).1 ∧ y.cls ≠ "java/lang/invoke/MethodHandle" ∧ y.cls ≠ "java/lang/invoke/VarHandle" ∧ (parseMethodDescriptor y.desc).map (fun d => d.parameters.length) = some n) ∧ Cond.instanceMethod y ∈ tb ∧ Cond.selects ((RX3, TX3, 6) : vw_C).1 y y ∈ tb ∧ Cond.initialized ((RX3, TX3, 6) : vw_C).1 ∈ tb ∧ Cond.code y bytes maxL ret ∈ tb)
    (hl : Cond.methodLink own index y ∈ tb ∨ Cond.methodLinkNest own index y RX3 ∈ nb) (hR : rm.frames + 1 ≤ R.frames ∧ 8 + (maxL + 11) + rm.locals ≤ R.locals) (hrm : rm.cells = 0 ∧ rm.slots = 0) (hn : As.length = n) (hsize : ls.size = nL) (hst : st0 = As.reverse ++ .ref bx :: rest) (hW : (rest.map fun v => v.category).sum ≤ 8)
    (hdg : decode cc pc = .ok (.invokevirtual index, 3)) (hf : cells ≤ R.cells ∧ slots ≤ R.slots)
    (kk : ∀ (H1 : Heap) (locs1 : List Loc), RepX g bx N S2 Fl2 H1 → RepM g d N M G H1 → va_S (A0 s) s.heap H1 locs1 → d + 34 ≤ H1.size → W p l e R s m args below meth c H1 locs1 cells slots Q (F0 m (pc + 3) ls (r.toList ++ rest))) : W p l e R s m args below meth c H locs cells slots Q (F0 m pc ls st0) := by
  obtain ⟨q1, q2, q3, q4⟩ := G0
  exact cxV (b := bx) (ci := 3) (q := (RX3, TX3, 6)) C hMR hd hl hR hrm rfl hX.1 hn hsize hst hW hdg hX hf hS (fun q h => by have := h.1; show s.heap.size ≤ q; omega) (fun H1 locs1 hR1 hS1 hz1 ho => kk H1 locs1 hR1 (hM.keep (fun q hq => ho q (by have := hq.2; omega) (fun hq2 => by have := hq.1; have := hq2.2; omega))) hS1 (by omega))
/-- a call of the reference -/
theorem mcall {y : MethodName} {bytes : ByteArray} {maxL n : Nat} {ret : Option FieldType} {rm : Room} {As st0 : List Value} {r : Option Value} (C : Cx g p s m args c cc nL own) (G0 : LG s bx d N) (hX : RepX g bx N S Fl H) (hM : RepM g d N M G H) (hS : va_S (A0 s) s.heap H locs) (hz : d + 34 ≤ H.size) (hMR : MR l y (.code y bytes maxL ret :: tb) rm g (RepM g d N M G) (RepM g d N M2 G2) (AM d) (.ref d :: As) r)
    (hd : (y.cls = ((RX4, TX4, 36) : vw_C).1 ∧ y.cls ≠ "java/lang/invoke/MethodHandle" ∧ y.cls ≠ "java/lang/invoke/VarHandle" ∧ (parseMethodDescriptor y.desc).map (fun d => d.parameters.length) = some n) ∧ Cond.instanceMethod y ∈ tb ∧ Cond.selects ((RX4, TX4, 36) : vw_C).1 y y ∈ tb ∧ Cond.initialized ((RX4, TX4, 36) : vw_C).1 ∈ tb ∧ Cond.code y bytes maxL ret ∈ tb)
    (hl : Cond.methodLink own index y ∈ tb ∨ Cond.methodLinkNest own index y RX3 ∈ nb) (hR : rm.frames + 1 ≤ R.frames ∧ 8 + (maxL + 11) + rm.locals ≤ R.locals) (hrm : rm.cells = 0 ∧ rm.slots = 0) (hn : As.length = n) (hsize : ls.size = nL) (hst : st0 = As.reverse ++ .ref d :: rest) (hW : (rest.map fun v => v.category).sum ≤ 8)
    (hdg : decode cc pc = .ok (.invokevirtual index, 3)) (hf : cells ≤ R.cells ∧ slots ≤ R.slots)
    (kk : ∀ (H1 : Heap) (locs1 : List Loc), RepX g bx N S Fl H1 → RepM g d N M2 G2 H1 → va_S (A0 s) s.heap H1 locs1 → d + 34 ≤ H1.size → W p l e R s m args below meth c H1 locs1 cells slots Q (F0 m (pc + 3) ls (r.toList ++ rest))) : W p l e R s m args below meth c H locs cells slots Q (F0 m pc ls st0) := by
  obtain ⟨q1, q2, q3, q4⟩ := G0
  exact cxV (b := d) (ci := 4) (q := (RX4, TX4, 36)) C hMR hd hl hR hrm rfl hM.1 hn hsize hst hW hdg hM hf hS (fun q h => by have := h.1; show s.heap.size ≤ q; omega) (fun H1 locs1 hR1 hS1 hz1 ho => kk H1 locs1 (hX.keep (fun q hq => ho q (by have := hq.2; omega) (fun hq2 => by have := hq.2; have := hq2.1; omega)) (by omega)) hR1 hS1 (by omega))
/-- an int of the script -/
theorem ld_el {b L j k : Nat} {xs : Nat → Int32} {ik : Fin 4} {n : Int} (C : Cx g p s m args c cc nL own) (hL : L ≤ 2561) (hX : va_X b L xs s s.heap) (hbl : b < s.heap.size) (hS : va_S (A0 s) s.heap H locs) (h0 : ls[0]? = some (.val (.ref b))) (h3 : ls[3]? = some (.val (.int (nI j)))) (hj : j + k < L) (d0 : decode cc pc = .ok (.aload_n 0, 1)) (d1 : decode cc (pc + 1) = .ok (.iload_n 3, 1)) (d2 : decode cc (pc + 2) = .ok (.iconst n, 1)) (hn : Int32.ofInt n = nI k) (d3 : decode cc (pc + 3) = .ok (.iadd, 1)) (d4 : decode cc (pc + 4) = .ok (.iaload, 1))
    (kk : W p l e R s m args below meth c H locs cells slots Q (F0 m (pc + 5) ls (.int (xs (j + k)) :: rest))) : W p l e R s m args below meth c H locs cells slots Q (F0 m pc ls rest) := by
  refine lv_aload_n C.1 C.2.1 d0 rfl h0 ?_
  refine lv_iload_n C.1 C.2.1 d1 rfl h3 ?_
  refine lv_iconst (v := nI k) C.1 C.2.1 d2 hn ?_
  refine n_iadd (z := j + k) C d3 rfl ?_
  refine va_sld C.1 C.2.1 hX hbl (Nat.not_le.mpr hbl) hS (vp_in_nI hj (by omega)) d4 ?_
  rw [nI_clamp (by omega)]
  exact kk
end LAW
