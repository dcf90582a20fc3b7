def QB (Post : Heap → Prop) (A : Nat → Prop) (sz2 : Nat) : Array Value → State → Outcome → State → Prop := fun _ st oc t => oc = .returned none ∧ Post t.heap ∧ sz2 ≤ t.heap.size ∧ va_F A st t
abbrev MB (l : Launch) (y : MethodName) (ws : List Cond) (rm : Room) (g : GX) (Pre Post : Heap → Prop) (A : Nat → Prop) (sz sz2 : Nat) (av : List Value) (mc ms : Nat) : Prop := Met l y ws rm (PA g Pre sz av) (QB Post A sz2) mc ms A
theorem MB.start (own : String) {l : Launch} {y : MethodName} {cc : ByteArray} {nL : Nat} {rm : Room} {g : GX} {Pre Post : Heap → Prop} {A : Nat → Prop} {sz sz2 mc ms : Nat} {av : List Value} (hy : plainName y.cls = true) (ho : y.cls = own) (hyn : y.name = "<init>") (hn : (lg_sl av).length ≤ nL)
    (body : ∀ (p : Program) (e : Env) (s : State) (m : MethodId) (below : List Frame) (meth : Method) (c : Code) (ls : Array Slot), Cx g p s m av.toArray c cc nL own → KA g s → meth.sig.returnType = none → meth.locks = false → meth.name = "<init>" → s.heap.size = sz → Pre s.heap → va_S A s.heap s.heap [] → lv_has ls nL (lv_args 0 av) → W p l e rm s m av.toArray below meth c s.heap [] 0 0 (MQ below (QB Post A sz2) av.toArray s mc ms A) (F0 m 0 ls [])) :
    MB l y (.code y cc nL none :: tb) rm g Pre Post A sz sz2 av mc ms := by
  refine Met.ofW (cc := cc) (maxL := nL) (ret := none) hy rfl ?_
  intro p e s m args below meth c s₁ B hml hv
  obtain ⟨rfl, hK, hz, hR⟩ := hv
  have hl := lv_entry av (n := nL) hn
  rw [lg_entry_eq]
  exact body p e s m below meth c _ ⟨B.exec, B.bytes, hml, ho ▸ findClass_of_methodNamed B.named, fun w hw => atoms_spec (ws := .code y cc nL none :: tb) B.pre w (List.mem_cons_of_mem _ hw), hK.1⟩ hK B.returns B.notSynchronized ((name_of_methodNamed B.named B.method).1.trans hyn) hz hR va_S.rf hl
section CTORB
variable {p : Program} {l : Launch} {e : Env} {R : Room} {s : State} {m : MethodId} {args : Array Value} {below : List Frame} {meth : Method} {c : Code} {H H0 : Heap} {locs : List Loc} {cells slots : Nat} {Q : State → Prop}
variable {cc : ByteArray} {nL pc index : Nat} {ls : Array Slot} {rest : List Value} {g : GX} {own : String} {A : Nat → Prop} {Pre Post : Heap → Prop}
theorem endB {sz2 : Nat} (C : Cx g p s m args c cc nL own) (hr : meth.sig.returnType = none) (hlocks : meth.locks = false) (hR : Post H) (hz : sz2 ≤ H.size) (hS : va_S A s.heap H locs) (hdg : decode cc pc = .ok (.return_, 1)) : W p l e R s m args below meth c H locs cells slots (MQ below (QB Post A sz2) args s cells slots A) (F0 m pc ls []) :=
  W.vret C.1 C.2.1 hr (fun t ht hW => ⟨rfl, by rw [ht]; exact hR, by rw [ht]; exact hz, hS.F ht⟩) hS.2.2 hdg
theorem goB {A0 A1 : Nat → Prop} {a : Array Value} {st0 : List Value} {sz2 mc ms : Nat} (hr : va_Run p l e R s m args below meth c H locs cells slots mc ms (F0 m pc ls st0) rest (QB Post A1 sz2 a) A1) (hS : va_S A0 H0 H locs) (hA : ∀ q, A1 q → A0 q)
    (kk : ∀ (H1 : Heap) (locs1 : List Loc), Post H1 → sz2 ≤ H1.size → va_S A0 H0 H1 locs1 → (∀ q : Nat, q < H.size → ¬ A1 q → H1[q]? = H[q]?) → W p l e R s m args below meth c H1 locs1 (cells + mc) (slots + ms) Q (F0 m (pc + 3) ls rest)) : W p l e R s m args below meth c H locs cells slots Q (F0 m pc ls st0) := by
  intro T hT X
  obtain ⟨v, st₀, t, T', L, h0, X', hL, e1, e2, ⟨hv, hp, hz2, hz, hk⟩, st⟩ := hr T hT X
  cases hv
  rw [h0] at hz hk
  obtain ⟨t2, a1, b1⟩ := kk T'.heap (locs ++ L) (by rw [e1]; exact hp) (by rw [e1]; exact hz2)
    ⟨Nat.le_trans hS.1 (by rw [e1]; exact hz), fun q h1 h2 => by rw [e1, hk q (Nat.lt_of_lt_of_le h1 hS.1) (fun z => h2 (hA q z))]; exact hS.2.1 q h1 h2, fun q hq => by
      rcases List.mem_append.mp hq with h | h
      · exact hS.2.2 q h
      · exact hA _ (hL q h)⟩ (fun q h1 h2 => by rw [e1]; exact hk q h1 h2) T' rfl X'
  exact ⟨t2, st t2 a1, b1⟩
theorem cxB {A0 A1 : Nat → Prop} {y : MethodName} {bytes : ByteArray} {maxL n sz sz2 mc ms a : Nat} {rm : Room} {As st0 : List Value} (C : Cx g p s m args c cc nL own) (hKA : KA g s) (hM : MB l y (.code y bytes maxL none :: tb) rm g Pre Post A1 sz sz2 (.ref a :: As) mc ms)
    (hd : (y.cls ≠ "java/lang/invoke/MethodHandle" ∧ y.cls ≠ "java/lang/invoke/VarHandle" ∧ (parseMethodDescriptor y.desc).map (fun d => d.parameters.length) = some n) ∧ Cond.instanceMethod y ∈ tb ∧ Cond.initialized y.cls ∈ tb ∧ Cond.code y bytes maxL none ∈ tb) (hyn : y.name = "<init>")
    (hl : Cond.methodLink own index y ∈ tb ∨ Cond.methodLinkNest own index y RX3 ∈ nb) (hR : rm.frames + 1 ≤ R.frames ∧ 8 + (maxL + 11) + rm.locals ≤ R.locals) (hrm : rm.cells = mc ∧ rm.slots = ms) (hn : As.length = n) (hsize : ls.size = nL) (hst : st0 = As.reverse ++ .ref a :: rest) (hW : (rest.map fun v => v.category).sum ≤ 8)
    (hdg : decode cc pc = .ok (.invokespecial index, 3)) (hsz : H.size = sz) (hpre : Pre H) (hf : cells + mc ≤ R.cells ∧ slots + ms ≤ R.slots) (hS : va_S A0 H0 H locs) (hA : ∀ q, A1 q → A0 q)
    (kk : ∀ (H1 : Heap) (locs1 : List Loc), Post H1 → sz2 ≤ H1.size → va_S A0 H0 H1 locs1 → (∀ q : Nat, q < H.size → ¬ A1 q → H1[q]? = H[q]?) → W p l e R s m args below meth c H1 locs1 (cells + mc) (slots + ms) Q (F0 m (pc + 3) ls rest)) : W p l e R s m args below meth c H locs cells slots Q (F0 m pc ls st0) := by
  obtain ⟨hx, hb, hml, hown, hT, hK⟩ := C
  obtain ⟨hd, w1, w3, w4⟩ := hd
  have hcw : ∀ w ∈ Cond.code y bytes maxL none :: tb, w ∈ tb := fun w hw => (List.mem_cons.mp hw).elim (fun h => h ▸ w4) id
  have hp : PreS s H (PA g Pre sz (.ref a :: As)) (.ref a :: As) := ⟨fun _ _ _ _ h => ⟨h.1, h.2.1.calling, h.2.2.1, h.2.2.2⟩, fun U hU hW => ⟨rfl, hKA.warm hW, by rw [hU]; exact hsz, by rw [hU]; exact hpre⟩⟩
  rcases hl with hl | hl
  · exact goB (va_runI (As := As) (rest := rest) ⟨hx, hb, hml, hown, hT⟩ hM (cwI n hT (tb_good hcw) rfl hrm.1 hrm.2 (hT _ w3) (hT _ hl) (hT _ w1) hyn hd hR) hp rfl hn hsize hst (lv_room hW) hdg hf) hS hA kk
  · exact goB (va_runIN (As := As) (rest := rest) (host := RX3) ⟨hx, hb, hml, hown, hT⟩ hM ⟨va_cnB n hT (tb_good hcw) rfl hrm.1 hrm.2 (hK.2 _ hl) (hT _ w3) hd hR, hyn, hT _ w1⟩ hp rfl hn hsize hst (lv_room hW) hdg hf) hS hA kk
end CTORB
def xi (N : Nat) : SX := fun f j => if f = 40 then (if j < N then nI 1 else 0) else if f = 2 then nI 1 else if f = 3 then -1 else if f = 12 then -1 else if f = 16 then -1 else if f = 4 then nI 20 else if f = 20 then nI j else 0
def z0 : FX := fun _ => 0
theorem xi_IX {N : Nat} (h : 1 ≤ N) : IX N (xi N) := ⟨fun f _ => rfl, fun f _ => ⟨0, by omega, rfl⟩, fun f _ => ⟨0, by omega, rfl⟩, fun q _ => ⟨0, by omega, rfl⟩, fun i _ => ⟨0, by omega, rfl⟩⟩
theorem aQ_e (b j : Nat) : aQ b (2 * j) = aSt b j + 1 ∧ aQ b (2 * j + 1) = aSt b j + 5 := by simp only [aQ, aSt]; omega
theorem aQA_e (b q i : Nat) : aQA b q i = aQ b q + 1 + i := rfl
theorem stN_eq (b N j : Nat) : stN (aSt b j) = stF b (xi N) z0 j := by
  unfold stF
  rw [(aQ_e b j).1, (aQ_e b j).2]
  rfl
theorem quF_eq (b N q : Nat) : quF b (xi N) q = [.ref (aQ b q + 1), .ref (aQ b q + 2), .ref (aQ b q + 3), .int 0] := rfl
theorem quA_eq (N q : Nat) {i : Nat} (hi : i < 3) : quA (xi N) q i = fun _ => 0 := by
  funext k
  unfold quA
  split
  · match i, hi with
    | 0, _ => rfl
    | 1, _ => rfl
    | 2, _ => rfl
    | k + 3, h => omega
  · rfl
theorem rgN_eq (N j : Nat) : rgN j = rgF (xi N) j := rfl
def ob0 : List Value := [.int 0, .null, .null, .null, .int 0, .int 0]
def fS (b i : Nat) : Nat → Option Nat := fun j => if j < i then some (aSt b j) else none
def fR (b i : Nat) : Nat → Option Nat := fun j => if j < i then some (aRg b j) else none
def fZ (i : Nat) : Nat → Int32 := fun j => if j < i then nI 1 else 0
theorem fS_s (b i : Nat) : va_up (fS b i) i (some (aSt b i)) = fS b (i + 1) := by
  funext j
  unfold va_up fS
  by_cases h : j = i
  · subst h; rw [if_pos rfl, if_pos (by omega)]
  · rw [if_neg h]
    by_cases h2 : j < i
    · rw [if_pos h2, if_pos (by omega)]
    · rw [if_neg h2, if_neg (by omega)]
theorem fR_s (b i : Nat) : va_up (fR b i) i (some (aRg b i)) = fR b (i + 1) := by
  funext j
  unfold va_up fR
  by_cases h : j = i
  · subst h; rw [if_pos rfl, if_pos (by omega)]
  · rw [if_neg h]
    by_cases h2 : j < i
    · rw [if_pos h2, if_pos (by omega)]
    · rw [if_neg h2, if_neg (by omega)]
theorem fZ_s (i : Nat) : upd (fZ i) i (nI 1) = fZ (i + 1) := by
  funext j
  unfold upd fZ
  by_cases h : j = i
  · subst h; rw [if_pos rfl, if_pos (by omega)]
  · rw [if_neg h]
    by_cases h2 : j < i
    · rw [if_pos h2, if_pos (by omega)]
    · rw [if_neg h2, if_neg (by omega)]
def LX (g : GX) (b N i : Nat) (H : Heap) : Prop := va_at g.1 vwCl (b, .inr (3, [.int (nI N), .ref (b + 1), .ref (b + 2), .ref (b + 3), .int 0, .int 0])) H ∧ va_at g.1 vwCl (b + 1, .inl (g.2 3, N, .inr (.inr (.inr (.inr (fS b i)))))) H ∧ va_at g.1 vwCl (b + 2, .inl (g.2 1, N, .inl (fZ i))) H ∧ va_at g.1 vwCl (b + 3, .inl (g.2 4, N, .inr (.inr (.inr (.inr (fR b i)))))) H ∧ (∀ j, j < i → STN g (aSt b j) H) ∧ ∀ j, j < i → va_at g.1 vwCl (aRg b j, .inr (1, rgN j)) H
theorem LX_done {g : GX} {b N : Nat} {H : Heap} (h : LX g b N N H) : RepX g b N (xi N) z0 H := by
  obtain ⟨h0, h1, h2, h3, h4, h5⟩ := h
  refine ⟨h0, ?_, h2, ?_, fun j hj => ?_, fun j hj => ?_, fun q hq => ?_, fun q i hq hi => ?_⟩
  · show H[b + 1]? = some _
    rw [show H[b + 1]? = some (vp_cell _ _) from h1, vp_eq (fun j hj => show fS b N j = some (aSt b j) from if_pos hj)]
  · show H[b + 3]? = some _
    rw [show H[b + 3]? = some (vp_cell _ _) from h3, vp_eq (fun j hj => show fR b N j = some (aRg b j) from if_pos hj)]
  · rw [← stN_eq]; exact (h4 j hj).1
  · rw [← rgN_eq]; exact h5 j hj
  · rw [quF_eq]
    obtain ⟨t, rfl | rfl⟩ := evod q
    · have := (h4 t (by omega)).2.1.1
      rw [← (aQ_e b t).1] at this; exact this
    · have := (h4 t (by omega)).2.2.1
      rw [← (aQ_e b t).2] at this; exact this
  · rw [quA_eq N q hi, aQA_e]
    obtain ⟨t, rfl | rfl⟩ := evod q
    · have := (h4 t (by omega)).2.1
      rw [← (aQ_e b t).1] at this
      match i, hi with
      | 0, _ => exact this.2.1
      | 1, _ => exact this.2.2.1
      | 2, _ => exact this.2.2.2
      | k + 3, h => omega
    · have := (h4 t (by omega)).2.2
      rw [← (aQ_e b t).2] at this
      match i, hi with
      | 0, _ => exact this.2.1
      | 1, _ => exact this.2.2.1
      | 2, _ => exact this.2.2.2
      | k + 3, h => omega
set_option maxHeartbeats 8000000 in
set_option maxRecDepth 100000 in
theorem k_X3_init (l : Launch) (g : GX) (b N : Nat) (hN2 : 2 ≤ N) (hN : N ≤ 6) (x : Int32) (hx : x = nI N ∨ ((x < nI 2 ∨ nI 6 < x) ∧ N = 4)) : MB l yX3_init (.code yX3_init cX3_init 3 none :: tb) (rma 5 116 63 420) g (va_at g.1 vwCl (b, .inr (3, ob0))) (RepX g b N (frl N (allj N (xi N) N) (xi N) N) z0) (AX b N) (b + 1) (b + 4 + 10 * N) [.ref b, .int x] 63 420 := by
  refine MB.start RX3 (by decide) rfl rfl (Nat.le_of_ble_eq_true rfl) (fun zp ze zs zm zb zt zc ls C hKA hr hlk hin hz hR hS hl => ?_)
  have hl : lv_has ls 3 [(0, .ref b), (1, .int x)] := hl
  have tail : W zp l ze (rma 5 116 63 420) zs zm ([.ref b, .int x] : List Value).toArray zb zt zc zs.heap [] 0 0 (MQ zb (QB (RepX g b N (frl N (allj N (xi N) N) (xi N) N) z0) (AX b N) (b + 4 + 10 * N)) ([.ref b, .int x] : List Value).toArray zs 63 420 (AX b N)) (F0 zm 21 ls [.int (nI N), .ref b]) := by
    refine pfF C in3 tyX3 tyX3_ok nmX3 rfl hR 0 (by decide) rfl rfl rfl hin fo_X3_9 rfl rfl (Nat.le_of_ble_eq_true rfl) dX3_init_21 (fun H1 n1 ob z1 o1 => ?_)
    have hS := hS.put (k := n1) z1 o1 (by simp only [AX]; omega)
    have hz1 : H1.size = b + 1 := by omega
    refine lv_aload_n C.1 C.2.1 dX3_init_24 rfl (lv_at hl 0 rfl) ?_
    refine lv_aload_n C.1 C.2.1 dX3_init_25 rfl (lv_at hl 0 rfl) ?_
    refine gf C in3 rfl ob 0 (by decide) rfl fl_X3_9 (v := .int (nI N)) rfl dX3_init_26 ?_
    refine nwQ (a := b + 1) (t := 3) C rfl cl_X3_13 hKA.2.1 (by omega) (by show _ ≤ 63; omega) (by show _ ≤ 420; omega) hz1 dX3_init_29 (fun Ha ar0 za oa => ?_)
    have ob := at_eq ob (oa _ (by omega)) rfl
    have hS := hS.gr (by omega) (fun q h => oa q (by omega))
    refine pfF C in3 tyX3 tyX3_ok nmX3 rfl ob 1 (by decide) rfl rfl rfl hin fo_X3_15 rfl rfl (Nat.le_of_ble_eq_true rfl) dX3_init_32 (fun Hb nb_ ob zb_ ob_ => ?_)
    have ar0 := at_eq ar0 (ob_ _ (by omega)) rfl
    have hS := hS.put (k := nb_) zb_ ob_ (by simp only [AX]; omega)
    have hz2 : Hb.size = b + 2 := by omega
    refine lv_aload_n C.1 C.2.1 dX3_init_35 rfl (lv_at hl 0 rfl) ?_
    refine lv_aload_n C.1 C.2.1 dX3_init_36 rfl (lv_at hl 0 rfl) ?_
    refine gf C in3 rfl ob 0 (by decide) rfl fl_X3_9 (v := .int (nI N)) rfl dX3_init_37 ?_
    refine nwZ (a := b + 2) C w_aZ (by omega) (by show _ ≤ 63; omega) (by show _ ≤ 420; omega) hz2 dX3_init_40 (fun Ha ar1 za oa => ?_)
    have ob := at_eq ob (oa _ (by omega)) rfl
    have ar0 := at_eq ar0 (oa _ (by omega)) rfl
    have hS := hS.gr (by omega) (fun q h => oa q (by omega))
    refine pfF C in3 tyX3 tyX3_ok nmX3 rfl ob 2 (by decide) rfl rfl rfl hin fo_X3_19 rfl rfl (Nat.le_of_ble_eq_true rfl) dX3_init_42 (fun Hb nb_ ob zb_ ob_ => ?_)
    have ar0 := at_eq ar0 (ob_ _ (by omega)) rfl
    have ar1 := at_eq ar1 (ob_ _ (by omega)) rfl
    have hS := hS.put (k := nb_) zb_ ob_ (by simp only [AX]; omega)
    have hz3 : Hb.size = b + 3 := by omega
    refine lv_aload_n C.1 C.2.1 dX3_init_45 rfl (lv_at hl 0 rfl) ?_
    refine lv_aload_n C.1 C.2.1 dX3_init_46 rfl (lv_at hl 0 rfl) ?_
    refine gf C in3 rfl ob 0 (by decide) rfl fl_X3_9 (v := .int (nI N)) rfl dX3_init_47 ?_
    refine nwQ (a := b + 3) (t := 4) C rfl cl_X3_23 hKA.2.2 (by omega) (by show _ ≤ 63; omega) (by show _ ≤ 420; omega) hz3 dX3_init_50 (fun Ha ar2 za oa => ?_)
    have ob := at_eq ob (oa _ (by omega)) rfl
    have ar0 := at_eq ar0 (oa _ (by omega)) rfl
    have ar1 := at_eq ar1 (oa _ (by omega)) rfl
    have hS := hS.gr (by omega) (fun q h => oa q (by omega))
    refine pfF C in3 tyX3 tyX3_ok nmX3 rfl ob 3 (by decide) rfl rfl rfl hin fo_X3_25 rfl rfl (Nat.le_of_ble_eq_true rfl) dX3_init_53 (fun Hb nb_ ob zb_ ob_ => ?_)
    have ar0 := at_eq ar0 (ob_ _ (by omega)) rfl
    have ar1 := at_eq ar1 (ob_ _ (by omega)) rfl
    have ar2 := at_eq ar2 (ob_ _ (by omega)) rfl
    have hS := hS.put (k := nb_) zb_ ob_ (by simp only [AX]; omega)
    have hz4 : Hb.size = b + 4 := by omega
    refine lv_iconst (v := nI 0) C.1 C.2.1 dX3_init_56 (by decide) ?_
    refine lv_istore_n (lv' := [(2, .int (nI 0)), (0, .ref b), (1, .int x)]) C.1 C.2.1 dX3_init_57 rfl hl (by decide) rfl (fun ls hl => ?_)
    refine W.widen (k := 3 + 10 * 0) (n := 3 * N + 67 * 0) (by omega) (by omega) ?_
    have lp : ∀ (zn i : Nat) (H : Heap) (locs : List Loc) (ls : Array Slot), N - i < zn → i ≤ N → LX g b N i H → H.size = b + 4 + 10 * i → va_S (AX b N) zs.heap H locs → lv_has ls 3 [(2, .int (nI i)), (0, .ref b), (1, .int x)] → W zp l ze (rma 5 116 63 420) zs zm ([.ref b, .int x] : List Value).toArray zb zt zc H locs (3 + 10 * i) (3 * N + 67 * i) (MQ zb (QB (RepX g b N (frl N (allj N (xi N) N) (xi N) N) z0) (AX b N) (b + 4 + 10 * N)) ([.ref b, .int x] : List Value).toArray zs 63 420 (AX b N)) (F0 zm 58 ls []) := by
      intro zn
      induction zn with
      | zero => intro i H locs ls hm; exact absurd hm (Nat.not_lt_zero _)
      | succ zn ih =>
        intro i H locs ls hm hi hX hsz hS hl
        obtain ⟨hO, hSt, hCa, hRi, hA, hB⟩ := hX
        refine lv_iload_n C.1 C.2.1 dX3_init_58 rfl (lv_at hl 0 rfl) ?_
        refine lv_aload_n C.1 C.2.1 dX3_init_59 rfl (lv_at hl 1 rfl) ?_
        refine gf C in3 rfl hO 0 (by decide) rfl fl_X3_9 (v := .int (nI N)) rfl dX3_init_60 ?_
        refine lv_icmp_ge (tgt := 106) C.1 C.2.1 dX3_init_63 (by decide) (fun c63 => ?_) (fun c63 => ?_)
        · have c63 : N ≤ i := (nI_leI (a := N) (b := i) (by omega) (by omega)).mp c63
          have hiN : i = N := by omega
          subst hiN
          have hR2 := LX_done ⟨hO, hSt, hCa, hRi, hA, hB⟩
          refine lv_aload_n C.1 C.2.1 dX3_init_106 rfl (lv_at hl 1 rfl) ?_
          refine cxV (b := b) (As := []) (rest := []) (ci := 3) (q := (RX3, TX3, 6)) C (k_X3_findRings l g b i (xi i) z0 hN (xi_IX (by omega))) cf_X3_findRings ml_X3_33 ⟨by decide, by decide⟩ ⟨rfl, rfl⟩ rfl hR2.1 rfl hl.1 rfl (Nat.le_of_ble_eq_true rfl) dX3_init_107 hR2 ⟨by show _ ≤ 63; omega, by show _ ≤ 420; omega⟩ hS (fun _ h => h) (fun H1 locs hR3 hS hz3 _ => ?_)
          refine W.widen (k := 63) (n := 420) (by omega) (by omega) ?_
          exact endB C hr hlk hR3 (by omega) hS dX3_init_110
        · have c63 : ¬ (N ≤ i) := mt (nI_leI (a := N) (b := i) (by omega) (by omega)).mpr c63
          refine lv_aload_n C.1 C.2.1 dX3_init_66 rfl (lv_at hl 1 rfl) ?_
          refine gf C in3 rfl hO 1 (by decide) rfl fl_X3_15 (v := .ref (b + 1)) rfl dX3_init_67 ?_
          refine lv_iload_n C.1 C.2.1 dX3_init_70 rfl (lv_at hl 0 rfl) ?_
          refine nwO (a := aSt b i) (fs := st0) C in2 tyX2 tyX2_ok cl_X3_13 in_X2 ii_X2 (ci := 2) rfl (fun j hj => by match j, hj with | 0, _ => rfl | 1, _ => rfl | 2, _ => rfl | 3, _ => rfl | 4, _ => rfl | 5, _ => rfl | 6, _ => rfl | 7, _ => rfl | 8, _ => rfl | 9, _ => rfl | 10, _ => rfl | 11, _ => rfl | 12, _ => rfl | 13, _ => rfl | 14, _ => rfl | 15, _ => rfl | 16, _ => rfl | 17, _ => rfl | 18, _ => rfl | k + 19, h => omega) (by show _ ≤ 63; omega) (by show _ ≤ 420; omega) (by simp only [aSt]; omega) dX3_init_71 (fun Ha so za oa => ?_)
          have hsa : H.size = aSt b i := by simp only [aSt]; omega
          have oa2 : ∀ q : Nat, q < b + 4 + 10 * i → Ha[q]? = H[q]? := fun q h => oa q (by simp only [aSt]; omega)
          have hO := at_eq hO (oa2 _ (by omega)) rfl
          have hSt := at_eq hSt (oa2 _ (by omega)) rfl
          have hCa := at_eq hCa (oa2 _ (by omega)) rfl
          have hRi := at_eq hRi (oa2 _ (by omega)) rfl
          have hA : ∀ j, j < i → STN g (aSt b j) _ := fun j hj => (hA j hj).keep (fun q h1 h2 => oa2 q (by simp only [aSt] at h1 h2; omega))
          have hB : ∀ j, j < i → va_at g.1 vwCl (aRg b j, .inr (1, rgN j)) _ := fun j hj => at_eq (hB j hj) (oa2 _ (by simp only [aRg]; omega)) rfl
          have hS := hS.gr (by omega) (fun q h => oa q (by omega))
          refine lv_dup C.1 C.2.1 dX3_init_74 rfl ?_
          refine cxI (a := aSt b i) (As := []) (rest := [.ref (aSt b i), .int (nI i), .ref (b + 1)]) C hKA (k_X2_init l g (aSt b i)) ci_X2 rfl ml_X3_29 ⟨by decide, by decide⟩ ⟨rfl, rfl⟩ rfl hl.1 rfl (Nat.le_of_ble_eq_true rfl) dX3_init_75 za so ⟨by show _ ≤ 63; omega, by show _ ≤ 420; omega⟩ hS (fun q h => by simp only [reg, AX, aSt] at *; omega) (fun Hc lc stn zc_ hS oc_ => ?_)
          have oc2 : ∀ q : Nat, q < b + 4 + 10 * i → Hc[q]? = Ha[q]? := fun q h => oc_ q (by omega) (by simp only [reg, aSt]; omega)
          have hO := at_eq hO (oc2 _ (by omega)) rfl
          have hSt := at_eq hSt (oc2 _ (by omega)) rfl
          have hCa := at_eq hCa (oc2 _ (by omega)) rfl
          have hRi := at_eq hRi (oc2 _ (by omega)) rfl
          have hA : ∀ j, j < i → STN g (aSt b j) _ := fun j hj => (hA j hj).keep (fun q h1 h2 => oc2 q (by simp only [aSt] at h1 h2; omega))
          have hB : ∀ j, j < i → va_at g.1 vwCl (aRg b j, .inr (1, rgN j)) _ := fun j hj => at_eq (hB j hj) (oc2 _ (by simp only [aRg]; omega)) rfl
          refine aQ_st (t := 3) (ci := 2) (r := (RX2, TX2, 19)) C hSt rfl stn.1 rfl (by omega) (by omega) dX3_init_78 (fun Hd nd hSt zd od => ?_)
          rw [fS_s] at hSt
          have hO := at_eq hO (od _ (by omega)) rfl
          have hCa := at_eq hCa (od _ (by omega)) rfl
          have hRi := at_eq hRi (od _ (by omega)) rfl
          have hA : ∀ j, j < i + 1 → STN g (aSt b j) Hd := fun j hj => by
            by_cases hji : j = i
            · subst hji; exact stn.keep (fun q h1 h2 => od q (by simp only [aSt] at h1 h2; omega))
            · exact (hA j (by omega)).keep (fun q h1 h2 => od q (by simp only [aSt] at h1 h2; omega))
          have hB : ∀ j, j < i → va_at g.1 vwCl (aRg b j, .inr (1, rgN j)) _ := fun j hj => at_eq (hB j hj) (od _ (by simp only [aRg]; omega)) rfl
          have hS := hS.put (k := nd) zd od (by simp only [AX]; omega)
          have hzd : Hd.size = b + 13 + 10 * i := by simp only [aSt] at zc_; omega
          refine lv_aload_n C.1 C.2.1 dX3_init_79 rfl (lv_at hl 1 rfl) ?_
          refine gf C in3 rfl hO 2 (by decide) rfl fl_X3_19 (v := .ref (b + 2)) rfl dX3_init_80 ?_
          refine lv_iload_n C.1 C.2.1 dX3_init_83 rfl (lv_at hl 0 rfl) ?_
          refine lv_iconst (v := nI 1) C.1 C.2.1 dX3_init_84 (by decide) ?_
          refine aZ_st C hCa (by omega) (by omega) (Or.inr rfl) dX3_init_85 (fun He ne_ hCa ze_ oe => ?_)
          rw [fZ_s] at hCa
          have hO := at_eq hO (oe _ (by omega)) rfl
          have hSt := at_eq hSt (oe _ (by omega)) rfl
          have hRi := at_eq hRi (oe _ (by omega)) rfl
          have hA : ∀ j, j < i + 1 → STN g (aSt b j) _ := fun j hj => (hA j hj).keep (fun q h1 h2 => oe q (by simp only [aSt] at h1 h2; omega))
          have hB : ∀ j, j < i → va_at g.1 vwCl (aRg b j, .inr (1, rgN j)) _ := fun j hj => at_eq (hB j hj) (oe _ (by simp only [aRg]; omega)) rfl
          have hS := hS.put (k := ne_) ze_ oe (by simp only [AX]; omega)
          refine lv_aload_n C.1 C.2.1 dX3_init_86 rfl (lv_at hl 1 rfl) ?_
          refine gf C in3 rfl hO 3 (by decide) rfl fl_X3_25 (v := .ref (b + 3)) rfl dX3_init_87 ?_
          refine lv_iload_n C.1 C.2.1 dX3_init_90 rfl (lv_at hl 0 rfl) ?_
          refine nwO (a := aRg b i) (fs := rg0) C in1 tyX1 tyX1_ok cl_X3_23 in_X1 ii_X1 (ci := 1) rfl (fun j hj => by match j, hj with | 0, _ => rfl | 1, _ => rfl | 2, _ => rfl | 3, _ => rfl | 4, _ => rfl | 5, _ => rfl | 6, _ => rfl | 7, _ => rfl | 8, _ => rfl | 9, _ => rfl | k + 10, h => omega) (by show _ ≤ 63; omega) (by show _ ≤ 420; omega) (by simp only [aRg]; omega) dX3_init_91 (fun Hf ro zf of => ?_)
          have of2 : ∀ q : Nat, q < b + 13 + 10 * i → Hf[q]? = He[q]? := fun q h => of q (by simp only [aRg]; omega)
          have hO := at_eq hO (of2 _ (by omega)) rfl
          have hSt := at_eq hSt (of2 _ (by omega)) rfl
          have hCa := at_eq hCa (of2 _ (by omega)) rfl
          have hRi := at_eq hRi (of2 _ (by omega)) rfl
          have hA : ∀ j, j < i + 1 → STN g (aSt b j) _ := fun j hj => (hA j hj).keep (fun q h1 h2 => of2 q (by simp only [aSt] at h1 h2; omega))
          have hB : ∀ j, j < i → va_at g.1 vwCl (aRg b j, .inr (1, rgN j)) _ := fun j hj => at_eq (hB j hj) (of2 _ (by simp only [aRg]; omega)) rfl
          have hS := hS.gr (by simp only [aRg] at zf; omega) (fun q h => of2 q (by omega))
          refine lv_dup C.1 C.2.1 dX3_init_94 rfl ?_
          refine lv_iload_n C.1 C.2.1 dX3_init_95 rfl (lv_at hl 0 rfl) ?_
          refine cxI (a := aRg b i) (As := [.int (nI i)]) (rest := [.ref (aRg b i), .int (nI i), .ref (b + 3)]) C hKA (k_X1_init l g (aRg b i) i) ci_X1 rfl ml_X3_30 ⟨by decide, by decide⟩ ⟨rfl, rfl⟩ rfl hl.1 rfl (Nat.le_of_ble_eq_true rfl) dX3_init_96 zf ro ⟨by show _ ≤ 63; omega, by show _ ≤ 420; omega⟩ hS (fun q h => by simp only [reg, AX, aRg] at *; omega) (fun Hg lg rgn zg hS og_ => ?_)
          have og2 : ∀ q : Nat, q < b + 13 + 10 * i → Hg[q]? = Hf[q]? := fun q h => og_ q (by simp only [aRg] at zf; omega) (by simp only [reg, aRg]; omega)
          have hO := at_eq hO (og2 _ (by omega)) rfl
          have hSt := at_eq hSt (og2 _ (by omega)) rfl
          have hCa := at_eq hCa (og2 _ (by omega)) rfl
          have hRi := at_eq hRi (og2 _ (by omega)) rfl
          have hA : ∀ j, j < i + 1 → STN g (aSt b j) _ := fun j hj => (hA j hj).keep (fun q h1 h2 => og2 q (by simp only [aSt] at h1 h2; omega))
          have hB : ∀ j, j < i → va_at g.1 vwCl (aRg b j, .inr (1, rgN j)) _ := fun j hj => at_eq (hB j hj) (og2 _ (by simp only [aRg]; omega)) rfl
          refine aQ_st (t := 4) (ci := 1) (r := (RX1, TX1, 10)) C hRi rfl rgn rfl (by omega) (by omega) dX3_init_99 (fun Hh nh hRi zh oh => ?_)
          rw [fR_s] at hRi
          have hO := at_eq hO (oh _ (by omega)) rfl
          have hSt := at_eq hSt (oh _ (by omega)) rfl
          have hCa := at_eq hCa (oh _ (by omega)) rfl
          have hA : ∀ j, j < i + 1 → STN g (aSt b j) Hh := fun j hj => (hA j hj).keep (fun q h1 h2 => oh q (by simp only [aSt] at h1 h2; omega))
          have hB : ∀ j, j < i + 1 → va_at g.1 vwCl (aRg b j, .inr (1, rgN j)) Hh := fun j hj => by
            by_cases hji : j = i
            · subst hji; exact at_eq rgn (oh _ (by simp only [aRg]; omega)) rfl
            · exact at_eq (hB j (by omega)) (oh _ (by simp only [aRg]; omega)) rfl
          have hS := hS.put (k := nh) zh oh (by simp only [AX]; omega)
          refine lv_iinc (v := nI (i + 1)) (lv' := [(2, .int (nI (i + 1))), (0, .ref b), (1, .int x)]) C.1 C.2.1 dX3_init_100 hl (k := 0) rfl (nI_add _ _) (by decide) rfl (fun ls hl => ?_)
          refine lv_goto (tgt := 58) C.1 C.2.1 dX3_init_103 (by decide) ?_
          refine W.widen (k := 3 + 10 * (i + 1)) (n := 3 * N + 67 * (i + 1)) (by omega) (by omega) ?_
          exact ih (i + 1) Hh _ ls (by omega) (by omega) ⟨hO, hSt, hCa, hRi, hA, hB⟩ (by simp only [aRg] at zg; omega) hS hl
    exact lp _ 0 _ _ ls (Nat.lt_succ_self _) (by omega) ⟨ob, at_eq ar0 rfl rfl, at_eq ar1 rfl rfl, at_eq ar2 rfl rfl, fun j hj => absurd hj (Nat.not_lt_zero _), fun j hj => absurd hj (Nat.not_lt_zero _)⟩ (by omega) hS hl
  refine lv_aload_n C.1 C.2.1 dX3_init_0 rfl (lv_at hl 0 rfl) ?_
  refine oI C lo_X3_1 hl.1 dX3_init_1 (by show 1 ≤ 5; decide) (by show 20 ≤ 116; decide) ?_
  refine lv_aload_n C.1 C.2.1 dX3_init_4 rfl (lv_at hl 0 rfl) ?_
  refine lv_iload_n C.1 C.2.1 dX3_init_5 rfl (lv_at hl 1 rfl) ?_
  refine lv_iconst (v := nI 2) C.1 C.2.1 dX3_init_6 (by decide) ?_
  have four : ¬ (¬ x < nI 2 ∧ ¬ nI 6 < x) → nI 4 = nI N := fun h => by
    rcases hx with hx | hx
    · exfalso; apply h; rw [hx]; exact ⟨nI_nlt (by omega) (by omega), nI_nlt (by omega) (by omega)⟩
    · rw [hx.2]
  have same : ¬ x < nI 2 → ¬ nI 6 < x → x = nI N := fun h1 h2 => by
    rcases hx with hx | hx
    · exact hx
    · exact absurd hx.1 (fun h => h.elim h1 h2)
  refine lv_icmp_lt (tgt := 20) C.1 C.2.1 dX3_init_7 (by decide) (fun c7 => ?_) (fun c7 => ?_)
  · refine lv_iconst (v := nI N) C.1 C.2.1 dX3_init_20 ((show Int32.ofInt 4 = nI 4 from rfl).trans (four (fun h => h.1 c7))) ?_
    exact tail
  · refine lv_iload_n C.1 C.2.1 dX3_init_10 rfl (lv_at hl 1 rfl) ?_
    refine lv_bipush (v := nI 6) C.1 C.2.1 dX3_init_11 (by decide) ?_
    refine lv_icmp_gt (tgt := 20) C.1 C.2.1 dX3_init_13 (by decide) (fun c13 => ?_) (fun c13 => ?_)
    · refine lv_iconst (v := nI N) C.1 C.2.1 dX3_init_20 ((show Int32.ofInt 4 = nI 4 from rfl).trans (four (fun h => h.2 c13))) ?_
      exact tail
    · refine lv_iload_n C.1 C.2.1 dX3_init_16 rfl (lv_at hl 1 rfl) ?_
      refine lv_goto (tgt := 21) C.1 C.2.1 dX3_init_17 (by decide) ?_
      refine lv_re (y := nI N) (same c7 c13) ?_
      exact tail
