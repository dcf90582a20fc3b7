/-! the state as a function: field, place -/
abbrev SX : Type := Nat → Nat → Int32
abbrev FX : Type := Nat → UInt32
def up2 (S : SX) (f i : Nat) (v : Int32) : SX := fun g k => if g = f ∧ k = i then v else S g k
theorem up2_eq (S : SX) (f i : Nat) (v : Int32) : up2 S f i v f i = v := by simp [up2]
theorem up2_f {S : SX} {f i g k : Nat} {v : Int32} (h : g ≠ f) : up2 S f i v g k = S g k := by simp [up2, h]
theorem up2_i {S : SX} {f i g k : Nat} {v : Int32} (h : k ≠ i) : up2 S f i v g k = S g k := by simp [up2, h]
theorem up2_ff {S : SX} {f i g : Nat} {v : Int32} (h : g ≠ f) : up2 S f i v g = S g := funext fun _ => up2_f h
theorem up2_upd (S : SX) (f i : Nat) (v : Int32) : up2 S f i v f = upd (S f) i v := funext fun k => by
  by_cases h : k = i
  · simp [up2, upd, h]
  · simp [up2, upd, h]
abbrev GX : Type := va_G × (Nat → ClassId)
def tyl (g : GX) : List (ClassId × FieldType) := [(g.2 0, .int), (g.2 1, .boolean), (g.2 2, .float), (g.2 3, .object RX2), (g.2 4, .object RX1)]
def isNest : Cond → Bool
  | .fieldLinkNest .. => true
  | .methodLinkNest .. => true
  | _ => false
def tb : List Cond := lw_tbl.filter goodWord
def nb : List Cond := lw_tbl.filter isNest
theorem tb_in {w : Cond} (i : Nat) (h : lw_tbl[i]? = some w) (hg : goodWord w = true) : w ∈ tb := List.mem_filter.mpr ⟨List.mem_of_getElem? h, hg⟩
theorem nb_in {w : Cond} (i : Nat) (h : lw_tbl[i]? = some w) (hg : isNest w = true) : w ∈ nb := List.mem_filter.mpr ⟨List.mem_of_getElem? h, hg⟩
theorem tb_good {ws : List Cond} (h : ∀ w ∈ ws, w ∈ tb) : GoodIn tb ws := fun w hw => ⟨h w hw, good_of_word (List.mem_filter.mp (h w hw)).2⟩
def NW (U : State) : Prop := ∀ w ∈ nb, va_Nw w U
theorem NW.warm {s U : State} (hW : s.WarmedH U.vm) (h : NW s) : NW U := by
  intro w hw
  have h1 := h w hw
  have h2 := (List.mem_filter.mp hw).2
  cases w <;> first | exact va_Nw.warmF hW h1 | exact va_Nw.warmM hW h1 | exact absurd h2 (by simp [isNest])
theorem NW.same {u U : State} (hv : u.vm = U.vm) (h : NW u) : NW U := by
  intro w hw
  have h1 := h w hw
  have h2 := (List.mem_filter.mp hw).2
  cases w <;> first | exact va_Nw.same rfl hv h1 | exact absurd h2 (by simp [isNest])
def KK (g : GX) (U : State) : Prop := va_K g.1 vwCl (tyl g) U ∧ NW U
theorem KK.warm {g : GX} {s U : State} (hW : s.WarmedH U.vm) (h : KK g s) : KK g U := ⟨va_K.moved hW.alike h.1, h.2.warm hW⟩
theorem KK.calling {g : GX} {U : State} {f : JFrame} {mk : MethodId} {a : Array Value} (h : KK g U) : KK g (U.calling f mk a) := ⟨va_K.moved (u := U) (U := U.calling f mk a) (Vm.Alike.refl U.vm) h.1, NW.same (u := U) (U := U.calling f mk a) rfl h.2⟩
/-! contracts: the picture before, the picture behind, the region, the arguments, the answer -/
def PR (g : GX) (Rep : Heap → Prop) (av : List Value) : Array Value → State → Prop := fun v U => v = av.toArray ∧ KK g U ∧ Rep U.heap
def QR (Rep' : Heap → Prop) (A : Nat → Prop) (r : Option Value) : Array Value → State → Outcome → State → Prop := fun _ st oc t => oc = .returned r ∧ Rep' t.heap ∧ va_F A st t
abbrev MR (l : Launch) (y : MethodName) (ws : List Cond) (rm : Room) (g : GX) (Rep Rep' : Heap → Prop) (A : Nat → Prop) (av : List Value) (r : Option Value) : Prop := Met l y ws rm (PR g Rep av) (QR Rep' A r) 0 0 A
abbrev rmk (f lo : Nat) : Room := { frames := f, cells := 0, slots := 0, locals := lo }
def Cx (g : GX) (p : Program) (s : State) (m : MethodId) (args : Array Value) (c : Code) (cc : ByteArray) (nL : Nat) (own : String) : Prop := p.tables.exec = Jvm.exec ∧ c.code = cc ∧ c.maxLocals = nL ∧ s.vm.findClass own = some m.cls ∧ (∀ w ∈ tb, w.before args s = true) ∧ KK g s
theorem MR.start (own : String) {l : Launch} {y : MethodName} {cc : ByteArray} {nL : Nat} {ret : Option FieldType} {rm : Room} {g : GX} {Rep Rep' : Heap → Prop} {A : Nat → Prop} {av : List Value} {r : Option Value} (hy : plainName y.cls = true) (ho : y.cls = own) (hn : (lg_sl av).length ≤ nL)
    (body : ∀ (p : Program) (e : Env) (s : State) (m : MethodId) (below : List Frame) (meth : Method) (c : Code) (ls : Array Slot), Cx g p s m av.toArray c cc nL own → meth.sig.returnType = ret → meth.locks = false → Rep s.heap → va_S A s.heap s.heap [] → lv_has ls nL (lv_args 0 av) → W p l e rm s m av.toArray below meth c s.heap [] 0 0 (MQ below (QR Rep' A r) av.toArray s 0 0 A) (F0 m 0 ls [])) :
    MR l y (.code y cc nL ret :: tb) rm g Rep Rep' A av r := by
  refine Met.ofW (cc := cc) (maxL := nL) (ret := ret) hy rfl ?_
  intro p e s m args below meth c s₁ B hml hv
  obtain ⟨rfl, hK, hR⟩ := hv
  have hl := lv_entry av (n := nL) hn
  rw [lg_entry_eq]
  exact body p e s m below meth c _ ⟨B.exec, B.bytes, hml, ho ▸ findClass_of_methodNamed B.named, fun w hw => atoms_spec (ws := .code y cc nL ret :: tb) B.pre w (List.mem_cons_of_mem _ hw), hK⟩ B.returns B.notSynchronized hR va_S.rf hl
section BASE
variable {p : Program} {l : Launch} {e : Env} {R : Room} {s : State} {m : MethodId} {args : Array Value} {below : List Frame} {meth : Method} {c : Code} {H : Heap} {locs : List Loc} {cells slots : Nat} {Q : State → Prop}
variable {cc : ByteArray} {nL pc : Nat} {ls : Array Slot} {rest : List Value} {g : GX} {own : String} {A : Nat → Prop} {Rep Rep' : Heap → Prop}
theorem endv (C : Cx g p s m args c cc nL own) (hr : meth.sig.returnType = none) (hlocks : meth.locks = false) (hR : Rep' H) (hS : va_S A s.heap H locs) (hdg : decode cc pc = .ok (.return_, 1)) : W p l e R s m args below meth c H locs cells slots (MQ below (QR Rep' A none) args s cells slots A) (F0 m pc ls []) :=
  W.vret C.1 C.2.1 hr (fun t ht hW => ⟨rfl, by rw [ht]; exact hR, hS.F ht⟩) hS.2.2 hdg
theorem endi {v : Int32} (C : Cx g p s m args c cc nL own) (hr : meth.sig.returnType = some .int) (hlocks : meth.locks = false) (hR : Rep' H) (hS : va_S A s.heap H locs) (hdg : decode cc pc = .ok (.ireturn, 1)) : W p l e R s m args below meth c H locs cells slots (MQ below (QR Rep' A (some (.int v))) args s cells slots A) (F0 m pc ls [.int v]) :=
  W.iret C.1 C.2.1 hr (fun t ht hW => ⟨rfl, by rw [ht]; exact hR, hS.F ht⟩) hS.2.2 hdg
theorem endz {v : Int32} (C : Cx g p s m args c cc nL own) (hr : meth.sig.returnType = some .boolean) (hlocks : meth.locks = false) (hn : v = 0 ∨ v = 1) (hR : Rep' H) (hS : va_S A s.heap H locs) (hdg : decode cc pc = .ok (.ireturn, 1)) : W p l e R s m args below meth c H locs cells slots (MQ below (QR Rep' A (some (.int v))) args s cells slots A) (F0 m pc ls [.int v]) :=
  W.zret C.1 C.2.1 hr (by rcases hn with rfl | rfl <;> rfl) (fun t ht hW => ⟨rfl, by rw [ht]; exact hR, hS.F ht⟩) hS.2.2 hdg
theorem enda {v : Nat} {n : String} (C : Cx g p s m args c cc nL own) (hr : meth.sig.returnType = some (.object n)) (hlocks : meth.locks = false) (hR : Rep' H) (hS : va_S A s.heap H locs) (hdg : decode cc pc = .ok (.areturn, 1)) : W p l e R s m args below meth c H locs cells slots (MQ below (QR Rep' A (some (.ref v))) args s cells slots A) (F0 m pc ls [.ref v]) :=
  W.aret C.1 C.2.1 hr (Or.inl ⟨_, rfl⟩) (Or.inr ⟨_, rfl⟩) (fun t ht hW => ⟨rfl, by rw [ht]; exact hR, hS.F ht⟩) hS.2.2 hdg
theorem endf {v : UInt32} (C : Cx g p s m args c cc nL own) (hr : meth.sig.returnType = some .float) (hlocks : meth.locks = false) (hR : Rep' H) (hS : va_S A s.heap H locs) (hdg : decode cc pc = .ok (.freturn, 1)) : W p l e R s m args below meth c H locs cells slots (MQ below (QR Rep' A (some (.float v))) args s cells slots A) (F0 m pc ls [.float v]) :=
  W.fret C.1 C.2.1 hr (fun t ht hW => ⟨rfl, by rw [ht]; exact hR, hS.F ht⟩) hS.2.2 hdg
theorem endd {v : UInt64} (C : Cx g p s m args c cc nL own) (hr : meth.sig.returnType = some .double) (hlocks : meth.locks = false) (hR : Rep' H) (hS : va_S A s.heap H locs) (hdg : decode cc pc = .ok (.dreturn, 1)) : W p l e R s m args below meth c H locs cells slots (MQ below (QR Rep' A (some (.double v))) args s cells slots A) (F0 m pc ls [.double v]) :=
  W.dret C.1 C.2.1 hr (fun t ht hW => ⟨rfl, by rw [ht]; exact hR, hS.F ht⟩) hS.2.2 hdg
/-- behind a call -/
theorem goR {A0 A1 : Nat → Prop} {H0 : Heap} {a : Array Value} {r : Option Value} {st0 : List Value} (hr : va_Run p l e R s m args below meth c H locs cells slots 0 0 (F0 m pc ls st0) rest (QR Rep' A1 r a) A1) (hS : va_S A0 H0 H locs) (hA : ∀ q, A1 q → A0 q)
    (kk : ∀ (H1 : Heap) (locs1 : List Loc), Rep' H1 → va_S A0 H0 H1 locs1 → H.size ≤ H1.size → (∀ q : Nat, q < H.size → ¬ A1 q → H1[q]? = H[q]?) → W p l e R s m args below meth c H1 locs1 cells slots Q (F0 m (pc + 3) ls (r.toList ++ rest))) : W p l e R s m args below meth c H locs cells slots Q (F0 m pc ls st0) := by
  intro T hT X
  obtain ⟨v, st₀, t, T', L, h0, X', hL, e1, e2, ⟨hv, hp, hz, hk⟩, st⟩ := hr T hT X
  cases hv
  rw [h0] at hz hk
  obtain ⟨t2, a1, b1⟩ := kk T'.heap (locs ++ L) (by rw [e1]; exact hp)
    ⟨Nat.le_trans hS.1 (by rw [e1]; exact hz), fun q h1 h2 => by rw [e1, hk q (Nat.lt_of_lt_of_le h1 hS.1) (fun z => h2 (hA q z))]; exact hS.2.1 q h1 h2, fun q hq => by
      rcases List.mem_append.mp hq with h | h
      · exact hS.2.2 q h
      · exact hA _ (hL q h)⟩ (by rw [e1]; exact hz) (fun q h1 h2 => by rw [e1]; exact hk q h1 h2) T' rfl X'
  exact ⟨t2, st t2 a1, b1⟩
theorem PR.blind {av : List Value} : FrameBlind (PR g Rep av) := fun _ _ _ _ h => ⟨h.1, h.2.1.calling, h.2.2⟩
theorem rcvK {ci a : Nat} {fs : List Value} {q : vw_C} (hK : KK g s) (hc : vwCl[ci]? = some q) (h : va_at g.1 vwCl (a, .inr (ci, fs)) H) : ∃ cell : Cell, H[a]? = some cell ∧ cell.vm.isStatics = false ∧ s.vm.findClass q.1 = some cell.cls :=
  va_recv hK.1 (ws := [(a, .inr (ci, fs))]) (fun k x hk => by match k, hk with | 0, hk => cases hk; exact h) hc (q0 := 0) rfl
/-- a virtual call of an own method -/
theorem cxV {A0 A1 : Nat → Prop} {H0 : Heap} {y : MethodName} {bytes : ByteArray} {maxL n index : Nat} {ret : Option FieldType} {rm : Room} {b ci : Nat} {fs As st0 : List Value} {q : vw_C} {r : Option Value} (C : Cx g p s m args c cc nL own) (hM : MR l y (.code y bytes maxL ret :: tb) rm g Rep Rep' A1 (.ref b :: As) r)
    (hd : (y.cls = q.1 ∧ y.cls ≠ "java/lang/invoke/MethodHandle" ∧ y.cls ≠ "java/lang/invoke/VarHandle" ∧ (parseMethodDescriptor y.desc).map (fun d => d.parameters.length) = some n) ∧ Cond.instanceMethod y ∈ tb ∧ Cond.selects q.1 y y ∈ tb ∧ Cond.initialized q.1 ∈ tb ∧ Cond.code y bytes maxL ret ∈ tb)
    (hl : Cond.methodLink own index y ∈ tb ∨ Cond.methodLinkNest own index y RX3 ∈ nb) (hR : rm.frames + 1 ≤ R.frames ∧ 8 + (maxL + 11) + rm.locals ≤ R.locals) (hrm : rm.cells = 0 ∧ rm.slots = 0) (hc : vwCl[ci]? = some q) (hat : va_at g.1 vwCl (b, .inr (ci, fs)) H) (hn : As.length = n) (hsize : ls.size = nL) (hst : st0 = As.reverse ++ .ref b :: rest) (hW : (rest.map fun v => v.category).sum ≤ 8)
    (hdg : decode cc pc = .ok (.invokevirtual index, 3)) (hrep : Rep H) (hf : cells ≤ R.cells ∧ slots ≤ R.slots) (hS : va_S A0 H0 H locs) (hA : ∀ q, A1 q → A0 q)
    (kk : ∀ (H1 : Heap) (locs1 : List Loc), Rep' H1 → va_S A0 H0 H1 locs1 → H.size ≤ H1.size → (∀ q : Nat, q < H.size → ¬ A1 q → H1[q]? = H[q]?) → W p l e R s m args below meth c H1 locs1 cells slots Q (F0 m (pc + 3) ls (r.toList ++ rest))) : W p l e R s m args below meth c H locs cells slots Q (F0 m pc ls st0) := by
  obtain ⟨hx, hb, hml, hown, hT, hK⟩ := C
  obtain ⟨⟨hC, hd1, hd2, hd3⟩, w1, w2, w3, w4⟩ := hd
  have hcw : ∀ w ∈ Cond.code y bytes maxL ret :: tb, w ∈ tb := fun w hw => (List.mem_cons.mp hw).elim (fun h => h ▸ w4) id
  have hp : PreV s H q.1 b (PR g Rep (.ref b :: As)) As := ⟨PR.blind, rcvK hK hc hat, fun U hU hW => ⟨rfl, hK.warm hW, by rw [hU]; exact hrep⟩⟩
  rcases hl with hl | hl
  · refine goR (va_runV (As := As) (rest := rest) ⟨hx, hb, hml, hown, hT⟩ hM (cwV n hT (tb_good ?_) rfl hrm.1 hrm.2 ⟨hC, hd1, hd2, hd3⟩ hR) hp rfl hn hsize hst (lv_room hW) hdg hf) hS hA kk
    intro w hw
    rcases List.mem_append.mp hw with h | h
    · simp only [List.mem_cons, List.not_mem_nil, or_false] at h
      rcases h with rfl | rfl | rfl | rfl
      · exact hl
      · exact w1
      · exact w2
      · exact w3
    · exact hcw w h
  · exact goR (va_runVN (As := As) (rest := rest) (host := RX3) (C := q.1) ⟨hx, hb, hml, hown, hT⟩ hM ⟨va_cnB n hT (tb_good hcw) rfl hrm.1 hrm.2 (hK.2 _ hl) (by rw [hC]; exact hT _ w3) ⟨hd1, hd2, hd3⟩ hR, hT _ w1, hT _ w2⟩ hp rfl hn hsize hst (lv_room hW) hdg hf) hS hA kk
theorem one_P {a : Nat} {x : va_E} (h : va_at g.1 vwCl (a, x) H) : va_P g.1 vwCl [(a, x)] H := fun k q hk => by
  match k, hk with
  | 0, hk => cases hk; exact h
/-- a field is read -/
theorem gf {ci a index N : Nat} {Cn : String} {T : u_T} {fs : List Value} (C : Cx g p s m args c cc nL own) (hin : ∀ w ∈ u_ws Cn T N, w ∈ tb) (hc : vwCl[ci]? = some (Cn, T, N)) (hat : va_at g.1 vwCl (a, .inr (ci, fs)) H) (k : Nat) (hk : k < N) (hcls : (T k).1 = Cn) (hlink : Cond.fieldLink own index Cn (T k).2.1 (T k).2.2.1 ∈ tb ∨ Cond.fieldLinkNest own index Cn (T k).2.1 (T k).2.2.1 RX3 ∈ nb) {v : Value} (hv : fs[k]? = some v) (hdg : decode cc pc = .ok (.getfield index, 3))
    (kk : W p l e R s m args below meth c H locs cells slots Q (F0 m (pc + 3) ls (v :: rest))) : W p l e R s m args below meth c H locs cells slots Q (F0 m pc ls (.ref a :: rest)) := by
  obtain ⟨hx, hb, hml, hown, hT, hK⟩ := C
  rcases hlink with h | h
  · exact va_get hx hb hT hin hown hK.1 (one_P hat) 0 rfl hc k hk (hT _ h) (fun x h9 => by rw [hcls] at h9; exact h9) hv hdg kk
  · exact va_getN hx hb hT hin hown hK.1 (one_P hat) 0 rfl hc k hk (va_Nw.use rfl (hK.2 _ h)) (fun x h9 => by rw [hcls] at h9; exact h9) hv hdg kk
/-- a field is written -/
theorem pf {ci a index N : Nat} {Cn : String} {T : u_T} {fs : List Value} (C : Cx g p s m args c cc nL own) (hin : ∀ w ∈ u_ws Cn T N, w ∈ tb) (ty0 : Nat → FieldType) (hty : ∀ k, k < N → parseFieldDescriptor (T k).2.2.1 = some (ty0 k)) (hnm : ∀ a, a < N → ∀ b, b < N → a ≠ b → (T a).2.1 ≠ (T b).2.1) (hc : vwCl[ci]? = some (Cn, T, N)) (hat : va_at g.1 vwCl (a, .inr (ci, fs)) H) (k : Nat) (hk : k < N) (hcls : (T k).1 = Cn) (hfin : (T k).2.2.2 = false) (hlink : Cond.fieldLink own index Cn (T k).2.1 (T k).2.2.1 ∈ tb ∨ Cond.fieldLinkNest own index Cn (T k).2.1 (T k).2.2.1 RX3 ∈ nb) {v : Value} (hn : narrow (ty0 k) v = v) (hfit : fits (ty0 k) v = true) (hl : k < fs.length) (hdg : decode cc pc = .ok (.putfield index, 3))
    (kk : ∀ (H1 : Heap) (n : Nat), va_at g.1 vwCl (a, .inr (ci, fs.set k v)) H1 → H1.size = H.size → (∀ q : Nat, q ≠ a → H1[q]? = H[q]?) → W p l e R s m args below meth c H1 (locs ++ [⟨a, n⟩]) cells slots Q (F0 m (pc + 3) ls rest)) : W p l e R s m args below meth c H locs cells slots Q (F0 m pc ls (v :: .ref a :: rest)) := by
  obtain ⟨hx, hb, hml, hown, hT, hK⟩ := C
  have hap := va_apart (own := own) hT hin ty0 hty hnm hK.1 hc
  obtain ⟨r, h1, cell, q1, q2, q3, q4⟩ := hat
  have hr : r = (Cn, T, N) := Option.some.inj (h1.symm.trans hc)
  subst hr
  obtain ⟨hS, hfc, kC, hkC, hkind⟩ := hK.1.1 ci _ hc
  obtain ⟨cf, kf, fi, f, hi, hsl⟩ := hS k hk
  have hlay := hT _ (hin _ (u_in_lay hk))
  unfold u_lay at hlay
  rw [if_neg (by rw [hfin]; decide)] at hlay
  have hst := (u_facts hfc hkC (u_lays hT hin hk) hi).1
  have h6 := u_store hfc hkC hkind hlay hi (hty k hk) hn hfit
  have hi2 := hi
  rw [hcls] at hi2
  have fin : ∀ (H' : Heap), H'[a]? = some (cell.setSlot f.slot v) → H'.size = H.size → (∀ q, q ≠ a → H'[q]? = H[q]?) → W p l e R s m args below meth c H' (locs ++ [⟨a, f.slot⟩]) cells slots Q (F0 m (pc + 3) ls rest) := fun H' e1 e2 e3 => by
    rw [hsl] at e1 ⊢
    exact kk H' _ ⟨_, hc, t_OB.to (V := updV (vp_V fs) k v) ⟨_, e1, q2, q3, t_set q4 hap hk v⟩ (fun j _ => vp_updV_set hl v j)⟩ e2 e3
  rcases hlink with h | h
  · exact W.putK hx hb (f := f) ⟨hown, hT _ h, ⟨_, _, _, hi2⟩, hst⟩ (by rw [q2]; exact h6) q1 q3 (by rw [hsl]; exact k2_hasslot (q4 k hk)) rfl rfl hdg fin
  · exact va_WputK hx hb (f := f) hown (va_Nw.use rfl (hK.2 _ h)) hi2 hst (by rw [q2]; exact h6) q1 q3 (by rw [hsl]; exact k2_hasslot (q4 k hk)) rfl rfl hdg fin
theorem nI_ix {j n : Nat} (hj : j < n) (hn : n ≤ 100) : vp_in (nI j) n ∧ (nI j).toNatClampNeg = j := ⟨vp_in_nI hj (by omega), nI_clamp (by omega)⟩
theorem aI_ld {a n j : Nat} {f : Nat → Int32} (C : Cx g p s m args c cc nL own) (hat : va_at g.1 vwCl (a, .inl (g.2 0, n, .inl f)) H) (hj : j < n) (hn : n ≤ 100) (hdg : decode cc pc = .ok (.iaload, 1))
    (kk : W p l e R s m args below meth c H locs cells slots Q (F0 m (pc + 1) ls (.int (f j) :: rest))) : W p l e R s m args below meth c H locs cells slots Q (F0 m pc ls (.int (nI j) :: .ref a :: rest)) :=
  va_iald C.1 C.2.1 C.2.2.2.2.2.1 (one_P hat) 0 0 rfl rfl (nI_ix hj hn).1 hdg (by rw [(nI_ix hj hn).2]; exact kk)
theorem aZ_ld {a n j : Nat} {f : Nat → Int32} (C : Cx g p s m args c cc nL own) (hat : va_at g.1 vwCl (a, .inl (g.2 1, n, .inl f)) H) (hj : j < n) (hn : n ≤ 100) (hdg : decode cc pc = .ok (.baload, 1))
    (kk : W p l e R s m args below meth c H locs cells slots Q (F0 m (pc + 1) ls (.int (f j) :: rest))) : W p l e R s m args below meth c H locs cells slots Q (F0 m pc ls (.int (nI j) :: .ref a :: rest)) :=
  va_zald C.1 C.2.1 C.2.2.2.2.2.1 (one_P hat) 0 1 rfl rfl (nI_ix hj hn).1 hdg (by rw [(nI_ix hj hn).2]; exact kk)
theorem aF_ld {a n j : Nat} {f : Nat → UInt32} (C : Cx g p s m args c cc nL own) (hat : va_at g.1 vwCl (a, .inl (g.2 2, n, .inr (.inr (.inl f)))) H) (hj : j < n) (hn : n ≤ 100) (hdg : decode cc pc = .ok (.faload, 1))
    (kk : W p l e R s m args below meth c H locs cells slots Q (F0 m (pc + 1) ls (.float (f j) :: rest))) : W p l e R s m args below meth c H locs cells slots Q (F0 m pc ls (.int (nI j) :: .ref a :: rest)) :=
  va_fald C.1 C.2.1 C.2.2.2.2.2.1 (one_P hat) 0 2 rfl rfl (nI_ix hj hn).1 hdg (by rw [(nI_ix hj hn).2]; exact kk)
theorem aQ_ld {a n j t x : Nat} {cA : ClassId} {Cn : String} {f : Nat → Option Nat} (C : Cx g p s m args c cc nL own) (hat : va_at g.1 vwCl (a, .inl (cA, n, .inr (.inr (.inr (.inr f))))) H) (ht : (tyl g)[t]? = some (cA, .object Cn)) (hj : j < n) (hn : n ≤ 100) (hf : f j = some x) (hdg : decode cc pc = .ok (.aaload, 1))
    (kk : W p l e R s m args below meth c H locs cells slots Q (F0 m (pc + 1) ls (.ref x :: rest))) : W p l e R s m args below meth c H locs cells slots Q (F0 m pc ls (.int (nI j) :: .ref a :: rest)) :=
  va_aldq C.1 C.2.1 C.2.2.2.2.2.1 (one_P hat) 0 t rfl ht (nI_ix hj hn).1 hdg (by rw [(nI_ix hj hn).2, hf]; exact kk)
theorem aI_st {a n j : Nat} {f : Nat → Int32} {x : Int32} (C : Cx g p s m args c cc nL own) (hat : va_at g.1 vwCl (a, .inl (g.2 0, n, .inl f)) H) (hj : j < n) (hn : n ≤ 100) (hdg : decode cc pc = .ok (.iastore, 1))
    (kk : ∀ (H1 : Heap) (k : Nat), va_at g.1 vwCl (a, .inl (g.2 0, n, .inl (upd f j x))) H1 → H1.size = H.size → (∀ q : Nat, q ≠ a → H1[q]? = H[q]?) → W p l e R s m args below meth c H1 (locs ++ [⟨a, k⟩]) cells slots Q (F0 m (pc + 1) ls rest)) : W p l e R s m args below meth c H locs cells slots Q (F0 m pc ls (.int x :: .int (nI j) :: .ref a :: rest)) := by
  have hin := (nI_ix hj hn).1
  refine W.iast C.1 C.2.1 hat ((C.2.2.2.2.2.1.2 0 _ rfl).1 n (fun j => .int (f j))) (fun q => by cases q) (by show ¬ (nI j < 0 ∨ (arrV _ _ _).slots.size ≤ _); rw [arrV_size]; exact hin) rfl rfl hdg fun H1 e z oq => ?_
  refine kk H1 _ ?_ z oq
  show H1[a]? = some (vp_cell _ _)
  rw [e]
  rw [vp_cell_i, vp_cell_i, arrV_store]
  congr 2
  funext q
  rw [(nI_ix hj hn).2]
  by_cases hq : q = j
  · subst hq
    simp [updV, upd]
  · simp [updV, upd, hq]
theorem aZ_st {a n j : Nat} {f : Nat → Int32} {x : Int32} (C : Cx g p s m args c cc nL own) (hat : va_at g.1 vwCl (a, .inl (g.2 1, n, .inl f)) H) (hj : j < n) (hn : n ≤ 100) (hz : x = 0 ∨ x = 1) (hdg : decode cc pc = .ok (.bastore, 1))
    (kk : ∀ (H1 : Heap) (k : Nat), va_at g.1 vwCl (a, .inl (g.2 1, n, .inl (upd f j x))) H1 → H1.size = H.size → (∀ q : Nat, q ≠ a → H1[q]? = H[q]?) → W p l e R s m args below meth c H1 (locs ++ [⟨a, k⟩]) cells slots Q (F0 m (pc + 1) ls rest)) : W p l e R s m args below meth c H locs cells slots Q (F0 m pc ls (.int x :: .int (nI j) :: .ref a :: rest)) := by
  have hin := (nI_ix hj hn).1
  have hnar : narrow .boolean (.int x) = .int x := by rcases hz with rfl | rfl <;> rfl
  refine W.zast C.1 C.2.1 hat ((C.2.2.2.2.2.1.2 1 _ rfl).1 n (fun j => .int (f j))) (fun q => by cases q) (by show ¬ (nI j < 0 ∨ (arrV _ _ _).slots.size ≤ _); rw [arrV_size]; exact hin) rfl rfl hdg fun H1 e z oq => ?_
  refine kk H1 _ ?_ z oq
  show H1[a]? = some (vp_cell _ _)
  rw [e, hnar]
  rw [vp_cell_i, vp_cell_i, arrV_store]
  congr 2
  funext q
  rw [(nI_ix hj hn).2]
  by_cases hq : q = j
  · subst hq
    simp [updV, upd]
  · simp [updV, upd, hq]
theorem aF_st {a n j : Nat} {f : Nat → UInt32} {x : UInt32} (C : Cx g p s m args c cc nL own) (hat : va_at g.1 vwCl (a, .inl (g.2 2, n, .inr (.inr (.inl f)))) H) (hj : j < n) (hn : n ≤ 100) (hdg : decode cc pc = .ok (.fastore, 1))
    (kk : ∀ (H1 : Heap) (k : Nat), va_at g.1 vwCl (a, .inl (g.2 2, n, .inr (.inr (.inl (va_up f j x))))) H1 → H1.size = H.size → (∀ q : Nat, q ≠ a → H1[q]? = H[q]?) → W p l e R s m args below meth c H1 (locs ++ [⟨a, k⟩]) cells slots Q (F0 m (pc + 1) ls rest)) : W p l e R s m args below meth c H locs cells slots Q (F0 m pc ls (.float x :: .int (nI j) :: .ref a :: rest)) := by
  have hin := (nI_ix hj hn).1
  refine W.fast C.1 C.2.1 hat ((C.2.2.2.2.2.1.2 2 _ rfl).1 n (fun j => .float (f j))) (fun q => by cases q) (by show ¬ (nI j < 0 ∨ (arrV _ _ _).slots.size ≤ _); rw [arrV_size]; exact hin) rfl rfl hdg fun H1 e z oq => ?_
  refine kk H1 _ ?_ z oq
  show H1[a]? = some (vp_cell _ _)
  rw [e]
  rw [vp_cell_f, vp_cell_f, arrV_store]
  congr 2
  funext q
  rw [(nI_ix hj hn).2]
  by_cases hq : q = j
  · subst hq
    simp [updV, va_up]
  · simp [updV, va_up, hq]
end BASE
