/-! making cells -/
theorem vp_eq {cA : ClassId} {n : Nat} {f f2 : Nat → Option Nat} (h : ∀ j, j < n → f j = f2 j) : vp_cell cA (n, .inr (.inr (.inr (.inr f)))) = vp_cell cA (n, .inr (.inr (.inr (.inr f2)))) := by
  rw [vp_cell_q, vp_cell_q]
  unfold arrV
  congr 2
  funext j
  show va_rf (f j.val) = va_rf (f2 j.val)
  rw [h j.val j.isLt]
def ch0 (m : Nat) : Nat → Prop := fun q => m ≤ q
section NEWS
variable {p : Program} {l : Launch} {e : Env} {R : Room} {s : State} {m : MethodId} {args : Array Value} {below : List Frame} {meth : Method} {c : Code} {H H0 : Heap} {locs : List Loc} {cells slots : Nat} {Q : State → Prop}
variable {cc : ByteArray} {nL pc index : Nat} {ls : Array Slot} {rest : List Value} {g : GX} {own : String} {A : Nat → Prop}
theorem va_S.grow {H1 : Heap} {n : Nat} (hS : va_S A H0 H locs) (hA : ∀ q, H0.size ≤ q → A q) (hz : H1.size = H.size + n) (ho : ∀ q : Nat, q < H.size → H1[q]? = H[q]?) : va_S A H0 H1 locs := ⟨by have := hS.1; omega, fun q h1 h2 => (ho q (Nat.lt_of_lt_of_le h1 hS.1)).trans (hS.2.1 q h1 h2), hS.2.2⟩
theorem nwO {Cn : String} {T : u_T} {N ci a : Nat} {fs : List Value} (C : Cx g p s m args c cc nL own) (hin : ∀ w ∈ u_ws Cn T N, w ∈ tb) (ty : Nat → FieldType) (hty : ∀ k, k < N → parseFieldDescriptor (T k).2.2.1 = some (ty k)) (hcl : Cond.classLink own index Cn ∈ tb) (hins : Cond.instantiable Cn N ∈ tb) (hini : Cond.initialized Cn ∈ tb) (hc : vwCl[ci]? = some (Cn, T, N)) (hfs : ∀ j, j < N → defaultValue (ty j) = vp_V fs j) (hcells : cells + 1 ≤ R.cells) (hslots : slots + N ≤ R.slots) (hz : H.size = a) (hdg : decode cc pc = .ok (.new index, 3))
    (kk : ∀ (H1 : Heap), va_at g.1 vwCl (a, .inr (ci, fs)) H1 → H1.size = a + 1 → (∀ q : Nat, q < a → H1[q]? = H[q]?) → W p l e R s m args below meth c H1 locs (cells + 1) (slots + N) Q (F0 m (pc + 3) ls (.ref a :: rest))) : W p l e R s m args below meth c H locs cells slots Q (F0 m pc ls rest) := by
  obtain ⟨hx, hb, hml, hown, hT, hK⟩ := C
  have hKn := hK.1.1 ci _ hc
  exact W.newcK hx hb hown (hT _ hcl) (hT _ hins) (hT _ hini) rfl hdg hcells hslots hKn.2.1 hz fun H1 kC hkC e1 z1 o1 => kk H1 ⟨_, hc, (u_born ty hT hin hKn hkC e1 hty).to hfs⟩ z1 o1
theorem RAuniq {cA cB : ClassId} {ty : FieldType} (h1 : s.vm.findClass ("[" ++ ty.toString) = some cA) (h2 : s.vm.findClass ("[" ++ ty.toString) = some cB) : cA = cB := Option.some.inj (h1.symm.trans h2)
theorem nwI {a n : Nat} (C : Cx g p s m args c cc nL own) (hw : Cond.arrayClass .int ∈ tb) (hn : n ≤ 100) (hcells : cells + 1 ≤ R.cells) (hslots : slots + n ≤ R.slots) (hz : H.size = a) (hdg : decode cc pc = .ok (.newarray .int, 2))
    (kk : ∀ (H1 : Heap), va_at g.1 vwCl (a, .inl (g.2 0, n, .inl (fun _ => 0))) H1 → H1.size = a + 1 → (∀ q : Nat, q < a → H1[q]? = H[q]?) → W p l e R s m args below meth c H1 locs (cells + 1) (slots + n) Q (F0 m (pc + 2) ls (.ref a :: rest))) : W p l e R s m args below meth c H locs cells slots Q (F0 m pc ls (.int (nI n) :: rest)) := by
  obtain ⟨hx, hb, hml, hown, hT, hK⟩ := C
  refine va_newaK (atype := .int) hx hb (hT _ hw) rfl hdg rfl (nI_pos (by omega)) (nI_clamp (by omega)) (by show n * 4 ≤ _; omega) hcells hslots hz fun H1 cA e1 z1 o1 hAr hNm => ?_
  have hu : cA = g.2 0 := RAuniq (ty := .int) hNm (hK.1.2 0 _ rfl).2
  subst hu
  exact kk H1 e1 z1 o1
theorem nwZ {a n : Nat} (C : Cx g p s m args c cc nL own) (hw : Cond.arrayClass .boolean ∈ tb) (hn : n ≤ 100) (hcells : cells + 1 ≤ R.cells) (hslots : slots + n ≤ R.slots) (hz : H.size = a) (hdg : decode cc pc = .ok (.newarray .boolean, 2))
    (kk : ∀ (H1 : Heap), va_at g.1 vwCl (a, .inl (g.2 1, n, .inl (fun _ => 0))) H1 → H1.size = a + 1 → (∀ q : Nat, q < a → H1[q]? = H[q]?) → W p l e R s m args below meth c H1 locs (cells + 1) (slots + n) Q (F0 m (pc + 2) ls (.ref a :: rest))) : W p l e R s m args below meth c H locs cells slots Q (F0 m pc ls (.int (nI n) :: rest)) := by
  obtain ⟨hx, hb, hml, hown, hT, hK⟩ := C
  refine va_newaK (atype := .boolean) hx hb (hT _ hw) rfl hdg rfl (nI_pos (by omega)) (nI_clamp (by omega)) (by show n * 1 ≤ _; omega) hcells hslots hz fun H1 cA e1 z1 o1 hAr hNm => ?_
  have hu : cA = g.2 1 := RAuniq (ty := .boolean) hNm (hK.1.2 1 _ rfl).2
  subst hu
  exact kk H1 e1 z1 o1
theorem nwF {a n : Nat} (C : Cx g p s m args c cc nL own) (hw : Cond.arrayClass .float ∈ tb) (hn : n ≤ 100) (hcells : cells + 1 ≤ R.cells) (hslots : slots + n ≤ R.slots) (hz : H.size = a) (hdg : decode cc pc = .ok (.newarray .float, 2))
    (kk : ∀ (H1 : Heap), va_at g.1 vwCl (a, .inl (g.2 2, n, .inr (.inr (.inl (fun _ => 0))))) H1 → H1.size = a + 1 → (∀ q : Nat, q < a → H1[q]? = H[q]?) → W p l e R s m args below meth c H1 locs (cells + 1) (slots + n) Q (F0 m (pc + 2) ls (.ref a :: rest))) : W p l e R s m args below meth c H locs cells slots Q (F0 m pc ls (.int (nI n) :: rest)) := by
  obtain ⟨hx, hb, hml, hown, hT, hK⟩ := C
  refine va_newaK (atype := .float) hx hb (hT _ hw) rfl hdg rfl (nI_pos (by omega)) (nI_clamp (by omega)) (by show n * 4 ≤ _; omega) hcells hslots hz fun H1 cA e1 z1 o1 hAr hNm => ?_
  have hu : cA = g.2 2 := RAuniq (ty := .float) hNm (hK.1.2 2 _ rfl).2
  subst hu
  exact kk H1 e1 z1 o1
theorem nwQ {a n t : Nat} {Cn : String} {cB : ClassId} (C : Cx g p s m args c cc nL own) (ht : (tyl g)[t]? = some (cB, .object Cn)) (hcl : Cond.classLink own index Cn ∈ tb) (hov : va_AO Cn s) (hn : n ≤ 100) (hcells : cells + 1 ≤ R.cells) (hslots : slots + n ≤ R.slots) (hz : H.size = a) (hdg : decode cc pc = .ok (.anewarray index, 3))
    (kk : ∀ (H1 : Heap), va_at g.1 vwCl (a, .inl (cB, n, .inr (.inr (.inr (.inr (fun _ => none)))))) H1 → H1.size = a + 1 → (∀ q : Nat, q < a → H1[q]? = H[q]?) → W p l e R s m args below meth c H1 locs (cells + 1) (slots + n) Q (F0 m (pc + 3) ls (.ref a :: rest))) : W p l e R s m args below meth c H locs cells slots Q (F0 m pc ls (.int (nI n) :: rest)) := by
  obtain ⟨hx, hb, hml, hown, hT, hK⟩ := C
  have hcm : (nI n).toNatClampNeg = n := nI_clamp (by omega)
  refine W.anew hx hb hown (hT _ hcl) (va_AO.use hov) rfl hdg rfl (nI_pos (by omega)) (by rw [hcm]; omega) hcells (by rw [hcm]; exact hslots) fun cA kA comp f1 f2 f3 f4 => ?_
  obtain ⟨kB, compB, -, -, -, hNm⟩ := (hK.1.2 t _ ht).2
  have hu : cA = cB := RAuniq (ty := .object Cn) f1 hNm
  subst hu
  subst hz
  rw [hcm]
  refine kk _ ?_ (by rw [Array.size_push]) (fun q hq => by rw [Array.getElem?_push, if_neg (Nat.ne_of_lt hq)])
  show (H.push _)[H.size]? = some (vp_cell _ _)
  rw [Array.getElem?_push_size, vp_cell_q, arrV_new]
  rfl
/-- a final field is written in a constructor -/
theorem pfF {ci a N : Nat} {Cn : String} {T : u_T} {fs : List Value} (C : Cx g p s m args c cc nL own) (hin : ∀ w ∈ u_ws Cn T N, w ∈ tb) (ty0 : Nat → FieldType) (hty : ∀ k, k < N → parseFieldDescriptor (T k).2.2.1 = some (ty0 k)) (hnm : ∀ a, a < N → ∀ b, b < N → a ≠ b → (T a).2.1 ≠ (T b).2.1) (hc : vwCl[ci]? = some (Cn, T, N)) (hat : va_at g.1 vwCl (a, .inr (ci, fs)) H) (k : Nat) (hk : k < N) (hcls : (T k).1 = Cn) (ho : own = Cn) (hfin : (T k).2.2.2 = true) (hin2 : meth.name = "<init>") (hlink : Cond.fieldLink own index Cn (T k).2.1 (T k).2.2.1 ∈ tb) {v : Value} (hn : narrow (ty0 k) v = v) (hfit : fits (ty0 k) v = true) (hl : k < fs.length) (hdg : decode cc pc = .ok (.putfield index, 3))
    (kk : ∀ (H1 : Heap) (n : Nat), va_at g.1 vwCl (a, .inr (ci, fs.set k v)) H1 → H1.size = H.size → (∀ q : Nat, q ≠ a → H1[q]? = H[q]?) → W p l e R s m args below meth c H1 (locs ++ [⟨a, n⟩]) cells slots Q (F0 m (pc + 3) ls rest)) : W p l e R s m args below meth c H locs cells slots Q (F0 m pc ls (v :: .ref a :: rest)) := by
  obtain ⟨hx, hb, hml, hown, hT, hK⟩ := C
  have hap := va_apart (own := own) hT hin ty0 hty hnm hK.1 hc
  obtain ⟨r, h1, cell, q1, q2, q3, q4⟩ := hat
  have hr : r = (Cn, T, N) := Option.some.inj (h1.symm.trans hc)
  subst hr
  obtain ⟨hS, hfc, kC, hkC, hkind⟩ := hK.1.1 ci _ hc
  obtain ⟨cf, kf, fi, f, hi, hsl⟩ := hS k hk
  have hlay := hT _ (hin _ (u_in_lay hk))
  unfold u_lay at hlay
  rw [if_pos hfin] at hlay
  have hst := (u_facts hfc hkC (u_lays hT hin hk) hi).1
  have hcf : m.cls = cf := by
    obtain ⟨_, _, c', _, _, _, -, -, hf', -, -, -, hown2, -⟩ := Cond.laysFinal_spec hlay
    have e1 : c' = cf := by have := hi.symm.trans hf'; simp at this; exact this.1.symm
    rw [hcls, ← ho] at hown2
    rw [← e1]; exact Option.some.inj (hown.symm.trans hown2)
  have h6 := u_fits hfc hkC hkind (Or.inr hlay) hi (hty k hk) hn hfit
  have hi2 := hi
  rw [hcls] at hi2
  refine W.putFinK hx hb hown (hT _ hlink) hi2 hst hcf hin2 (by rw [q2]; exact h6) q1 q3 (by rw [hsl]; exact k2_hasslot (q4 k hk)) rfl rfl hdg fun H' e1 e2 e3 => ?_
  rw [hsl] at e1 ⊢
  exact kk H' _ ⟨_, hc, t_OB.to (V := updV (vp_V fs) k v) ⟨_, e1, q2, q3, t_set q4 hap hk v⟩ (fun j _ => vp_updV_set hl v j)⟩ e2 e3
/-- a reference is stored into an array -/
theorem aQ_st {a n j t v ci : Nat} {cA : ClassId} {r : vw_C} {vs : List Value} {f : Nat → Option Nat} (C : Cx g p s m args c cc nL own) (hat : va_at g.1 vwCl (a, .inl (cA, n, .inr (.inr (.inr (.inr f))))) H) (ht : (tyl g)[t]? = some (cA, .object r.1)) (hv : va_at g.1 vwCl (v, .inr (ci, vs)) H) (hc : vwCl[ci]? = some r) (hj : j < n) (hn : n ≤ 100) (hdg : decode cc pc = .ok (.aastore, 1))
    (kk : ∀ (H1 : Heap) (k : Nat), va_at g.1 vwCl (a, .inl (cA, n, .inr (.inr (.inr (.inr (va_up f j (some v))))))) H1 → H1.size = H.size → (∀ q : Nat, q ≠ a → H1[q]? = H[q]?) → W p l e R s m args below meth c H1 (locs ++ [⟨a, k⟩]) cells slots Q (F0 m (pc + 1) ls rest)) : W p l e R s m args below meth c H locs cells slots Q (F0 m pc ls (.ref v :: .int (nI j) :: .ref a :: rest)) := by
  obtain ⟨hx, hb, hml, hown, hT, hK⟩ := C
  obtain ⟨r', hr', cellV, g1, g2, g3, -⟩ := hv
  have hcls := (hK.1.1 ci r hc).2
  obtain ⟨kA, comp, k1, k2, k3, -⟩ := (hK.1.2 t _ ht).2
  have hcomp : comp = g.1.1 ci := Option.some.inj (k3.symm.trans hcls.1)
  subst hcomp
  obtain ⟨kC, hkC, -⟩ := hcls.2
  have h0 : ¬ nI j < 0 := nI_pos (by omega)
  have hlt : (nI j).toNatClampNeg < n := by rw [nI_clamp (by omega)]; exact hj
  refine W.aast hx hb hat (fun q h => by cases h) (fun h => by cases h) k1 k2 rfl hkC ⟨h0, by show _ < (arrV _ _ _).slots.size; rw [arrV_size]; exact hlt⟩ g1 (fun q h => by rw [g3] at h; cases h) (by rw [g2]; exact hkC) (by rw [g2]; exact va_assign hcls) rfl rfl hdg fun H1 e z oq => ?_
  refine kk H1 _ ?_ z oq
  show H1[a]? = some (vp_cell _ _)
  rw [e]
  rw [vp_cell_q, vp_cell_q, arrV_store]
  congr 2
  funext q
  rw [nI_clamp (by omega)]
  by_cases hq : q = j
  · subst hq
    simp [updV, va_up, va_rf]
  · simp [updV, va_up, hq]
end NEWS
