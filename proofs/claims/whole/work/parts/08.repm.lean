/-! the reference's picture -/
def mlen (k : Nat) : Nat := if k = 21 then 12 else if k = 22 ∨ k = 23 ∨ k = 24 then 60 else if k = 26 then 36 else 6
def mA (d k : Nat) : Nat := if k < 3 then d + k else d + (k - 2)
def mty (k : Nat) : Nat := if k = 1 ∨ k = 2 ∨ k = 12 ∨ k = 13 ∨ k = 27 then 1 else 0
def mAr (k : Nat) : Prop := 1 ≤ k ∧ k < 36 ∧ k ≠ 3 ∧ k ≠ 4 ∧ k ≠ 20
def moF (d N : Nat) (M : SX) : List Value := [.int (nI N), .ref (mA d 1), .ref (mA d 2), .int (M 3 0), .int (M 4 0), .ref (mA d 5), .ref (mA d 6), .ref (mA d 7), .ref (mA d 8), .ref (mA d 9), .ref (mA d 10), .ref (mA d 11), .ref (mA d 12), .ref (mA d 13), .ref (mA d 14), .ref (mA d 15), .ref (mA d 16), .ref (mA d 17), .ref (mA d 18), .ref (mA d 19), .ref (mA d 20), .ref (mA d 21), .ref (mA d 22), .ref (mA d 23), .ref (mA d 24), .ref (mA d 25), .ref (mA d 26), .ref (mA d 27), .ref (mA d 28), .ref (mA d 29), .ref (mA d 30), .ref (mA d 31), .ref (mA d 32), .ref (mA d 33), .ref (mA d 34), .ref (mA d 35)]
def AM (d : Nat) : Nat → Prop := fun a => d ≤ a ∧ a < d + 34
def RepM (g : GX) (d N : Nat) (M : SX) (G : FX) (H : Heap) : Prop :=
  va_at g.1 vwCl (d, .inr (4, moF d N M)) H ∧ (∀ k, mAr k → va_at g.1 vwCl (mA d k, .inl (g.2 (mty k), mlen k, .inl (M k))) H) ∧ va_at g.1 vwCl (mA d 20, .inl (g.2 2, 6, .inr (.inr (.inl G)))) H
theorem mA_in {d k : Nat} (h : mAr k ∨ k = 20) : AM d (mA d k) ∧ mA d k ≠ d := by
  simp only [mAr, mA, AM] at *
  split <;> omega
theorem mA_inj {d k k' : Nat} (h : mAr k ∨ k = 20) (h' : mAr k' ∨ k' = 20) (e : mA d k = mA d k') : k = k' := by
  simp only [mAr, mA] at *
  split at e <;> split at e <;> omega
theorem mlen_le (k : Nat) : mlen k ≤ 100 := by
  unfold mlen
  repeat' split
  all_goals decide
theorem RepM.keep {g : GX} {d N : Nat} {M : SX} {G : FX} {H H1 : Heap} (h : RepM g d N M G H) (oq : ∀ q : Nat, AM d q → H1[q]? = H[q]?) : RepM g d N M G H1 := by
  obtain ⟨r0, r1, r2⟩ := h
  exact ⟨at_eq r0 (oq _ (by simp only [AM]; omega)) rfl, fun k hk => at_eq (r1 k hk) (oq _ (mA_in (Or.inl hk)).1) rfl, at_eq r2 (oq _ (mA_in (Or.inr rfl)).1) rfl⟩
section REPM
variable {p : Program} {l : Launch} {e : Env} {R : Room} {s : State} {m : MethodId} {args : Array Value} {below : List Frame} {meth : Method} {c : Code} {H H0 : Heap} {locs : List Loc} {cells slots : Nat} {Q : State → Prop}
variable {cc : ByteArray} {nL pc index : Nat} {ls : Array Slot} {rest : List Value} {g : GX} {own : String} {d N : Nat} {M : SX} {G : FX}
theorem m_get (C : Cx g p s m args c cc nL own) (hR : RepM g d N M G H) (k : Nat) (hk : k < 36) (hcls : (TX4 k).1 = RX4) (hlink : Cond.fieldLink own index RX4 (TX4 k).2.1 (TX4 k).2.2.1 ∈ tb ∨ Cond.fieldLinkNest own index RX4 (TX4 k).2.1 (TX4 k).2.2.1 RX3 ∈ nb) {v : Value} (hv : (moF d N M)[k]? = some v) (hdg : decode cc pc = .ok (.getfield index, 3))
    (kk : W p l e R s m args below meth c H locs cells slots Q (F0 m (pc + 3) ls (v :: rest))) : W p l e R s m args below meth c H locs cells slots Q (F0 m pc ls (.ref d :: rest)) := gf C in4 rfl hR.1 k hk hcls hlink hv hdg kk
theorem m_put {v : Int32} (C : Cx g p s m args c cc nL own) (hR : RepM g d N M G H) (hS : va_S (AM d) H0 H locs) (k : Nat) (hk : k = 3 ∨ k = 4) (hlink : Cond.fieldLink own index RX4 (TX4 k).2.1 (TX4 k).2.2.1 ∈ tb ∨ Cond.fieldLinkNest own index RX4 (TX4 k).2.1 (TX4 k).2.2.1 RX3 ∈ nb) (hdg : decode cc pc = .ok (.putfield index, 3))
    (kk : ∀ (S1 : SX) (H1 : Heap) (locs1 : List Loc), S1 = up2 M k 0 v → RepM g d N S1 G H1 → va_S (AM d) H0 H1 locs1 → W p l e R s m args below meth c H1 locs1 cells slots Q (F0 m (pc + 3) ls rest)) : W p l e R s m args below meth c H locs cells slots Q (F0 m pc ls (.int v :: .ref d :: rest)) := by
  refine pf C in4 tyX4 tyX4_ok nmX4 rfl hR.1 k (by omega) (by rcases hk with rfl | rfl <;> rfl) (by rcases hk with rfl | rfl <;> rfl) hlink (by rcases hk with rfl | rfl <;> rfl) (by rcases hk with rfl | rfl <;> rfl) (by rcases hk with rfl | rfl <;> exact Nat.le_of_ble_eq_true rfl) hdg fun H1 n e z oq => ?_
  refine kk _ H1 _ rfl ⟨?_, fun i hi => at_eq (hR.2.1 i hi) (oq _ (mA_in (Or.inl hi)).2) (by rw [up2_ff (show i ≠ k by simp only [mAr] at hi; omega)]), at_eq hR.2.2 (oq _ (mA_in (Or.inr rfl)).2) rfl⟩ (hS.put z oq (by simp only [AM]; omega))
  have : (moF d N M).set k (.int v) = moF d N (up2 M k 0 v) := by rcases hk with rfl | rfl <;> simp [moF, up2]
  rw [← this]; exact e
theorem moF_f {j k : Nat} {v : Int32} (h : mAr k) : moF d N M = moF d N (up2 M k j v) := by
  simp only [mAr] at h
  unfold moF
  rw [up2_f (by omega), up2_f (by omega)]
theorem mI_ld {k j : Nat} (C : Cx g p s m args c cc nL own) (hR : RepM g d N M G H) (hk : mAr k) (ht : mty k = 0) (hj : j < mlen k) (hdg : decode cc pc = .ok (.iaload, 1)) (kk : W p l e R s m args below meth c H locs cells slots Q (F0 m (pc + 1) ls (.int (M k j) :: rest))) : W p l e R s m args below meth c H locs cells slots Q (F0 m pc ls (.int (nI j) :: .ref (mA d k) :: rest)) :=
  aI_ld C (by have := hR.2.1 k hk; rw [ht] at this; exact this) hj (mlen_le k) hdg kk
theorem mZ_ld {k j : Nat} (C : Cx g p s m args c cc nL own) (hR : RepM g d N M G H) (hk : mAr k) (ht : mty k = 1) (hj : j < mlen k) (hdg : decode cc pc = .ok (.baload, 1)) (kk : W p l e R s m args below meth c H locs cells slots Q (F0 m (pc + 1) ls (.int (M k j) :: rest))) : W p l e R s m args below meth c H locs cells slots Q (F0 m pc ls (.int (nI j) :: .ref (mA d k) :: rest)) :=
  aZ_ld C (by have := hR.2.1 k hk; rw [ht] at this; exact this) hj (mlen_le k) hdg kk
theorem mF_ld {j : Nat} (C : Cx g p s m args c cc nL own) (hR : RepM g d N M G H) (hj : j < 6) (hdg : decode cc pc = .ok (.faload, 1)) (kk : W p l e R s m args below meth c H locs cells slots Q (F0 m (pc + 1) ls (.float (G j) :: rest))) : W p l e R s m args below meth c H locs cells slots Q (F0 m pc ls (.int (nI j) :: .ref (mA d 20) :: rest)) :=
  aF_ld C hR.2.2 hj (by omega) hdg kk
theorem RepM.st {H1 : Heap} {k j : Nat} {v : Int32} (hR : RepM g d N M G H) (hk : mAr k) (e : va_at g.1 vwCl (mA d k, .inl (g.2 (mty k), mlen k, .inl (upd (M k) j v))) H1) (oq : ∀ q : Nat, q ≠ mA d k → H1[q]? = H[q]?) : RepM g d N (up2 M k j v) G H1 := by
  refine ⟨at_eq hR.1 (oq _ (mA_in (Or.inl hk)).2.symm) (by rw [← moF_f hk]), fun i hi => ?_, at_eq hR.2.2 (oq _ (fun h => ?_)) rfl⟩
  · by_cases hik : i = k
    · subst hik; rw [up2_upd]; exact e
    · exact at_eq (hR.2.1 i hi) (oq _ (fun h => hik (mA_inj (Or.inl hi) (Or.inl hk) h))) (by rw [up2_ff hik])
  · have := mA_inj (Or.inr rfl) (Or.inl hk) h
    simp only [mAr] at hk
    omega
theorem mI_st {k j : Nat} {v : Int32} (C : Cx g p s m args c cc nL own) (hR : RepM g d N M G H) (hS : va_S (AM d) H0 H locs) (hk : mAr k) (ht : mty k = 0) (hj : j < mlen k) (hdg : decode cc pc = .ok (.iastore, 1))
    (kk : ∀ (S1 : SX) (H1 : Heap) (locs1 : List Loc), S1 = up2 M k j v → RepM g d N S1 G H1 → va_S (AM d) H0 H1 locs1 → W p l e R s m args below meth c H1 locs1 cells slots Q (F0 m (pc + 1) ls rest)) : W p l e R s m args below meth c H locs cells slots Q (F0 m pc ls (.int v :: .int (nI j) :: .ref (mA d k) :: rest)) := by
  have h0 := hR.2.1 k hk
  rw [ht] at h0
  refine aI_st C h0 hj (mlen_le k) hdg fun H1 n e z oq => ?_
  exact kk _ H1 _ rfl (hR.st hk (by rw [ht]; exact e) oq) (hS.put z oq (mA_in (Or.inl hk)).1)
theorem mZ_st {k j : Nat} {v : Int32} (C : Cx g p s m args c cc nL own) (hR : RepM g d N M G H) (hS : va_S (AM d) H0 H locs) (hk : mAr k) (ht : mty k = 1) (hj : j < mlen k) (hz : v = 0 ∨ v = 1) (hdg : decode cc pc = .ok (.bastore, 1))
    (kk : ∀ (S1 : SX) (H1 : Heap) (locs1 : List Loc), S1 = up2 M k j v → RepM g d N S1 G H1 → va_S (AM d) H0 H1 locs1 → W p l e R s m args below meth c H1 locs1 cells slots Q (F0 m (pc + 1) ls rest)) : W p l e R s m args below meth c H locs cells slots Q (F0 m pc ls (.int v :: .int (nI j) :: .ref (mA d k) :: rest)) := by
  have h0 := hR.2.1 k hk
  rw [ht] at h0
  refine aZ_st C h0 hj (mlen_le k) hz hdg fun H1 n e z oq => ?_
  exact kk _ H1 _ rfl (hR.st hk (by rw [ht]; exact e) oq) (hS.put z oq (mA_in (Or.inl hk)).1)
theorem mF_st {j : Nat} {v : UInt32} (C : Cx g p s m args c cc nL own) (hR : RepM g d N M G H) (hS : va_S (AM d) H0 H locs) (hj : j < 6) (hdg : decode cc pc = .ok (.fastore, 1))
    (kk : ∀ (G1 : FX) (H1 : Heap) (locs1 : List Loc), G1 = va_up G j v → RepM g d N M G1 H1 → va_S (AM d) H0 H1 locs1 → W p l e R s m args below meth c H1 locs1 cells slots Q (F0 m (pc + 1) ls rest)) : W p l e R s m args below meth c H locs cells slots Q (F0 m pc ls (.float v :: .int (nI j) :: .ref (mA d 20) :: rest)) := by
  refine aF_st C hR.2.2 hj (by omega) hdg fun H1 n e z oq => ?_
  exact kk _ H1 _ rfl ⟨at_eq hR.1 (oq _ (mA_in (Or.inr rfl)).2.symm) rfl, fun i hi => at_eq (hR.2.1 i hi) (oq _ (fun h => by have := mA_inj (Or.inl hi) (Or.inr rfl) h; simp only [mAr] at hi; omega)) rfl, e⟩ (hS.put z oq (mA_in (Or.inr rfl)).1)
end REPM

