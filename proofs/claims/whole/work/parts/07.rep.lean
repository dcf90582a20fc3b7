/-! DualRing's picture: addresses, contents -/
def aSt (b j : Nat) : Nat := b + 4 + 10 * j
def aRg (b j : Nat) : Nat := b + 13 + 10 * j
def aQ (b q : Nat) : Nat := b + 5 + 4 * q + 2 * (q / 2)
def aQA (b q i : Nat) : Nat := b + 5 + 4 * q + 2 * (q / 2) + 1 + i
def obF (b N : Nat) (S : SX) : List Value := [.int (nI N), .ref (b + 1), .ref (b + 2), .ref (b + 3), .int (S 45 0), .int (S 46 0)]
def stF (b : Nat) (S : SX) (Fl : FX) (j : Nat) : List Value := [.ref (aQ b (2 * j)), .ref (aQ b (2 * j + 1)), .int (S 2 j), .int (S 3 j), .int (S 4 j), .int (S 5 j), .int (S 6 j), .int (S 7 j), .int (S 8 j), .int (S 9 j), .int (S 10 j), .int (S 11 j), .int (S 12 j), .float (Fl j), .int (S 14 j), .int (S 15 j), .int (S 16 j), .int (S 17 j), .int (S 18 j)]
def rgF (S : SX) (j : Nat) : List Value := [.int (S 20 j), .int (S 21 j), .int (S 22 j), .int (S 23 j), .int (S 24 j), .int (S 25 j), .int (S 26 j), .int (S 27 j), .int (S 28 j), .int (S 29 j)]
def quF (b : Nat) (S : SX) (q : Nat) : List Value := [.ref (aQA b q 0), .ref (aQA b q 1), .ref (aQA b q 2), .int (S 41 q)]
def quA (S : SX) (q i : Nat) : Nat → Int32 := fun k => if k < 5 then S (42 + i) (5 * q + k) else 0
def AX (b N : Nat) : Nat → Prop := fun a => b ≤ a ∧ a < b + 4 + 10 * N
def RepX (g : GX) (b N : Nat) (S : SX) (Fl : FX) (H : Heap) : Prop :=
  va_at g.1 vwCl (b, .inr (3, obF b N S)) H ∧ va_at g.1 vwCl (b + 1, .inl (g.2 3, N, .inr (.inr (.inr (.inr (fun j => some (aSt b j))))))) H ∧ va_at g.1 vwCl (b + 2, .inl (g.2 1, N, .inl (S 40))) H ∧ va_at g.1 vwCl (b + 3, .inl (g.2 4, N, .inr (.inr (.inr (.inr (fun j => some (aRg b j))))))) H ∧
  (∀ j, j < N → va_at g.1 vwCl (aSt b j, .inr (2, stF b S Fl j)) H) ∧ (∀ j, j < N → va_at g.1 vwCl (aRg b j, .inr (1, rgF S j)) H) ∧ (∀ q, q < 2 * N → va_at g.1 vwCl (aQ b q, .inr (0, quF b S q)) H) ∧ (∀ q i, q < 2 * N → i < 3 → va_at g.1 vwCl (aQA b q i, .inl (g.2 0, 5, .inl (quA S q i))) H)
theorem evod (q : Nat) : ∃ t, q = 2 * t ∨ q = 2 * t + 1 := ⟨q / 2, by omega⟩
theorem neQA_St {b q i j : Nat} (hi : i < 3) : aQA b q i ≠ aSt b j := by
  obtain ⟨t, rfl | rfl⟩ := evod q <;> simp only [aQA, aSt] <;> omega
theorem neQA_Rg {b q i j : Nat} (hi : i < 3) : aQA b q i ≠ aRg b j := by
  obtain ⟨t, rfl | rfl⟩ := evod q <;> simp only [aQA, aRg] <;> omega
theorem neQ_St {b q j : Nat} : aQ b q ≠ aSt b j := by
  obtain ⟨t, rfl | rfl⟩ := evod q <;> simp only [aQ, aSt] <;> omega
theorem neQ_Rg {b q j : Nat} : aQ b q ≠ aRg b j := by
  obtain ⟨t, rfl | rfl⟩ := evod q <;> simp only [aQ, aRg] <;> omega
theorem neQ_QA {b q q' i : Nat} (hi : i < 3) : aQ b q ≠ aQA b q' i := by
  obtain ⟨t, rfl | rfl⟩ := evod q <;> obtain ⟨u, rfl | rfl⟩ := evod q' <;> simp only [aQ, aQA] <;> omega
theorem aQ_inj {b q q' : Nat} (h : aQ b q = aQ b q') : q = q' := by
  obtain ⟨t, rfl | rfl⟩ := evod q <;> obtain ⟨u, rfl | rfl⟩ := evod q' <;> simp only [aQ] at h <;> omega
theorem aQA_inj {b q q' i i' : Nat} (hi : i < 3) (hi' : i' < 3) (h : aQA b q i = aQA b q' i') : q = q' ∧ i = i' := by
  obtain ⟨t, rfl | rfl⟩ := evod q <;> obtain ⟨u, rfl | rfl⟩ := evod q' <;> simp only [aQA] at h <;> omega
theorem in0 : ∀ w ∈ u_ws RX0 TX0 4, w ∈ tb := by
  have h : (u_ws RX0 TX0 4).all (fun w => decide (w ∈ lw_tbl) && goodWord w) = true := by decide +kernel
  exact fun w hw => List.mem_filter.mpr (by have := List.all_eq_true.mp h w hw; simpa using this)
theorem in1 : ∀ w ∈ u_ws RX1 TX1 10, w ∈ tb := by
  have h : (u_ws RX1 TX1 10).all (fun w => decide (w ∈ lw_tbl) && goodWord w) = true := by decide +kernel
  exact fun w hw => List.mem_filter.mpr (by have := List.all_eq_true.mp h w hw; simpa using this)
theorem in2 : ∀ w ∈ u_ws RX2 TX2 19, w ∈ tb := by
  have h : (u_ws RX2 TX2 19).all (fun w => decide (w ∈ lw_tbl) && goodWord w) = true := by decide +kernel
  exact fun w hw => List.mem_filter.mpr (by have := List.all_eq_true.mp h w hw; simpa using this)
theorem in3 : ∀ w ∈ u_ws RX3 TX3 6, w ∈ tb := by
  have h : (u_ws RX3 TX3 6).all (fun w => decide (w ∈ lw_tbl) && goodWord w) = true := by decide +kernel
  exact fun w hw => List.mem_filter.mpr (by have := List.all_eq_true.mp h w hw; simpa using this)
theorem in4 : ∀ w ∈ u_ws RX4 TX4 36, w ∈ tb := by
  have h : (u_ws RX4 TX4 36).all (fun w => decide (w ∈ lw_tbl) && goodWord w) = true := by decide +kernel
  exact fun w hw => List.mem_filter.mpr (by have := List.all_eq_true.mp h w hw; simpa using this)
theorem at_eq {g : GX} {a : Nat} {x y : va_E} {H H1 : Heap} (h : va_at g.1 vwCl (a, x) H) (e : H1[a]? = H[a]?) (hxy : x = y) : va_at g.1 vwCl (a, y) H1 := by
  subst hxy
  exact va_at.kept h e
/-- RepX over another heap: what each cell must hold -/
theorem RepX.put {g : GX} {b N : Nat} {S S1 : SX} {Fl Fl1 : FX} {H H1 : Heap} {a : Nat} (h : RepX g b N S Fl H) (oq : ∀ q : Nat, q ≠ a → H1[q]? = H[q]?)
    (h0 : if a = b then va_at g.1 vwCl (b, .inr (3, obF b N S1)) H1 else obF b N S = obF b N S1)
    (h1 : a ≠ b + 1) (h2 : if a = b + 2 then va_at g.1 vwCl (b + 2, .inl (g.2 1, N, .inl (S1 40))) H1 else S 40 = S1 40) (h3 : a ≠ b + 3)
    (h4 : ∀ j, j < N → if a = aSt b j then va_at g.1 vwCl (aSt b j, .inr (2, stF b S1 Fl1 j)) H1 else stF b S Fl j = stF b S1 Fl1 j)
    (h5 : ∀ j, j < N → if a = aRg b j then va_at g.1 vwCl (aRg b j, .inr (1, rgF S1 j)) H1 else rgF S j = rgF S1 j)
    (h6 : ∀ q, q < 2 * N → if a = aQ b q then va_at g.1 vwCl (aQ b q, .inr (0, quF b S1 q)) H1 else quF b S q = quF b S1 q)
    (h7 : ∀ q i, q < 2 * N → i < 3 → if a = aQA b q i then va_at g.1 vwCl (aQA b q i, .inl (g.2 0, 5, .inl (quA S1 q i))) H1 else quA S q i = quA S1 q i) : RepX g b N S1 Fl1 H1 := by
  obtain ⟨r0, r1, r2, r3, r4, r5, r6, r7⟩ := h
  refine ⟨?_, at_eq r1 (oq _ (Ne.symm h1)) rfl, ?_, at_eq r3 (oq _ (Ne.symm h3)) rfl, fun j hj => ?_, fun j hj => ?_, fun q hq => ?_, fun q i hq hi => ?_⟩
  · by_cases hc : a = b
    · rw [if_pos hc] at h0; exact h0
    · rw [if_neg hc] at h0; exact at_eq r0 (oq _ (Ne.symm hc)) (by rw [h0])
  · by_cases hc : a = b + 2
    · rw [if_pos hc] at h2; exact h2
    · rw [if_neg hc] at h2; exact at_eq r2 (oq _ (Ne.symm hc)) (by rw [h2])
  · have z := h4 j hj
    by_cases hc : a = aSt b j
    · rw [if_pos hc] at z; exact z
    · rw [if_neg hc] at z; exact at_eq (r4 j hj) (oq _ (Ne.symm hc)) (by rw [z])
  · have z := h5 j hj
    by_cases hc : a = aRg b j
    · rw [if_pos hc] at z; exact z
    · rw [if_neg hc] at z; exact at_eq (r5 j hj) (oq _ (Ne.symm hc)) (by rw [z])
  · have z := h6 q hq
    by_cases hc : a = aQ b q
    · rw [if_pos hc] at z; exact z
    · rw [if_neg hc] at z; exact at_eq (r6 q hq) (oq _ (Ne.symm hc)) (by rw [z])
  · have z := h7 q i hq hi
    by_cases hc : a = aQA b q i
    · rw [if_pos hc] at z; exact z
    · rw [if_neg hc] at z; exact at_eq (r7 q i hq hi) (oq _ (Ne.symm hc)) (by rw [z])
theorem RepX.keep {g : GX} {b N : Nat} {S : SX} {Fl : FX} {H H1 : Heap} (h : RepX g b N S Fl H) (oq : ∀ q : Nat, AX b N q → H1[q]? = H[q]?) (hN : 0 < N) : RepX g b N S Fl H1 := by
  obtain ⟨r0, r1, r2, r3, r4, r5, r6, r7⟩ := h
  refine ⟨at_eq r0 (oq _ ?_) rfl, at_eq r1 (oq _ ?_) rfl, at_eq r2 (oq _ ?_) rfl, at_eq r3 (oq _ ?_) rfl, fun j hj => at_eq (r4 j hj) (oq _ ?_) rfl, fun j hj => at_eq (r5 j hj) (oq _ ?_) rfl, fun q hq => at_eq (r6 q hq) (oq _ ?_) rfl, fun q i hq hi => at_eq (r7 q i hq hi) (oq _ ?_) rfl⟩ <;> simp only [AX, aSt, aRg, aQ, aQA] <;> omega
theorem stF_i {b j i k : Nat} {S : SX} {Fl : FX} {v : Int32} (h : i ≠ j) : stF b S Fl i = stF b (up2 S k j v) Fl i := by simp [stF, up2, h]
theorem stF_f {b j i k : Nat} {S : SX} {Fl : FX} {v : Int32} (h : 19 ≤ k) : stF b S Fl i = stF b (up2 S k j v) Fl i := by
  unfold stF
  repeat rw [up2_f (by omega)]
theorem rgF_i {j i k : Nat} {S : SX} {v : Int32} (h : i ≠ j) : rgF S i = rgF (up2 S k j v) i := by simp [rgF, up2, h]
theorem rgF_f {j i k : Nat} {S : SX} {v : Int32} (h : k < 20 ∨ 30 ≤ k) : rgF S i = rgF (up2 S k j v) i := by
  unfold rgF
  repeat rw [up2_f (by omega)]
theorem quF_i {b j i k : Nat} {S : SX} {v : Int32} (h : i ≠ j) : quF b S i = quF b (up2 S k j v) i := by simp [quF, up2, h]
theorem quF_f {b j i k : Nat} {S : SX} {v : Int32} (h : k ≠ 41) : quF b S i = quF b (up2 S k j v) i := by
  unfold quF
  rw [up2_f (Ne.symm h)]
theorem quA_f {j q i k : Nat} {S : SX} {v : Int32} (h : k < 42 ∨ 45 ≤ k) (hi : i < 3) : quA S q i = quA (up2 S k j v) q i := by
  unfold quA
  funext x
  rw [up2_f (by omega)]
theorem obF_f {b N j k : Nat} {S : SX} {v : Int32} (h : k ≠ 45) (h2 : k ≠ 46) : obF b N S = obF b N (up2 S k j v) := by
  unfold obF
  rw [up2_f (Ne.symm h), up2_f (Ne.symm h2)]
theorem s40_f {j k : Nat} {S : SX} {v : Int32} (h : k ≠ 40) : S 40 = up2 S k j v 40 := (up2_ff (Ne.symm h)).symm

theorem stS_2 {b j : Nat} {S : SX} {Fl : FX} {v : Int32} : (stF b S Fl j).set 2 (.int v) = stF b (up2 S 2 j v) Fl j := by simp [stF, up2]
theorem stS_3 {b j : Nat} {S : SX} {Fl : FX} {v : Int32} : (stF b S Fl j).set 3 (.int v) = stF b (up2 S 3 j v) Fl j := by simp [stF, up2]
theorem stS_4 {b j : Nat} {S : SX} {Fl : FX} {v : Int32} : (stF b S Fl j).set 4 (.int v) = stF b (up2 S 4 j v) Fl j := by simp [stF, up2]
theorem stS_5 {b j : Nat} {S : SX} {Fl : FX} {v : Int32} : (stF b S Fl j).set 5 (.int v) = stF b (up2 S 5 j v) Fl j := by simp [stF, up2]
theorem stS_6 {b j : Nat} {S : SX} {Fl : FX} {v : Int32} : (stF b S Fl j).set 6 (.int v) = stF b (up2 S 6 j v) Fl j := by simp [stF, up2]
theorem stS_7 {b j : Nat} {S : SX} {Fl : FX} {v : Int32} : (stF b S Fl j).set 7 (.int v) = stF b (up2 S 7 j v) Fl j := by simp [stF, up2]
theorem stS_8 {b j : Nat} {S : SX} {Fl : FX} {v : Int32} : (stF b S Fl j).set 8 (.int v) = stF b (up2 S 8 j v) Fl j := by simp [stF, up2]
theorem stS_9 {b j : Nat} {S : SX} {Fl : FX} {v : Int32} : (stF b S Fl j).set 9 (.int v) = stF b (up2 S 9 j v) Fl j := by simp [stF, up2]
theorem stS_10 {b j : Nat} {S : SX} {Fl : FX} {v : Int32} : (stF b S Fl j).set 10 (.int v) = stF b (up2 S 10 j v) Fl j := by simp [stF, up2]
theorem stS_11 {b j : Nat} {S : SX} {Fl : FX} {v : Int32} : (stF b S Fl j).set 11 (.int v) = stF b (up2 S 11 j v) Fl j := by simp [stF, up2]
theorem stS_12 {b j : Nat} {S : SX} {Fl : FX} {v : Int32} : (stF b S Fl j).set 12 (.int v) = stF b (up2 S 12 j v) Fl j := by simp [stF, up2]
theorem stS_14 {b j : Nat} {S : SX} {Fl : FX} {v : Int32} : (stF b S Fl j).set 14 (.int v) = stF b (up2 S 14 j v) Fl j := by simp [stF, up2]
theorem stS_15 {b j : Nat} {S : SX} {Fl : FX} {v : Int32} : (stF b S Fl j).set 15 (.int v) = stF b (up2 S 15 j v) Fl j := by simp [stF, up2]
theorem stS_16 {b j : Nat} {S : SX} {Fl : FX} {v : Int32} : (stF b S Fl j).set 16 (.int v) = stF b (up2 S 16 j v) Fl j := by simp [stF, up2]
theorem stS_17 {b j : Nat} {S : SX} {Fl : FX} {v : Int32} : (stF b S Fl j).set 17 (.int v) = stF b (up2 S 17 j v) Fl j := by simp [stF, up2]
theorem stS_18 {b j : Nat} {S : SX} {Fl : FX} {v : Int32} : (stF b S Fl j).set 18 (.int v) = stF b (up2 S 18 j v) Fl j := by simp [stF, up2]
theorem stS_13 {b j : Nat} {S : SX} {Fl : FX} {v : UInt32} : (stF b S Fl j).set 13 (.float v) = stF b S (va_up Fl j v) j := by simp [stF, va_up]
theorem rgS_0 {j : Nat} {S : SX} {v : Int32} : (rgF S j).set 0 (.int v) = rgF (up2 S 20 j v) j := by simp [rgF, up2]
theorem rgS_1 {j : Nat} {S : SX} {v : Int32} : (rgF S j).set 1 (.int v) = rgF (up2 S 21 j v) j := by simp [rgF, up2]
theorem rgS_2 {j : Nat} {S : SX} {v : Int32} : (rgF S j).set 2 (.int v) = rgF (up2 S 22 j v) j := by simp [rgF, up2]
theorem rgS_3 {j : Nat} {S : SX} {v : Int32} : (rgF S j).set 3 (.int v) = rgF (up2 S 23 j v) j := by simp [rgF, up2]
theorem rgS_4 {j : Nat} {S : SX} {v : Int32} : (rgF S j).set 4 (.int v) = rgF (up2 S 24 j v) j := by simp [rgF, up2]
theorem rgS_5 {j : Nat} {S : SX} {v : Int32} : (rgF S j).set 5 (.int v) = rgF (up2 S 25 j v) j := by simp [rgF, up2]
theorem rgS_6 {j : Nat} {S : SX} {v : Int32} : (rgF S j).set 6 (.int v) = rgF (up2 S 26 j v) j := by simp [rgF, up2]
theorem rgS_7 {j : Nat} {S : SX} {v : Int32} : (rgF S j).set 7 (.int v) = rgF (up2 S 27 j v) j := by simp [rgF, up2]
theorem rgS_8 {j : Nat} {S : SX} {v : Int32} : (rgF S j).set 8 (.int v) = rgF (up2 S 28 j v) j := by simp [rgF, up2]
theorem rgS_9 {j : Nat} {S : SX} {v : Int32} : (rgF S j).set 9 (.int v) = rgF (up2 S 29 j v) j := by simp [rgF, up2]
section REPX
variable {p : Program} {l : Launch} {e : Env} {R : Room} {s : State} {m : MethodId} {args : Array Value} {below : List Frame} {meth : Method} {c : Code} {H H0 : Heap} {locs : List Loc} {cells slots : Nat} {Q : State → Prop}
variable {cc : ByteArray} {nL pc index : Nat} {ls : Array Slot} {rest : List Value} {g : GX} {own : String} {b N : Nat} {S : SX} {Fl : FX}
theorem xO_get (C : Cx g p s m args c cc nL own) (hR : RepX g b N S Fl H) (k : Nat) (hk : k < 6) (hcls : (TX3 k).1 = RX3) (hlink : Cond.fieldLink own index RX3 (TX3 k).2.1 (TX3 k).2.2.1 ∈ tb ∨ Cond.fieldLinkNest own index RX3 (TX3 k).2.1 (TX3 k).2.2.1 RX3 ∈ nb) {v : Value} (hv : (obF b N S)[k]? = some v) (hdg : decode cc pc = .ok (.getfield index, 3))
    (kk : W p l e R s m args below meth c H locs cells slots Q (F0 m (pc + 3) ls (v :: rest))) : W p l e R s m args below meth c H locs cells slots Q (F0 m pc ls (.ref b :: rest)) := gf C in3 rfl hR.1 k hk hcls hlink hv hdg kk
theorem xS_get {j : Nat} (C : Cx g p s m args c cc nL own) (hR : RepX g b N S Fl H) (hj : j < N) (k : Nat) (hk : k < 19) (hcls : (TX2 k).1 = RX2) (hlink : Cond.fieldLink own index RX2 (TX2 k).2.1 (TX2 k).2.2.1 ∈ tb ∨ Cond.fieldLinkNest own index RX2 (TX2 k).2.1 (TX2 k).2.2.1 RX3 ∈ nb) {v : Value} (hv : (stF b S Fl j)[k]? = some v) (hdg : decode cc pc = .ok (.getfield index, 3))
    (kk : W p l e R s m args below meth c H locs cells slots Q (F0 m (pc + 3) ls (v :: rest))) : W p l e R s m args below meth c H locs cells slots Q (F0 m pc ls (.ref (aSt b j) :: rest)) := gf C in2 rfl (hR.2.2.2.2.1 j hj) k hk hcls hlink hv hdg kk
theorem xR_get {j : Nat} (C : Cx g p s m args c cc nL own) (hR : RepX g b N S Fl H) (hj : j < N) (k : Nat) (hk : k < 10) (hcls : (TX1 k).1 = RX1) (hlink : Cond.fieldLink own index RX1 (TX1 k).2.1 (TX1 k).2.2.1 ∈ tb ∨ Cond.fieldLinkNest own index RX1 (TX1 k).2.1 (TX1 k).2.2.1 RX3 ∈ nb) {v : Value} (hv : (rgF S j)[k]? = some v) (hdg : decode cc pc = .ok (.getfield index, 3))
    (kk : W p l e R s m args below meth c H locs cells slots Q (F0 m (pc + 3) ls (v :: rest))) : W p l e R s m args below meth c H locs cells slots Q (F0 m pc ls (.ref (aRg b j) :: rest)) := gf C in1 rfl (hR.2.2.2.2.2.1 j hj) k hk hcls hlink hv hdg kk
theorem xQ_get {q : Nat} (C : Cx g p s m args c cc nL own) (hR : RepX g b N S Fl H) (hq : q < 2 * N) (k : Nat) (hk : k < 4) (hcls : (TX0 k).1 = RX0) (hlink : Cond.fieldLink own index RX0 (TX0 k).2.1 (TX0 k).2.2.1 ∈ tb ∨ Cond.fieldLinkNest own index RX0 (TX0 k).2.1 (TX0 k).2.2.1 RX3 ∈ nb) {v : Value} (hv : (quF b S q)[k]? = some v) (hdg : decode cc pc = .ok (.getfield index, 3))
    (kk : W p l e R s m args below meth c H locs cells slots Q (F0 m (pc + 3) ls (v :: rest))) : W p l e R s m args below meth c H locs cells slots Q (F0 m pc ls (.ref (aQ b q) :: rest)) := gf C in0 rfl (hR.2.2.2.2.2.2.1 q hq) k hk hcls hlink hv hdg kk
theorem xS_ald {j : Nat} (C : Cx g p s m args c cc nL own) (hR : RepX g b N S Fl H) (hj : j < N) (hN : N ≤ 6) (hdg : decode cc pc = .ok (.aaload, 1)) (kk : W p l e R s m args below meth c H locs cells slots Q (F0 m (pc + 1) ls (.ref (aSt b j) :: rest))) : W p l e R s m args below meth c H locs cells slots Q (F0 m pc ls (.int (nI j) :: .ref (b + 1) :: rest)) := aQ_ld C hR.2.1 (t := 3) rfl hj (by omega) rfl hdg kk
theorem xR_ald {j : Nat} (C : Cx g p s m args c cc nL own) (hR : RepX g b N S Fl H) (hj : j < N) (hN : N ≤ 6) (hdg : decode cc pc = .ok (.aaload, 1)) (kk : W p l e R s m args below meth c H locs cells slots Q (F0 m (pc + 1) ls (.ref (aRg b j) :: rest))) : W p l e R s m args below meth c H locs cells slots Q (F0 m pc ls (.int (nI j) :: .ref (b + 3) :: rest)) := aQ_ld C hR.2.2.2.1 (t := 4) rfl hj (by omega) rfl hdg kk
theorem xC_ld {j : Nat} (C : Cx g p s m args c cc nL own) (hR : RepX g b N S Fl H) (hj : j < N) (hN : N ≤ 6) (hdg : decode cc pc = .ok (.baload, 1)) (kk : W p l e R s m args below meth c H locs cells slots Q (F0 m (pc + 1) ls (.int (S 40 j) :: rest))) : W p l e R s m args below meth c H locs cells slots Q (F0 m pc ls (.int (nI j) :: .ref (b + 2) :: rest)) := aZ_ld C hR.2.2.1 hj (by omega) hdg kk
theorem xA_ld {q i k : Nat} (C : Cx g p s m args c cc nL own) (hR : RepX g b N S Fl H) (hq : q < 2 * N) (hi : i < 3) (hk : k < 5) {v : Int32} (hv : S (42 + i) (5 * q + k) = v) (hdg : decode cc pc = .ok (.iaload, 1)) (kk : W p l e R s m args below meth c H locs cells slots Q (F0 m (pc + 1) ls (.int v :: rest))) : W p l e R s m args below meth c H locs cells slots Q (F0 m pc ls (.int (nI k) :: .ref (aQA b q i) :: rest)) := aI_ld C (hR.2.2.2.2.2.2.2 q i hq hi) hk (by omega) hdg (by subst hv; simp only [quA, if_pos hk]; exact kk)
theorem xO_put {v : Int32} (C : Cx g p s m args c cc nL own) (hR : RepX g b N S Fl H) (hS : va_S (AX b N) H0 H locs) (k : Nat) (hk : k = 4 ∨ k = 5) (hlink : Cond.fieldLink own index RX3 (TX3 k).2.1 (TX3 k).2.2.1 ∈ tb ∨ Cond.fieldLinkNest own index RX3 (TX3 k).2.1 (TX3 k).2.2.1 RX3 ∈ nb) (hdg : decode cc pc = .ok (.putfield index, 3))
    (kk : ∀ (S1 : SX) (H1 : Heap) (locs1 : List Loc), S1 = up2 S (41 + k) 0 v → RepX g b N S1 Fl H1 → va_S (AX b N) H0 H1 locs1 → W p l e R s m args below meth c H1 locs1 cells slots Q (F0 m (pc + 3) ls rest)) : W p l e R s m args below meth c H locs cells slots Q (F0 m pc ls (.int v :: .ref b :: rest)) := by
  refine pf C in3 tyX3 tyX3_ok nmX3 rfl hR.1 k (by omega) (by rcases hk with rfl | rfl <;> rfl) (by rcases hk with rfl | rfl <;> rfl) hlink (by rcases hk with rfl | rfl <;> rfl) (by rcases hk with rfl | rfl <;> rfl) (by rcases hk with rfl | rfl <;> exact Nat.le_of_ble_eq_true rfl) hdg fun H1 n e z oq => ?_
  refine kk _ H1 _ rfl (hR.put oq ?_ (by omega) ?_ (by omega) ?_ ?_ ?_ ?_) (hS.put z oq (by simp only [AX]; omega))
  · rw [if_pos rfl]
    have : (obF b N S).set k (.int v) = obF b N (up2 S (41 + k) 0 v) := by rcases hk with rfl | rfl <;> simp [obF, up2]
    rw [← this]; exact e
  · rw [if_neg (by omega)]; exact s40_f (by omega)
  · intro j hj; rw [if_neg (by simp only [aSt]; omega)]; exact stF_f (by omega)
  · intro j hj; rw [if_neg (by simp only [aRg]; omega)]; exact rgF_f (by omega)
  · intro q hq; rw [if_neg (by simp only [aQ]; omega)]; exact quF_f (by omega)
  · intro q i hq hi; rw [if_neg (by simp only [aQA]; omega)]; exact quA_f (by omega) hi
theorem xS_put {j : Nat} {v : Int32} (C : Cx g p s m args c cc nL own) (hR : RepX g b N S Fl H) (hS : va_S (AX b N) H0 H locs) (hj : j < N) (k : Nat) (hk : k < 19) (hcls : (TX2 k).1 = RX2) (hfin : (TX2 k).2.2.2 = false) (hlink : Cond.fieldLink own index RX2 (TX2 k).2.1 (TX2 k).2.2.1 ∈ tb ∨ Cond.fieldLinkNest own index RX2 (TX2 k).2.1 (TX2 k).2.2.1 RX3 ∈ nb) (hn : narrow (tyX2 k) (.int v) = .int v) (hfit : fits (tyX2 k) (.int v) = true) (hset : (stF b S Fl j).set k (.int v) = stF b (up2 S k j v) Fl j) (hdg : decode cc pc = .ok (.putfield index, 3))
    (kk : ∀ (S1 : SX) (H1 : Heap) (locs1 : List Loc), S1 = up2 S k j v → RepX g b N S1 Fl H1 → va_S (AX b N) H0 H1 locs1 → W p l e R s m args below meth c H1 locs1 cells slots Q (F0 m (pc + 3) ls rest)) : W p l e R s m args below meth c H locs cells slots Q (F0 m pc ls (.int v :: .ref (aSt b j) :: rest)) := by
  refine pf C in2 tyX2 tyX2_ok nmX2 rfl (hR.2.2.2.2.1 j hj) k hk hcls hfin hlink hn hfit hk hdg fun H1 n e z oq => ?_
  refine kk _ H1 _ rfl (hR.put oq ?_ (by simp only [aSt]; omega) ?_ (by simp only [aSt]; omega) ?_ ?_ ?_ ?_) (hS.put z oq (by simp only [AX, aSt]; omega))
  · rw [if_neg (by simp only [aSt]; omega)]; exact obF_f (by omega) (by omega)
  · rw [if_neg (by simp only [aSt]; omega)]; exact s40_f (by omega)
  · intro i hi
    by_cases hij : i = j
    · subst hij; rw [if_pos rfl, ← hset]; exact e
    · rw [if_neg (by simp only [aSt]; omega)]; exact stF_i hij
  · intro i hi; rw [if_neg (by simp only [aSt, aRg]; omega)]; exact rgF_f (by omega)
  · intro q hq; rw [if_neg neQ_St.symm]; exact quF_f (by omega)
  · intro q i hq hi; rw [if_neg (neQA_St hi).symm]; exact quA_f (by omega) hi
theorem xF_put {j : Nat} {v : UInt32} (C : Cx g p s m args c cc nL own) (hR : RepX g b N S Fl H) (hS : va_S (AX b N) H0 H locs) (hj : j < N) (hlink : Cond.fieldLink own index RX2 (TX2 13).2.1 (TX2 13).2.2.1 ∈ tb ∨ Cond.fieldLinkNest own index RX2 (TX2 13).2.1 (TX2 13).2.2.1 RX3 ∈ nb) (hdg : decode cc pc = .ok (.putfield index, 3))
    (kk : ∀ (F1 : FX) (H1 : Heap) (locs1 : List Loc), F1 = va_up Fl j v → RepX g b N S F1 H1 → va_S (AX b N) H0 H1 locs1 → W p l e R s m args below meth c H1 locs1 cells slots Q (F0 m (pc + 3) ls rest)) : W p l e R s m args below meth c H locs cells slots Q (F0 m pc ls (.float v :: .ref (aSt b j) :: rest)) := by
  refine pf C in2 tyX2 tyX2_ok nmX2 rfl (hR.2.2.2.2.1 j hj) 13 (by decide) rfl rfl hlink rfl rfl (by simp only [stF, List.length]; decide) hdg fun H1 n e z oq => ?_
  refine kk _ H1 _ rfl (hR.put oq ?_ (by simp only [aSt]; omega) ?_ (by simp only [aSt]; omega) ?_ ?_ ?_ ?_) (hS.put z oq (by simp only [AX, aSt]; omega))
  · rw [if_neg (by simp only [aSt]; omega)]
  · rw [if_neg (by simp only [aSt]; omega)]
  · intro i hi
    by_cases hij : i = j
    · subst hij; rw [if_pos rfl, ← stS_13]; exact e
    · rw [if_neg (by simp only [aSt]; omega)]; simp [stF, va_up, hij]
  · intro i hi; rw [if_neg (by simp only [aSt, aRg]; omega)]
  · intro q hq; rw [if_neg neQ_St.symm]
  · intro q i hq hi; rw [if_neg (neQA_St hi).symm]
theorem xR_put {j : Nat} {v : Int32} (C : Cx g p s m args c cc nL own) (hR : RepX g b N S Fl H) (hS : va_S (AX b N) H0 H locs) (hj : j < N) (k : Nat) (hk : k < 10) (hcls : (TX1 k).1 = RX1) (hfin : (TX1 k).2.2.2 = false) (hlink : Cond.fieldLink own index RX1 (TX1 k).2.1 (TX1 k).2.2.1 ∈ tb ∨ Cond.fieldLinkNest own index RX1 (TX1 k).2.1 (TX1 k).2.2.1 RX3 ∈ nb) (hn : narrow (tyX1 k) (.int v) = .int v) (hfit : fits (tyX1 k) (.int v) = true) (hset : (rgF S j).set k (.int v) = rgF (up2 S (20 + k) j v) j) (hdg : decode cc pc = .ok (.putfield index, 3))
    (kk : ∀ (S1 : SX) (H1 : Heap) (locs1 : List Loc), S1 = up2 S (20 + k) j v → RepX g b N S1 Fl H1 → va_S (AX b N) H0 H1 locs1 → W p l e R s m args below meth c H1 locs1 cells slots Q (F0 m (pc + 3) ls rest)) : W p l e R s m args below meth c H locs cells slots Q (F0 m pc ls (.int v :: .ref (aRg b j) :: rest)) := by
  refine pf C in1 tyX1 tyX1_ok nmX1 rfl (hR.2.2.2.2.2.1 j hj) k hk hcls hfin hlink hn hfit hk hdg fun H1 n e z oq => ?_
  refine kk _ H1 _ rfl (hR.put oq ?_ (by simp only [aRg]; omega) ?_ (by simp only [aRg]; omega) ?_ ?_ ?_ ?_) (hS.put z oq (by simp only [AX, aRg]; omega))
  · rw [if_neg (by simp only [aRg]; omega)]; exact obF_f (by omega) (by omega)
  · rw [if_neg (by simp only [aRg]; omega)]; exact s40_f (by omega)
  · intro i hi; rw [if_neg (by simp only [aSt, aRg]; omega)]; exact stF_f (by omega)
  · intro i hi
    by_cases hij : i = j
    · subst hij; rw [if_pos rfl, ← hset]; exact e
    · rw [if_neg (by simp only [aRg]; omega)]; exact rgF_i hij
  · intro q hq; rw [if_neg neQ_Rg.symm]; exact quF_f (by omega)
  · intro q i hq hi; rw [if_neg (neQA_Rg hi).symm]; exact quA_f (by omega) hi
theorem xQ_put {q : Nat} {v : Int32} (C : Cx g p s m args c cc nL own) (hR : RepX g b N S Fl H) (hS : va_S (AX b N) H0 H locs) (hq : q < 2 * N) (hlink : Cond.fieldLink own index RX0 (TX0 3).2.1 (TX0 3).2.2.1 ∈ tb ∨ Cond.fieldLinkNest own index RX0 (TX0 3).2.1 (TX0 3).2.2.1 RX3 ∈ nb) (hdg : decode cc pc = .ok (.putfield index, 3))
    (kk : ∀ (S1 : SX) (H1 : Heap) (locs1 : List Loc), S1 = up2 S 41 q v → RepX g b N S1 Fl H1 → va_S (AX b N) H0 H1 locs1 → W p l e R s m args below meth c H1 locs1 cells slots Q (F0 m (pc + 3) ls rest)) : W p l e R s m args below meth c H locs cells slots Q (F0 m pc ls (.int v :: .ref (aQ b q) :: rest)) := by
  refine pf C in0 tyX0 tyX0_ok nmX0 rfl (hR.2.2.2.2.2.2.1 q hq) 3 (by decide) rfl rfl hlink rfl rfl (by simp only [quF, List.length]; decide) hdg fun H1 n e z oq => ?_
  refine kk _ H1 _ rfl (hR.put oq ?_ (by simp only [aQ]; omega) ?_ (by simp only [aQ]; omega) ?_ ?_ ?_ ?_) (hS.put z oq (by simp only [AX, aQ]; omega))
  · rw [if_neg (by simp only [aQ]; omega)]; exact obF_f (by omega) (by omega)
  · rw [if_neg (by simp only [aQ]; omega)]; exact s40_f (by omega)
  · intro i hi; rw [if_neg neQ_St]; exact stF_f (by omega)
  · intro i hi; rw [if_neg neQ_Rg]; exact rgF_f (by omega)
  · intro i hi
    by_cases hij : i = q
    · subst hij; rw [if_pos rfl]
      have : (quF b S i).set 3 (.int v) = quF b (up2 S 41 i v) i := by simp [quF, up2]
      rw [← this]; exact e
    · rw [if_neg (fun h => hij (aQ_inj h).symm)]; exact quF_i hij
  · intro i k hi hk; rw [if_neg (neQ_QA hk)]; exact quA_f (by omega) hk
theorem xC_st {j : Nat} {v : Int32} (C : Cx g p s m args c cc nL own) (hR : RepX g b N S Fl H) (hS : va_S (AX b N) H0 H locs) (hj : j < N) (hN : N ≤ 6) (hz : v = 0 ∨ v = 1) (hdg : decode cc pc = .ok (.bastore, 1))
    (kk : ∀ (S1 : SX) (H1 : Heap) (locs1 : List Loc), S1 = up2 S 40 j v → RepX g b N S1 Fl H1 → va_S (AX b N) H0 H1 locs1 → W p l e R s m args below meth c H1 locs1 cells slots Q (F0 m (pc + 1) ls rest)) : W p l e R s m args below meth c H locs cells slots Q (F0 m pc ls (.int v :: .int (nI j) :: .ref (b + 2) :: rest)) := by
  refine aZ_st C hR.2.2.1 hj (by omega) hz hdg fun H1 n e z oq => ?_
  refine kk _ H1 _ rfl (hR.put oq ?_ (by omega) ?_ (by omega) ?_ ?_ ?_ ?_) (hS.put z oq (by simp only [AX]; omega))
  · rw [if_neg (by omega)]; exact obF_f (by omega) (by omega)
  · rw [if_pos rfl, up2_upd]; exact e
  · intro i hi; rw [if_neg (by simp only [aSt]; omega)]; exact stF_f (by omega)
  · intro i hi; rw [if_neg (by simp only [aRg]; omega)]; exact rgF_f (by omega)
  · intro i hi; rw [if_neg (by simp only [aQ]; omega)]; exact quF_f (by omega)
  · intro i k hi hk; rw [if_neg (by simp only [aQA]; omega)]; exact quA_f (by omega) hk
theorem xA_st {q i k : Nat} {v : Int32} (C : Cx g p s m args c cc nL own) (hR : RepX g b N S Fl H) (hS : va_S (AX b N) H0 H locs) (hq : q < 2 * N) (hi : i < 3) (hk : k < 5) (hdg : decode cc pc = .ok (.iastore, 1))
    (kk : ∀ (S1 : SX) (H1 : Heap) (locs1 : List Loc), S1 = up2 S (42 + i) (5 * q + k) v → RepX g b N S1 Fl H1 → va_S (AX b N) H0 H1 locs1 → W p l e R s m args below meth c H1 locs1 cells slots Q (F0 m (pc + 1) ls rest)) : W p l e R s m args below meth c H locs cells slots Q (F0 m pc ls (.int v :: .int (nI k) :: .ref (aQA b q i) :: rest)) := by
  refine aI_st C (hR.2.2.2.2.2.2.2 q i hq hi) hk (by omega) hdg fun H1 n e z oq => ?_
  refine kk _ H1 _ rfl (hR.put oq ?_ (by simp only [aQA]; omega) ?_ (by simp only [aQA]; omega) ?_ ?_ ?_ ?_) (hS.put z oq (by simp only [AX, aQA]; omega))
  · rw [if_neg (by simp only [aQA]; omega)]; exact obF_f (by omega) (by omega)
  · rw [if_neg (by simp only [aQA]; omega)]; exact s40_f (by omega)
  · intro j hj; rw [if_neg (neQA_St hi)]; exact stF_f (by omega)
  · intro j hj; rw [if_neg (neQA_Rg hi)]; exact rgF_f (by omega)
  · intro j hj; rw [if_neg (neQ_QA hi).symm]; exact quF_f (by omega)
  · intro q' i' hq' hi'
    by_cases h : q' = q ∧ i' = i
    · obtain ⟨rfl, rfl⟩ := h
      rw [if_pos rfl]
      have : upd (quA S q' i') k v = quA (up2 S (42 + i') (5 * q' + k) v) q' i' := by
        funext x
        by_cases hx : x = k
        · subst hx; simp [upd, quA, up2, hk]
        · simp only [upd, if_neg hx, quA]; rw [up2_i (by omega)]
      rw [← this]; exact e
    · by_cases ha : aQA b q i = aQA b q' i'
      · exact absurd (by have := aQA_inj hi hi' ha; exact ⟨this.1.symm, this.2.symm⟩) h
      · rw [if_neg ha]
        funext x
        simp only [quA]
        by_cases hx5 : x < 5
        · rw [if_pos hx5, if_pos hx5]
          simp only [up2]
          rw [if_neg (by omega)]
        · rw [if_neg hx5, if_neg hx5]
end REPX

