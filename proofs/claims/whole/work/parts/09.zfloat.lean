/-! floats: a rotation that stays a number -/
def fOK (r : UInt32) : Prop := ∃ (s : Bool) (c : Nat) (q : Int), FP.Core.decode FP.Core.b32 r.toNat = FP.Core.Datum.fin s c q ∧ c * 2 ^ (q + 149).toNat ≤ 2 ^ 180
def rotf (r : UInt32) (x : Int32) : UInt32 := FP.fadd r (FP.fmul (FP.fsub (FP.i2f x) r) 1048576000)
/-! floats: rounding, from the definitions alone -/
section FLT
theorem near_le {U D N : Nat} (hD : 0 < D) (h : U ≤ N * D) : FP.Core.nearest U D ≤ N := by
  have h1 : U / D ≤ N := Nat.div_le_of_le_mul (by rw [Nat.mul_comm]; exact h)
  have h2 : D * (U / D) + U % D = U := Nat.div_add_mod U D
  unfold FP.Core.nearest
  by_cases e : U / D = N
  · have h3 : U % D = 0 := by
      rw [e, Nat.mul_comm] at h2
      omega
    rw [h3, if_pos (by omega)]
    exact h1
  · split
    · exact h1
    · split
      · omega
      · have := Nat.mod_lt (U / D) (show 2 > 0 by decide)
        omega
theorem near_ge {U D N : Nat} (hD : 0 < D) (h : N * D ≤ U) : N ≤ FP.Core.nearest U D := by
  have h1 : N ≤ U / D := (Nat.le_div_iff_mul_le hD).mpr h
  unfold FP.Core.nearest
  split
  · exact h1
  · split <;> omega
theorem near_2 {U D : Nat} (hD : 0 < D) : D * FP.Core.nearest U D ≤ 2 * U := by
  have h2 : D * (U / D) + U % D = U := Nat.div_add_mod U D
  unfold FP.Core.nearest
  split
  · omega
  · next h =>
    have h3 : D ≤ 2 * (U % D) := by omega
    have h4 : D * (U / D + 1) ≤ 2 * U := by rw [Nat.mul_add, Nat.mul_one]; omega
    split
    · exact h4
    · have h5 : U / D % 2 ≤ 1 := by have := Nat.mod_lt (U / D) (show 2 > 0 by decide); omega
      exact Nat.le_trans (Nat.mul_le_mul_left D (Nat.add_le_add_left h5 _)) h4
theorem lead1 {n : Nat} (h : n ≠ 0) : FP.Core.leading n 1 = (n.log2 : Int) := by
  unfold FP.Core.leading
  have h1 : (1 : Nat).log2 = 0 := by decide
  simp only [h1]
  rw [if_pos]
  · simp
  · have := Nat.log2_self_le h
    simpa using this
/-- what rounding to a float gives: at most a power of two that was above, at most twice the number -/
theorem rr32 {s : Bool} {n E K : Nat} (hn : n ≠ 0) (hK : n * 2 ^ E ≤ 2 ^ K) (h51 : 51 ≤ K) (hK2 : K ≤ 290) :
    ∃ (c : Nat) (q : Int), FP.Core.roundRatio FP.Core.b32 s n 1 ((E : Int) - 200) = .fin s c q ∧ c < 2 ^ 24 ∧ -149 ≤ q ∧ q ≤ 104 ∧ (q = -149 ∨ 2 ^ 23 ≤ c) ∧ c * 2 ^ (q + 200).toNat ≤ 2 ^ K ∧ c * 2 ^ (q + 200).toNat ≤ 2 * (n * 2 ^ E) := by
  have hk := Nat.log2_self_le hn
  generalize hkk : n.log2 = k at hk
  have hkE : k + E ≤ K := by
    have : 2 ^ (k + E) ≤ 2 ^ K := Nat.le_trans (by rw [Nat.pow_add]; exact Nat.mul_le_mul_right _ hk) hK
    exact (Nat.pow_le_pow_iff_right (by decide)).mp this
  have hqm : FP.Core.b32.qmin = -149 := by decide
  have hqx : FP.Core.b32.qmax = 104 := by decide
  have hp : FP.Core.b32.p = 24 := rfl
  have htl : FP.Core.b32.tails = 2 ^ 23 := rfl
  obtain ⟨Q, hQ1, hQ2, hQ3⟩ : ∃ Q : Nat, FP.Core.quantum FP.Core.b32 n 1 ((E : Int) - 200) = (Q : Int) - 200 ∧ 51 ≤ Q ∧ (Q = 51 ∨ Q + 23 = k + E) := by
    unfold FP.Core.quantum
    rw [hqm, hp, lead1 hn, hkk]
    rcases Int.le_total (-149) ((k : Int) + ((E : Int) - 200) - (((24 : Nat) : Int) - 1)) with h | h
    · refine ⟨k + E - 23, ?_, ?_, Or.inr ?_⟩
      · rw [Int.max_eq_right h]; omega
      · omega
      · omega
    · refine ⟨51, ?_, by omega, Or.inl rfl⟩
      rw [Int.max_eq_left h]; rfl
  have hQK : Q ≤ K := by omega
  unfold FP.Core.roundRatio
  rw [if_neg hn, hQ1]
  unfold FP.Core.roundAt FP.Core.unitsNum FP.Core.unitsDen
  have e1 : ((E : Int) - 200 - ((Q : Int) - 200)).toNat = E - Q := by omega
  have e2 : ((Q : Int) - 200 - ((E : Int) - 200)).toNat = Q - E := by omega
  rw [e1, e2, Nat.one_mul]
  have hD : 0 < 2 ^ (Q - E) := Nat.pow_pos (by decide)
  have hR : n * 2 ^ (E - Q) * 2 ^ Q = n * 2 ^ E * 2 ^ (Q - E) := by
    rw [Nat.mul_assoc, Nat.mul_assoc, ← Nat.pow_add, ← Nat.pow_add]
    congr 2
    omega
  have hP : 0 < 2 ^ Q := Nat.pow_pos (by decide)
  generalize hU : n * 2 ^ (E - Q) = U at hR
  generalize hX : n * 2 ^ E = X at hR hK
  generalize hDD : 2 ^ (Q - E) = D at hR hD
  have c1 : FP.Core.nearest U D ≤ 2 ^ (K - Q) := by
    refine near_le hD (Nat.le_of_mul_le_mul_right (c := 2 ^ Q) ?_ hP)
    rw [hR, Nat.mul_right_comm, ← Nat.pow_add, Nat.sub_add_cancel hQK]
    exact Nat.mul_le_mul_right _ hK
  have c2 : FP.Core.nearest U D * 2 ^ Q ≤ 2 * X := by
    refine Nat.le_of_mul_le_mul_left (c := D) ?_ hD
    have := Nat.mul_le_mul_right (2 ^ Q) (near_2 (U := U) hD)
    calc D * (FP.Core.nearest U D * 2 ^ Q) = D * FP.Core.nearest U D * 2 ^ Q := (Nat.mul_assoc _ _ _).symm
      _ ≤ 2 * U * 2 ^ Q := this
      _ = 2 * (U * 2 ^ Q) := Nat.mul_assoc _ _ _
      _ = 2 * (X * D) := by rw [hR]
      _ = D * (2 * X) := by rw [Nat.mul_comm X D, Nat.mul_left_comm]
  have c3 : FP.Core.nearest U D * 2 ^ Q ≤ 2 ^ K := by
    have := Nat.mul_le_mul_right (2 ^ Q) c1
    rwa [← Nat.pow_add, Nat.sub_add_cancel hQK] at this
  have c4 : Q = 51 ∨ 2 ^ 23 ≤ FP.Core.nearest U D := by
    rcases hQ3 with h | h
    · exact Or.inl h
    · right
      refine near_ge hD (Nat.le_of_mul_le_mul_right (c := 2 ^ Q) ?_ hP)
      rw [hR, Nat.mul_right_comm, ← Nat.pow_add]
      refine Nat.mul_le_mul_right _ ?_
      rw [← hX, show 23 + Q = k + E by omega, Nat.pow_add]
      exact Nat.mul_le_mul_right _ hk
  generalize FP.Core.nearest U D = cc at *
  unfold FP.Core.settle FP.Core.bound
  rw [hqx, hp, htl]
  have hQ104 : Q ≤ 267 := by omega
  have tq : ((Q : Int) - 200 + 200).toNat = Q := by omega
  have tq1 : ((Q : Int) - 200 + 1 + 200).toNat = Q + 1 := by omega
  by_cases hc : cc < 2 ^ 24
  · rw [if_pos hc, if_pos (by omega)]
    refine ⟨cc, _, rfl, hc, by omega, by omega, ?_, by rw [tq]; exact c3, by rw [tq]; exact c2⟩
    rcases c4 with h | h
    · left; omega
    · exact Or.inr h
  · rw [if_neg hc, if_pos (by omega)]
    have h24 : 2 ^ 23 * 2 ^ (Q + 1) ≤ cc * 2 ^ Q := by
      rw [show 2 ^ 23 * 2 ^ (Q + 1) = 2 ^ 24 * 2 ^ Q by rw [Nat.pow_succ 2 Q]; omega]
      exact Nat.mul_le_mul_right _ (by omega)
    refine ⟨2 ^ 23, _, rfl, by decide, by omega, by omega, Or.inr (Nat.le_refl _), by rw [tq1]; exact Nat.le_trans h24 c3, by rw [tq1]; exact Nat.le_trans h24 c2⟩
/-- a float is read back as it was written -/
theorem rt32 {s : Bool} {c : Nat} {q : Int} (hc : c < 2 ^ 24) (h1 : -149 ≤ q) (h2 : q ≤ 104) (h3 : q = -149 ∨ 2 ^ 23 ≤ c) : FP.Core.encode FP.Core.b32 (.fin s c q) < 2 ^ 32 ∧ FP.Core.decode FP.Core.b32 (FP.Core.encode FP.Core.b32 (.fin s c q)) = .fin s c q := by
  have htl : FP.Core.b32.tails = 8388608 := rfl
  have hex : FP.Core.b32.exps = 256 := rfl
  have hqm : FP.Core.b32.qmin = -149 := by decide
  have hb : s.toNat < 2 ∧ (s.toNat == 1) = s := by cases s <;> decide
  generalize hS : s.toNat = S at hb
  have key : ∀ E T : Nat, E < 256 → T < 8388608 → ((S * 256 + E) * 8388608 + T) < 2 ^ 32 ∧ ((S * 256 + E) * 8388608 + T) % 8388608 = T ∧ ((S * 256 + E) * 8388608 + T) / 8388608 % 256 = E ∧ ((S * 256 + E) * 8388608 + T) / 8388608 / 256 % 2 = S := by
    intro E T hE hT
    have := hb.1
    have a1 : ((S * 256 + E) * 8388608 + T) / 8388608 = S * 256 + E := by omega
    refine ⟨by omega, by omega, by rw [a1]; omega, by rw [a1]; omega⟩
  unfold FP.Core.encode
  simp only
  rw [htl, hqm]
  by_cases h : c < 8388608
  · rw [if_pos h]
    have hq : q = -149 := h3.resolve_right (by omega)
    obtain ⟨k1, k2, k3, k4⟩ := key 0 c (by omega) h
    unfold FP.Core.assemble
    rw [htl, hex, hS]
    refine ⟨k1, ?_⟩
    unfold FP.Core.decode FP.Core.fieldE FP.Core.fieldT FP.Core.fieldS
    rw [htl, hex, hqm, k2, k3, k4, if_neg (by decide), if_pos rfl, hb.2, hq]
  · rw [if_neg h]
    obtain ⟨k1, k2, k3, k4⟩ := key ((q - -149).toNat + 1) (c - 8388608) (by omega) (by omega)
    unfold FP.Core.assemble
    rw [htl, hex, hS]
    refine ⟨k1, ?_⟩
    unfold FP.Core.decode FP.Core.fieldE FP.Core.fieldT FP.Core.fieldS
    rw [htl, hex, hqm, k2, k3, k4, if_neg (by omega), if_neg (by omega), hb.2]
    have e1 : 8388608 + (c - 8388608) = c := by omega
    have e2 : (-149 : Int) + ((((q - -149).toNat + 1 : Nat) : Int) - 1) = q := by omega
    rw [e1, e2]
/-- the number a float is, in units of 2 to the -200 -/
def fv (r : UInt32) (v : Int) : Prop := ∃ (s : Bool) (c : Nat) (q : Int), FP.Core.decode FP.Core.b32 r.toNat = .fin s c q ∧ -149 ≤ q ∧ v = FP.Core.signed s (c * 2 ^ (q + 200).toNat)
theorem sg_abs {s : Bool} {n : Nat} : (FP.Core.signed s n).natAbs = n := by cases s <;> simp [FP.Core.signed]
theorem sg_not {s : Bool} {n : Nat} : FP.Core.signed (!s) n = - FP.Core.signed s n := by cases s <;> simp [FP.Core.signed]
theorem sg_mul {s : Bool} {n k : Nat} : FP.Core.signed s n * (k : Int) = FP.Core.signed s (n * k) := by cases s <;> simp [FP.Core.signed, Int.neg_mul]
theorem dec_q {n c : Nat} {s : Bool} {q : Int} (h : FP.Core.decode FP.Core.b32 n = .fin s c q) : -149 ≤ q := by
  have hqm : FP.Core.b32.qmin = -149 := by decide
  unfold FP.Core.decode at h
  split at h
  · split at h <;> cases h
  · split at h
    · cases h; rw [hqm]; decide
    · next h2 =>
      cases h
      rw [hqm]
      omega
theorem fOK_fv {r : UInt32} (h : fOK r) : ∃ v, fv r v ∧ v.natAbs ≤ 2 ^ 231 := by
  obtain ⟨s, c, q, hd, hb⟩ := h
  have hq := dec_q hd
  refine ⟨_, ⟨s, c, q, hd, hq, rfl⟩, ?_⟩
  rw [sg_abs, show (q + 200).toNat = (q + 149).toNat + 51 by omega, Nat.pow_add, ← Nat.mul_assoc]
  exact Nat.le_trans (Nat.mul_le_mul_right _ hb) (by decide)
theorem fv_fOK {r : UInt32} {v : Int} (h : fv r v) (hb : v.natAbs ≤ 2 ^ 231) : fOK r := by
  obtain ⟨s, c, q, hd, hq, rfl⟩ := h
  refine ⟨s, c, q, hd, ?_⟩
  rw [sg_abs, show (q + 200).toNat = (q + 149).toNat + 51 by omega, Nat.pow_add, ← Nat.mul_assoc] at hb
  exact Nat.le_of_mul_le_mul_right (Nat.le_trans hb (show 2 ^ 231 ≤ 2 ^ 180 * 2 ^ 51 by decide)) (show 0 < 2 ^ 51 by decide)
theorem fv_n {r : UInt32} {v : Int} (h : fv r v) : vf_n32 r := by
  obtain ⟨s, c, q, hd, _, _⟩ := h
  have htl : FP.Core.b32.tails = 8388608 := rfl
  have hex : FP.Core.b32.exps = 256 := rfl
  unfold vf_n32
  rw [UInt32.le_iff_toNat_le, UInt32.toNat_and]
  show r.toNat &&& 2147483647 ≤ 2139095040
  rw [show (2147483647 : Nat) = 2 ^ 31 - 1 from rfl, Nat.and_two_pow_sub_one_eq_mod]
  have hr := r.toNat_lt
  generalize r.toNat = n at *
  unfold FP.Core.decode FP.Core.fieldE FP.Core.fieldT at hd
  rw [htl, hex] at hd
  split at hd
  · split at hd <;> cases hd
  · next h => omega
theorem wr32 {s : Bool} {c : Nat} {q : Int} (hc : c < 2 ^ 24) (h1 : -149 ≤ q) (h2 : q ≤ 104) (h3 : q = -149 ∨ 2 ^ 23 ≤ c) : fv (UInt32.ofNat (FP.Core.encode FP.Core.b32 (.fin s c q))) (FP.Core.signed s (c * 2 ^ (q + 200).toNat)) := by
  obtain ⟨k1, k2⟩ := rt32 (s := s) hc h1 h2 h3
  refine ⟨s, c, q, ?_, h1, rfl⟩
  rw [UInt32.toNat_ofNat_of_lt' (by exact k1)]
  exact k2
theorem rnd32 {s : Bool} {n E K : Nat} (hK : n * 2 ^ E ≤ 2 ^ K) (h51 : 51 ≤ K) (hK2 : K ≤ 290) : ∃ W : Nat, fv (UInt32.ofNat (FP.Core.encode FP.Core.b32 (FP.Core.round FP.Core.b32 (.fin s n ((E : Int) - 200))))) (FP.Core.signed s W) ∧ W ≤ 2 ^ K ∧ W ≤ 2 * (n * 2 ^ E) := by
  unfold FP.Core.round
  simp only
  by_cases hn : n = 0
  · subst hn
    have e : FP.Core.roundRatio FP.Core.b32 s 0 1 ((E : Int) - 200) = .fin s 0 (-149) := by unfold FP.Core.roundRatio; rw [if_pos rfl]; rfl
    rw [e]
    refine ⟨0, ?_, Nat.zero_le _, Nat.zero_le _⟩
    have := wr32 (s := s) (c := 0) (q := -149) (by decide) (by decide) (by decide) (Or.inl rfl)
    rwa [Nat.zero_mul] at this
  · obtain ⟨c, q, e, h1, h2, h3, h4, h5, h6⟩ := rr32 (s := s) hn hK h51 hK2
    rw [e]
    exact ⟨_, wr32 h1 h2 h3 h4, h5, h6⟩
theorem sumD {s t : Bool} {c d K : Nat} {q r : Int} (hq : -149 ≤ q) (hr : -149 ≤ r) {y : Int} (hy : y = FP.Core.signed s (c * 2 ^ (q + 200).toNat) + FP.Core.signed t (d * 2 ^ (r + 200).toNat)) (hK : y.natAbs ≤ 2 ^ K) (h51 : 51 ≤ K) (hK2 : K ≤ 290) :
    ∃ w : Int, fv (UInt32.ofNat (FP.Core.encode FP.Core.b32 (FP.Core.round FP.Core.b32 (FP.Core.exactSum (.fin s c q) (.fin t d r))))) w ∧ w.natAbs ≤ 2 ^ K ∧ (0 ≤ y → 0 ≤ w ∧ w ≤ 2 * y) ∧ (y ≤ 0 → 2 * y ≤ w ∧ w ≤ 0) := by
  unfold FP.Core.exactSum
  simp only
  have hm1 : min q r ≤ q := Int.min_le_left q r
  have hm2 : min q r ≤ r := Int.min_le_right q r
  have hm0 : -149 ≤ min q r := by omega
  generalize min q r = mm at *
  have hV : FP.Core.sumUnits s c q t d r mm * ((2 ^ (mm + 200).toNat : Nat) : Int) = y := by
    unfold FP.Core.sumUnits FP.Core.inUnits
    rw [Int.add_mul, sg_mul, sg_mul, Nat.mul_assoc, ← Nat.pow_add, Nat.mul_assoc, ← Nat.pow_add, hy]
    rw [show (q - mm).toNat + (mm + 200).toNat = (q + 200).toNat by omega, show (r - mm).toNat + (mm + 200).toNat = (r + 200).toNat by omega]
  generalize FP.Core.sumUnits s c q t d r mm = V at hV
  obtain ⟨E, hE, hE2⟩ : ∃ E : Nat, mm = (E : Int) - 200 ∧ (mm + 200).toNat = E := ⟨(mm + 200).toNat, by omega, rfl⟩
  rw [hE2] at hV
  have hab : V.natAbs * 2 ^ E = y.natAbs := by rw [← hV, Int.natAbs_mul, Int.natAbs_natCast]
  rw [hE]
  obtain ⟨W, f1, f2, f3⟩ := rnd32 (s := FP.Core.sumSign s t V) (n := V.natAbs) (E := E) (K := K) (by rw [hab]; exact hK) h51 hK2
  rw [hab] at f3
  have hp : (0 : Int) < ((2 ^ E : Nat) : Int) := by exact_mod_cast Nat.pow_pos (show 0 < 2 by decide)
  refine ⟨_, f1, by rw [sg_abs]; exact f2, fun h0 => ?_, fun h0 => ?_⟩
  · by_cases hz : y = 0
    · have hW : W = 0 := by rw [hz] at f3; simpa using f3
      subst hW
      rw [hz]
      cases FP.Core.sumSign s t V <;> decide
    · have hVp : 0 < V := by
        rcases Int.lt_or_le 0 V with h | h
        · exact h
        · exfalso
          have : V * ((2 ^ E : Nat) : Int) ≤ 0 := Int.mul_nonpos_of_nonpos_of_nonneg h (Int.le_of_lt hp)
          omega
      have hs : FP.Core.sumSign s t V = false := by
        unfold FP.Core.sumSign
        rw [if_neg (by omega)]
        exact decide_eq_false (by omega)
      rw [hs]
      show 0 ≤ ((W : Nat) : Int) ∧ ((W : Nat) : Int) ≤ 2 * y
      omega
  · by_cases hz : y = 0
    · have hW : W = 0 := by rw [hz] at f3; simpa using f3
      subst hW
      rw [hz]
      cases FP.Core.sumSign s t V <;> decide
    · have hVp : V < 0 := by
        rcases Int.lt_or_le V 0 with h | h
        · exact h
        · exfalso
          have : 0 ≤ V * ((2 ^ E : Nat) : Int) := Int.mul_nonneg h (Int.le_of_lt hp)
          omega
      have hs : FP.Core.sumSign s t V = true := by
        unfold FP.Core.sumSign
        rw [if_neg (by omega)]
        exact decide_eq_true hVp
      rw [hs]
      show 2 * y ≤ -((W : Nat) : Int) ∧ -((W : Nat) : Int) ≤ 0
      omega
theorem q25 : FP.Core.decode FP.Core.b32 (1048576000 : UInt32).toNat = .fin false 8388608 (-25) := by decide +kernel
theorem quart {r : UInt32} {v : Int} (h : fv r v) (hv : v.natAbs ≤ 2 ^ 232) : ∃ w : Int, fv (FP.fmul r 1048576000) w ∧ (0 ≤ v → 0 ≤ w ∧ 2 * w ≤ v) ∧ (v ≤ 0 → v ≤ 2 * w ∧ w ≤ 0) := by
  obtain ⟨s, c, q, hd, hq, rfl⟩ := h
  unfold FP.fmul FP.Core.fmul FP.Core.mul
  rw [hd, q25]
  unfold FP.Core.exactProduct
  simp only
  have hs : (s != false) = s := by cases s <;> rfl
  rw [hs]
  obtain ⟨E, hE, hE2⟩ : ∃ E : Nat, q + -25 = (E : Int) - 200 ∧ (q + 200).toNat = E + 25 := ⟨(q + 175).toNat, by omega, by omega⟩
  rw [sg_abs] at hv
  have h4 : c * 2 ^ (q + 200).toNat = 4 * (c * 8388608 * 2 ^ E) := by
    rw [hE2, Nat.pow_add, show (2 : Nat) ^ 25 = 4 * 8388608 by decide]
    generalize (2 : Nat) ^ E = P
    generalize (8388608 : Nat) = t
    ac_rfl
  rw [hE]
  have hX : c * 8388608 * 2 ^ E ≤ 2 ^ 232 := by
    rw [h4] at hv
    generalize (2 : Nat) ^ 232 = B at *
    omega
  obtain ⟨W, f1, f2, f3⟩ := rnd32 (s := s) (n := c * 8388608) (E := E) (K := 232) hX (by decide) (by decide)
  rw [h4]
  generalize c * 8388608 * 2 ^ E = X at *
  refine ⟨_, f1, fun h0 => ?_, fun h0 => ?_⟩
  · cases s with
    | false =>
      simp only [FP.Core.signed] at h0 ⊢
      simp at h0 ⊢
      omega
    | true =>
      simp only [FP.Core.signed] at h0 ⊢
      simp at h0 ⊢
      omega
  · cases s with
    | false =>
      simp only [FP.Core.signed] at h0 ⊢
      simp at h0 ⊢
      omega
    | true =>
      simp only [FP.Core.signed] at h0 ⊢
      simp at h0 ⊢
      omega
theorem of_i (x : Int32) : ∃ v : Int, fv (FP.i2f x) v ∧ v.natAbs ≤ 2 ^ 231 := by
  have h1 := Int32.le_toInt x
  have h2 := Int32.toInt_lt x
  obtain ⟨W, f1, f2, f3⟩ := rnd32 (s := decide (x.toInt < 0)) (n := x.toInt.natAbs) (E := 200) (K := 231) (by
    have : x.toInt.natAbs ≤ 2 ^ 31 := by omega
    exact Nat.le_trans (Nat.mul_le_mul_right _ this) (by decide)) (by decide) (by decide)
  exact ⟨_, f1, by rw [sg_abs]; exact f2⟩
theorem fOK_step {r : UInt32} (h : fOK r) (x : Int32) : vf_n32 (FP.fsub (FP.i2f x) r) ∧ vf_n32 (FP.fmul (FP.fsub (FP.i2f x) r) 1048576000) ∧ vf_n32 (rotf r x) ∧ fOK (rotf r x) := by
  obtain ⟨R, hR, hRb⟩ := fOK_fv h
  obtain ⟨A, hA, hAb⟩ := of_i x
  have h32 : (2 : Nat) ^ 232 = 2 * 2 ^ 231 := by decide
  obtain ⟨D, hD, hDb, hD1, hD2⟩ : ∃ w : Int, fv (FP.fsub (FP.i2f x) r) w ∧ w.natAbs ≤ 2 ^ 232 ∧ (0 ≤ A - R → 0 ≤ w ∧ w ≤ 2 * (A - R)) ∧ (A - R ≤ 0 → 2 * (A - R) ≤ w ∧ w ≤ 0) := by
    obtain ⟨s, c, q, hd, hq, rfl⟩ := hR
    obtain ⟨t, k, u, hd2, hu, rfl⟩ := hA
    have := sumD (s := t) (t := !s) (c := k) (d := c) (q := u) (r := q) (K := 232) hu hq (y := _ - _) (by rw [sg_not]; rfl) (by rw [h32]; generalize (2 : Nat) ^ 231 = B at *; omega) (by decide) (by decide)
    show ∃ w : Int, fv (UInt32.ofNat (FP.Core.encode FP.Core.b32 (FP.Core.round FP.Core.b32 (FP.Core.exactSum (FP.Core.decode FP.Core.b32 (FP.i2f x).toNat) (FP.Core.negate (FP.Core.decode FP.Core.b32 r.toNat)))))) w ∧ _
    rw [hd, hd2]
    exact this
  obtain ⟨Q, hQ, hQ1, hQ2⟩ := quart hD hDb
  have hy : (R + Q).natAbs ≤ 2 ^ 231 := by
    generalize (2 : Nat) ^ 231 = B at *
    rcases Int.le_total 0 (A - R) with h0 | h0
    · have := hD1 h0
      have := hQ1 this.1
      omega
    · have := hD2 h0
      have := hQ2 this.2
      omega
  have hR2 := hR
  obtain ⟨s, c, q, hd, hq, eR⟩ := hR2
  have hQ0 := hQ
  obtain ⟨t, k, u, hd2, hu, eQ⟩ := hQ0
  obtain ⟨w, hw, hwb, _⟩ := sumD (s := s) (t := t) (c := c) (d := k) (q := q) (r := u) (K := 231) hq hu (y := R + Q) (by rw [eR, eQ]) hy (by decide) (by decide)
  have hrot : fv (rotf r x) w := by
    show fv (UInt32.ofNat (FP.Core.encode FP.Core.b32 (FP.Core.round FP.Core.b32 (FP.Core.exactSum (FP.Core.decode FP.Core.b32 r.toNat) (FP.Core.decode FP.Core.b32 (FP.fmul (FP.fsub (FP.i2f x) r) 1048576000).toNat))))) w
    rw [hd, hd2]
    exact hw
  exact ⟨fv_n hD, fv_n hQ, fv_n hrot, fv_fOK hrot hwb⟩
/-! doubles: what is no NaN -/
theorem en64 {s : Bool} {c : Nat} {q : Int} (hc : c < 2 ^ 53) (h2 : q ≤ 971) : FP.Core.encode FP.Core.b64 (.fin s c q) < 2 ^ 64 ∧ (∃ s' c' q', FP.Core.decode FP.Core.b64 (FP.Core.encode FP.Core.b64 (.fin s c q)) = .fin s' c' q' ∧ (c ≠ 0 → c' ≠ 0)) ∧ FP.Core.encode FP.Core.b64 (.fin s c q) % 2 ^ 63 ≤ 9218868437227405312 := by
  have htl : FP.Core.b64.tails = 4503599627370496 := rfl
  have hex : FP.Core.b64.exps = 2048 := rfl
  have hqm : FP.Core.b64.qmin = -1074 := by decide
  have hb : s.toNat < 2 := by cases s <;> decide
  generalize hS : s.toNat = S at hb
  have key : ∀ E T : Nat, E < 2047 → T < 4503599627370496 → ((S * 2048 + E) * 4503599627370496 + T) < 2 ^ 64 ∧ ((S * 2048 + E) * 4503599627370496 + T) % 4503599627370496 = T ∧ ((S * 2048 + E) * 4503599627370496 + T) / 4503599627370496 % 2048 = E ∧ ((S * 2048 + E) * 4503599627370496 + T) % 2 ^ 63 ≤ 9218868437227405312 := by
    intro E T hE hT
    have a1 : ((S * 2048 + E) * 4503599627370496 + T) / 4503599627370496 = S * 2048 + E := by omega
    refine ⟨by omega, by omega, by rw [a1]; omega, by omega⟩
  unfold FP.Core.encode
  simp only
  rw [htl, hqm]
  by_cases h : c < 4503599627370496
  · rw [if_pos h]
    obtain ⟨k1, k2, k3, k4⟩ := key 0 c (by omega) h
    unfold FP.Core.assemble
    rw [htl, hex, hS]
    refine ⟨k1, ?_, k4⟩
    unfold FP.Core.decode FP.Core.fieldE FP.Core.fieldT FP.Core.fieldS
    rw [htl, hex, hqm, k2, k3, if_neg (by decide), if_pos rfl]
    exact ⟨_, _, _, rfl, fun h => h⟩
  · rw [if_neg h]
    obtain ⟨k1, k2, k3, k4⟩ := key ((q - -1074).toNat + 1) (c - 4503599627370496) (by omega) (by omega)
    unfold FP.Core.assemble
    rw [htl, hex, hS]
    refine ⟨k1, ?_, k4⟩
    unfold FP.Core.decode FP.Core.fieldE FP.Core.fieldT FP.Core.fieldS
    rw [htl, hex, hqm, k2, k3, if_neg (by omega), if_neg (by omega)]
    exact ⟨_, _, _, rfl, fun _ => by omega⟩
def fi64 (D : FP.Core.Datum) : Prop := (∃ s c q, D = .fin s c q ∧ c < 2 ^ 53 ∧ q ≤ 971) ∨ ∃ s, D = .inf s
theorem vn64 {n : Nat} (h : n < 2 ^ 64) (h2 : n % 2 ^ 63 ≤ 9218868437227405312) : vf_n64 (UInt64.ofNat n) := by
  unfold vf_n64
  rw [UInt64.le_iff_toNat_le, UInt64.toNat_and, UInt64.toNat_ofNat_of_lt' (by exact h)]
  show n &&& 9223372036854775807 ≤ 9218868437227405312
  rw [show (9223372036854775807 : Nat) = 2 ^ 63 - 1 from rfl, Nat.and_two_pow_sub_one_eq_mod]
  exact h2
theorem nn64 {D : FP.Core.Datum} (h : fi64 D) : vf_n64 (UInt64.ofNat (FP.Core.encode FP.Core.b64 D)) := by
  rcases h with ⟨s, c, q, rfl, hc, hq⟩ | ⟨s, rfl⟩
  · have := en64 (s := s) hc hq
    exact vn64 this.1 this.2.2
  · cases s with
    | false => exact vn64 (n := FP.Core.encode FP.Core.b64 (.inf false)) (by decide +kernel) (by decide +kernel)
    | true => exact vn64 (n := FP.Core.encode FP.Core.b64 (.inf true)) (by decide +kernel) (by decide +kernel)
theorem bd64 {s : Bool} {c : Nat} {q : Int} (hc : c < 2 ^ 53) : fi64 (FP.Core.bound FP.Core.b64 s c q) := by
  have hqx : FP.Core.b64.qmax = 971 := by decide
  unfold FP.Core.bound
  rw [hqx]
  split
  · next h => exact Or.inl ⟨s, c, q, rfl, hc, h⟩
  · exact Or.inr ⟨s, rfl⟩
theorem rr64 {s : Bool} {n d : Nat} {e : Int} : fi64 (FP.Core.roundRatio FP.Core.b64 s n d e) := by
  have hqm : FP.Core.b64.qmin = -1074 := by decide
  have hp : FP.Core.b64.p = 53 := rfl
  have htl : FP.Core.b64.tails = 4503599627370496 := rfl
  unfold FP.Core.roundRatio
  split
  · exact Or.inl ⟨s, 0, _, rfl, by decide, by rw [hqm]; decide⟩
  · unfold FP.Core.roundAt FP.Core.settle
    rw [hp, htl]
    split
    · next h => exact bd64 h
    · exact bd64 (by decide)
theorem i2d_fin (x : Int32) : ∃ s c q, FP.Core.decode FP.Core.b64 (FP.i2d x).toNat = .fin s c q ∧ (¬ x = 0 → c ≠ 0) := by
  have h1 := Int32.le_toInt x
  have h2 := Int32.toInt_lt x
  have hqm : FP.Core.b64.qmin = -1074 := by decide
  have hqx : FP.Core.b64.qmax = 971 := by decide
  have hp : FP.Core.b64.p = 53 := rfl
  have htl : FP.Core.b64.tails = 4503599627370496 := rfl
  have key : ∃ c q, FP.Core.round FP.Core.b64 (FP.Core.ofInt x.toInt) = .fin (decide (x.toInt < 0)) c q ∧ c < 2 ^ 53 ∧ q ≤ 971 ∧ (¬ x = 0 → c ≠ 0) := by
    unfold FP.Core.round FP.Core.ofInt
    simp only
    generalize decide (x.toInt < 0) = s
    unfold FP.Core.roundRatio
    by_cases hn : x.toInt.natAbs = 0
    · rw [if_pos hn]
      refine ⟨0, _, rfl, by decide, by rw [hqm]; decide, fun h => ?_⟩
      exfalso
      apply h
      rw [← Int32.toInt_inj]
      have : (0 : Int32).toInt = 0 := by decide
      omega
    · rw [if_neg hn]
      generalize hnn : x.toInt.natAbs = n at *
      have hl : n.log2 < 32 := (Nat.log2_lt hn).mpr (by omega)
      have hq : FP.Core.quantum FP.Core.b64 n 1 0 ≤ -1 := by
        unfold FP.Core.quantum
        rw [hqm, hp, lead1 hn]
        omega
      generalize FP.Core.quantum FP.Core.b64 n 1 0 = q at *
      unfold FP.Core.roundAt FP.Core.unitsNum FP.Core.unitsDen
      have e1 : (q - 0).toNat = 0 := by omega
      rw [e1]
      have hge : 1 ≤ FP.Core.nearest (n * 2 ^ (0 - q).toNat) (1 * 2 ^ 0) := near_ge (by decide) (by
        have : 0 < 2 ^ (0 - q).toNat := Nat.pow_pos (by decide)
        have := Nat.mul_pos (Nat.pos_of_ne_zero hn) this
        omega)
      generalize FP.Core.nearest (n * 2 ^ (0 - q).toNat) (1 * 2 ^ 0) = k at *
      unfold FP.Core.settle FP.Core.bound
      rw [hqx, hp, htl]
      split
      · next hk =>
        rw [if_pos (by omega)]
        exact ⟨k, q, rfl, hk, by omega, fun _ => by omega⟩
      · rw [if_pos (by omega)]
        exact ⟨4503599627370496, q + 1, rfl, by decide, by omega, fun _ => by decide⟩
  obtain ⟨c, q, e, hc, hq, h0⟩ := key
  have hd : (FP.i2d x).toNat = FP.Core.encode FP.Core.b64 (.fin (decide (x.toInt < 0)) c q) := by
    show (UInt64.ofNat (FP.Core.encode FP.Core.b64 (FP.Core.round FP.Core.b64 (FP.Core.ofInt x.toInt)))).toNat = _
    rw [e, UInt64.toNat_ofNat_of_lt' (by exact (en64 hc hq).1)]
  rw [hd]
  obtain ⟨s', c', q', a, b⟩ := (en64 (s := decide (x.toInt < 0)) hc hq).2.1
  exact ⟨s', c', q', a, fun h => b (h0 h)⟩
theorem ddiv_ok (a : Int32) {d : Int32} (h : ¬ d = 0) : vf_n64 (FP.ddiv (FP.i2d a) (FP.i2d d)) := by
  obtain ⟨s, c, q, e1, _⟩ := i2d_fin a
  obtain ⟨t, k, r, e2, h2⟩ := i2d_fin d
  show vf_n64 (UInt64.ofNat (FP.Core.encode FP.Core.b64 (FP.Core.quotient FP.Core.b64 (FP.Core.decode FP.Core.b64 (FP.i2d a).toNat) (FP.Core.decode FP.Core.b64 (FP.i2d d).toNat))))
  rw [e1, e2]
  refine nn64 ?_
  unfold FP.Core.quotient
  simp only
  rw [if_neg (h2 h)]
  exact rr64
theorem f2d_ok {v : UInt32} (h : fOK v) : vf_n64 (FP.f2d v) := by
  obtain ⟨s, c, q, e, _⟩ := h
  have hn : FP.Core.fIsNaN v = false := by
    unfold FP.Core.fIsNaN FP.Core.isNaN
    rw [e]
    rfl
  have hf : FP.f2d v = UInt64.ofNat (FP.Core.encode FP.Core.b64 (FP.Core.round FP.Core.b64 (FP.Core.decode FP.Core.b32 v.toNat))) := by
    unfold FP.f2d
    rw [hn]
    rfl
  rw [hf, e]
  exact nn64 rr64
end FLT
