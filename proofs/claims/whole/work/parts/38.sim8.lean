/-! rows of joined stations: apart, and all that are on lie in one -/
section ROWSX
variable {N : Nat} {S S2 M : SX}
theorem pv_wr {a : Nat} (h : a + 1 < 2 * N) : pv N (wr N (a + 1)) = wr N a := by
  unfold pv wr
  split <;> split <;> (try split) <;> omega
theorem wr_self {f : Nat} (h : f < N) : wr N f = f := by unfold wr; rw [if_pos h]
theorem row_run {f : Nat} (hf : f < N) : ∀ n L, 1 ≤ L → L ≤ N → ∀ k, L ≤ k → k < rowN N S n L (wr N (f + (L - 1))) → jn N S (wr N (f + (k - 1))) = true := by
  intro n
  induction n with
  | zero => intro L _ _ k h1 h2; simp only [rowN] at h2; omega
  | succ n ih =>
    intro L hL1 hL k h1 h2
    simp only [rowN] at h2
    by_cases hc : L < N ∧ jn N S (wr N (f + (L - 1))) = true
    · rw [if_pos hc, nx_wr (by omega), show f + (L - 1) + 1 = f + (L + 1 - 1) by omega] at h2
      by_cases e : k = L
      · rw [e]; exact hc.2
      · exact ih (L + 1) (by omega) (by omega) k (by omega) h2
    · rw [if_neg hc] at h2; omega
theorem row_ge {f : Nat} (hf : f < N) : ∀ n L K, 1 ≤ L → L ≤ K → K ≤ N → K - L ≤ n → (∀ k, L ≤ k → k < K → jn N S (wr N (f + (k - 1))) = true) → K ≤ rowN N S n L (wr N (f + (L - 1))) := by
  intro n
  induction n with
  | zero => intro L K h1 h2 h3 h4 _; simp only [rowN]; omega
  | succ n ih =>
    intro L K h1 h2 h3 h4 h5
    simp only [rowN]
    by_cases e : L = K
    · subst e
      split
      · next hc => have := (rowN_le (N := N) (S := S) n (L + 1) (nx N (wr N (f + (L - 1)))) (by omega)).2; omega
      · exact Nat.le_refl _
    · rw [if_pos ⟨by omega, h5 L (Nat.le_refl _) (by omega)⟩, nx_wr (by omega), show f + (L - 1) + 1 = f + (L + 1 - 1) by omega]
      exact ih (L + 1) K (by omega) (by omega) h3 (by omega) (fun k a b => h5 k (by omega) b)
theorem rowL_first {f k : Nat} (h : k < rowL N S f) : ¬ S 2 f = 0 ∧ jn N S (pv N f) = false ∧ k < rowN N S 6 1 f := by
  unfold rowL at h
  split at h
  · omega
  · next h1 =>
    split at h
    · omega
    · next h2 => exact ⟨h1, by cases hh : jn N S (pv N f) with | true => exact absurd hh h2 | false => rfl, h⟩
theorem rowL_run {f k : Nat} (hf : f < N) (h : k + 1 < rowL N S f) : jn N S (wr N (f + k)) = true := by
  have h1 := (rowL_first h).2.2
  exact row_run hf 6 1 (by omega) (by omega) (k + 1) (by omega) (by rw [show wr N (f + (1 - 1)) = f from wr_self hf]; exact h1)
theorem rowL_dis : ∀ k k2 f f2, f < N → f2 < N → k < rowL N S f → k2 < rowL N S f2 → wr N (f + k) = wr N (f2 + k2) → f = f2 := by
  intro k
  induction k with
  | zero =>
    intro k2 f f2 hf hf2 h1 h2 e
    rw [Nat.add_zero, wr_self hf] at e
    cases k2 with
    | zero => rw [Nat.add_zero, wr_self hf2] at e; exact e
    | succ k2 =>
      have h3 := rowL_run hf2 h2
      have hle := rowL_le (N := N) (S := S) (f := f2) (by omega)
      rw [← pv_wr (by omega), Nat.add_assoc, ← e, (rowL_first h1).2.1] at h3
      cases h3
  | succ k ih =>
    intro k2 f f2 hf hf2 h1 h2 e
    have hle := rowL_le (N := N) (S := S) (f := f) (by omega)
    have hle2 := rowL_le (N := N) (S := S) (f := f2) (by omega)
    cases k2 with
    | zero =>
      rw [show f2 + 0 = f2 from rfl, wr_self hf2] at e
      have h3 := rowL_run hf h1
      rw [← pv_wr (by omega), Nat.add_assoc, e, (rowL_first h2).2.1] at h3
      cases h3
    | succ k2 =>
      refine ih k2 f f2 hf hf2 (by omega) (by omega) ?_
      have e2 : pv N (wr N (f + k + 1)) = pv N (wr N (f2 + k2 + 1)) := by rw [Nat.add_assoc, Nat.add_assoc, e]
      rwa [pv_wr (by omega), pv_wr (by omega)] at e2
theorem jn_on {j : Nat} (h : jn N S j = true) : ¬ S 2 j = 0 ∧ ¬ S 2 (nx N j) = 0 := by
  unfold jn at h
  simp only [Bool.and_eq_true, Bool.not_eq_true', beq_eq_false_iff_ne] at h
  exact ⟨h.1, h.2.2⟩
theorem rowL_on {f k : Nat} (hf : f < N) (h : k < rowL N S f) : ¬ S 2 (wr N (f + k)) = 0 := by
  cases k with
  | zero => rw [Nat.add_zero, wr_self hf]; exact (rowL_first h).1
  | succ k =>
    have hle := rowL_le (N := N) (S := S) (f := f) (by omega)
    have := (jn_on (rowL_run hf h)).2
    rwa [nx_wr (by omega)] at this
theorem allj_t : ∀ n, (∀ i, i < n → jn N S i = true) → allj N S n = true := by
  intro n
  induction n with
  | zero => intro _; rfl
  | succ n ih => intro h; simp only [allj]; rw [ih (fun i hi => h i (by omega)), h n (by omega)]; rfl
theorem allj_all {n : Nat} (h : allj N S n = true) : ∀ i, i < n → jn N S i = true := by
  intro i hi
  cases hh : jn N S i with
  | true => rfl
  | false => rw [allj_f hi hh] at h; cases h
theorem wr_sur {f j : Nat} (hf : f < N) (hj : j < N) : ∃ k, k < N ∧ wr N (f + k) = j := by
  rcases Nat.lt_or_ge j f with h | h
  · exact ⟨j + N - f, by omega, by unfold wr; split <;> omega⟩
  · exact ⟨j - f, by omega, by unfold wr; split <;> omega⟩
theorem back {j : Nat} (hj : j < N) (ha : allj N S N = false) : ∀ m, m < N → (∃ f k, f < N ∧ k < N ∧ wr N (f + k) = j ∧ (∀ i, i < k → jn N S (wr N (f + i)) = true) ∧ jn N S (pv N f) = false) ∨ ∃ f, f < N ∧ wr N (f + m) = j ∧ ∀ i, i < m → jn N S (wr N (f + i)) = true := by
  intro m
  induction m with
  | zero => intro _; exact Or.inr ⟨j, hj, wr_self hj, fun i hi => absurd hi (by omega)⟩
  | succ m ih =>
    intro hm
    rcases ih (by omega) with h | ⟨f, hf, e, h⟩
    · exact Or.inl h
    · cases hh : jn N S (pv N f) with
      | false => exact Or.inl ⟨f, m, hf, by omega, e, h, hh⟩
      | true =>
        refine Or.inr ⟨pv N f, pv_lt hf, ?_, fun i hi => ?_⟩
        · rw [← e]; unfold wr pv; split <;> split <;> (try split) <;> omega
        · cases i with
          | zero => rw [Nat.add_zero, wr_self (pv_lt hf)]; exact hh
          | succ i =>
            have : wr N (pv N f + (i + 1)) = wr N (f + i) := by unfold wr pv; split <;> split <;> (try split) <;> omega
            rw [this]; exact h i (by omega)
theorem rowL_cov (hN : N ≤ 6) {j : Nat} (hj : j < N) (ha : allj N S N = false) (hon : ¬ S 2 j = 0) : ∃ f k, f < N ∧ k < rowL N S f ∧ wr N (f + k) = j := by
  have key : ∃ f k, f < N ∧ k < N ∧ wr N (f + k) = j ∧ (∀ i, i < k → jn N S (wr N (f + i)) = true) ∧ jn N S (pv N f) = false := by
    rcases back hj ha (N - 1) (by omega) with h | ⟨f, hf, e, h⟩
    · exact h
    · cases hh : jn N S (pv N f) with
      | false => exact ⟨f, N - 1, hf, by omega, e, h, hh⟩
      | true =>
        exfalso
        have := allj_t (N := N) (S := S) N (fun i hi => by
          obtain ⟨k, hk, ek⟩ := wr_sur (N := N) hf hi
          rw [← ek]
          by_cases e1 : k < N - 1
          · exact h k e1
          · have : wr N (f + k) = pv N f := by
              have : k = N - 1 := by omega
              subst this
              unfold wr pv; split <;> split <;> omega
            rw [this]; exact hh)
        rw [this] at ha; cases ha
  obtain ⟨f, k, hf, hk, e, h, hp⟩ := key
  refine ⟨f, k, hf, ?_, e⟩
  have hfon : ¬ S 2 f = 0 := by
    cases k with
    | zero => rw [Nat.add_zero, wr_self hf] at e; rw [e]; exact hon
    | succ k => have := (jn_on (h 0 (by omega))).1; rwa [Nat.add_zero, wr_self hf] at this
  unfold rowL
  rw [if_neg hfon, if_neg (by rw [hp]; decide)]
  have := row_ge (S := S) hf 6 1 (k + 1) (by omega) (by omega) (by omega) (by omega) (fun i a b => by have := h (i - 1) (by omega); exact this)
  rw [show wr N (f + (1 - 1)) = f from wr_self hf] at this
  omega
theorem fL_dis {k k2 f f2 : Nat} (hf : f < N) (hf2 : f2 < N) (h1 : k < fL N (allj N S N) S f) (h2 : k2 < fL N (allj N S N) S f2) (e : wr N (f + k) = wr N (f2 + k2)) : f = f2 := by
  unfold fL at h1 h2
  cases hh : allj N S N with
  | false => rw [hh] at h1 h2; simp only [if_neg (show ¬ false = true by decide)] at h1 h2; exact rowL_dis k k2 f f2 hf hf2 h1 h2 e
  | true =>
    rw [hh] at h1 h2
    rw [if_pos rfl] at h1 h2
    split at h1
    · split at h2
      · omega
      · omega
    · omega
theorem fL_on {k f : Nat} (hf : f < N) (h1 : k < fL N (allj N S N) S f) : ¬ S 2 (wr N (f + k)) = 0 := by
  unfold fL at h1
  cases hh : allj N S N with
  | false => rw [hh] at h1; simp only [if_neg (show ¬ false = true by decide)] at h1; exact rowL_on hf h1
  | true =>
    rw [hh, if_pos rfl] at h1
    split at h1
    · exact (jn_on (allj_all hh _ (wr_lt (by omega)))).1
    · omega
theorem fL_cov (hN : N ≤ 6) {j : Nat} (hj : j < N) (hon : ¬ S 2 j = 0) : ∃ f k, f < N ∧ k < fL N (allj N S N) S f ∧ wr N (f + k) = j := by
  cases hh : allj N S N with
  | false =>
    obtain ⟨f, k, a, b, c⟩ := rowL_cov hN hj hh hon
    exact ⟨f, k, a, by unfold fL; rw [if_neg (by decide)]; exact b, c⟩
  | true => exact ⟨0, j, by omega, by unfold fL; rw [if_pos rfl, if_pos rfl]; exact hj, by rw [Nat.zero_add]; exact wr_self hj⟩
/-! the same rows in both -/
theorem jn_c (h1 : ∀ k, S2 2 k = S 2 k) (h2 : ∀ k, S2 40 k = S 40 k) (j : Nat) : jn N S2 j = jn N S j := by unfold jn; rw [h1, h1, h2]
theorem rowN_c (h : ∀ j, jn N S2 j = jn N S j) : ∀ n L x, rowN N S2 n L x = rowN N S n L x := by
  intro n
  induction n with
  | zero => intro L x; rfl
  | succ n ih => intro L x; simp only [rowN, h, ih]
theorem fL_c {u : Bool} {i : Nat} (h1 : ∀ k, S2 2 k = S 2 k) (h2 : ∀ k, S2 40 k = S 40 k) : fL N u S2 i = fL N u S i := by
  unfold fL rowL
  rw [h1, jn_c h1 h2, rowN_c (jn_c h1 h2)]
theorem mjn_e (hE : EE N false S M) {j : Nat} (hj : j < N) : mjn N M j = jn N S j := by
  have e1 : ∀ j, j < N → S 2 j = M 1 j := fun j hj => hE 2 j rfl (Or.inr (by decide)) hj
  have e2 : S 40 j = M 2 j := hE 40 j rfl (Or.inr (by decide)) hj
  unfold mjn jn
  rw [e1 j hj, e1 _ (nx_lt hj), e2]
theorem mallj_e (hE : EE N false S M) : ∀ n, n ≤ N → mallj N M n = allj N S n := by
  intro n
  induction n with
  | zero => intro _; rfl
  | succ n ih => intro h; simp only [mallj, allj]; rw [ih (by omega), mjn_e hE (by omega)]
theorem mrowN_e (hE : EE N false S M) : ∀ n L x, x < N → mrowN N M n L x = rowN N S n L x := by
  intro n
  induction n with
  | zero => intro L x _; rfl
  | succ n ih => intro L x hx; simp only [mrowN, rowN, mjn_e hE hx]; rw [ih _ _ (nx_lt hx)]
theorem mln_e (hE : EE N false S M) (hN : N ≤ 6) {u : Bool} {i : Nat} (hi : i < N) (hu : u = true → allj N S N = true) : mln N u M i = fL N u S i ∧ bI (u && mfst N u M i) = fC u i := by
  have e1 : S 2 i = M 1 i := hE 2 i rfl (Or.inr (by decide)) hi
  unfold mln fL fC mfst
  cases u with
  | true =>
    have ha := allj_all (hu rfl)
    simp only [if_pos (rfl : true = true), Bool.true_and]
    by_cases h0 : i = 0
    · subst h0
      simp only [beq_self_eq_true, if_true]
      refine ⟨?_, rfl⟩
      rw [mrowN_e hE 6 1 0 hi]
      have h1 := (rowN_le (N := N) (S := S) 6 1 0 (by omega)).1
      have h2 := row_ge (S := S) hi 6 1 N (by omega) (by omega) (by omega) (by omega) (fun k a b => ha _ (wr_lt (by omega)))
      rw [show wr N (0 + (1 - 1)) = 0 from wr_self hi] at h2
      omega
    · have : (i == 0) = false := beq_false_of_ne h0
      rw [this]
      simp only [if_neg h0]
      exact ⟨rfl, rfl⟩
  | false =>
    simp only [if_neg (show ¬ false = true by decide), Bool.false_and]
    refine ⟨?_, rfl⟩
    unfold rowL
    rw [mjn_e hE (pv_lt hi), ← e1]
    by_cases h0 : S 2 i = 0
    · rw [if_pos h0]
      have : (S 2 i == 0) = true := by rw [h0]; rfl
      rw [this]; rfl
    · rw [if_neg h0]
      have : (S 2 i == 0) = false := beq_false_of_ne h0
      rw [this]
      cases hj : jn N S (pv N i) with
      | true => rfl
      | false => exact mrowN_e hE 6 1 i hi
end ROWSX
