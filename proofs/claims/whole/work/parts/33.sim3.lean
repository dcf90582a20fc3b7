section PIECES
variable {N f L : Nat} {S0 M0 S M : SX}
theorem mem_k {k : Nat} (hk : k < L) : mem N f L (wr N (f + k)) := ⟨k, hk, rfl⟩
/-! leaving -/
theorem leave_form {p : Nat} (hp : p < L) (hL : L ≤ 6) (h22 : S 22 f = M 27 f) : ∃ v : Int32, 0 < v ∧ s_X3_leave S f p L = up2 (up2 S 26 f v) 25 f (nI ((p + 1) % L)) ∧ s_X4_leave M f p L = up2 M 31 f v := by
  unfold s_X3_leave s_X4_leave
  rw [h22]
  by_cases h1 : p = L - 1
  · have e : (p + 1) % L = 0 := by rw [show p + 1 = L by omega]; exact Nat.mod_self L
    rw [if_pos h1, if_neg (show ¬ p < L - 1 by omega), e]
    by_cases h2 : M 27 f = 0
    · rw [if_pos h2, if_pos h2]
      exact ⟨nI L, nI_lt (a := 0) (by omega) (by omega), rfl, rfl⟩
    · rw [if_neg h2, if_neg h2]
      exact ⟨nI 1, by decide, rfl, rfl⟩
  · rw [if_neg h1, if_pos (show p < L - 1 by omega), Nat.mod_eq_of_lt (by omega : p + 1 < L)]
    exact ⟨nI 1, by decide, rfl, rfl⟩
theorem leave_sim {p : Nat} (hT : T3 true N f L S0 M0 S M) (hf : f < N) (hp : p < L) (hL : L ≤ 6) (hb : OPB N S M f L) (h30 : M 30 f = nI p) (h27 : S 27 f = 0) (h32 : M 32 f = -1) : T3 true N f L S0 M0 (s_X3_leave S f p L) (s_X4_leave M f p L) ∧ OP N (s_X3_leave S f p L) (s_X4_leave M f p L) f L := by
  obtain ⟨v, hv, e1, e2⟩ := leave_form (S := S) (M := M) hp hL (hT.e (g := 22) rfl hf)
  rw [e1, e2]
  refine ⟨((hT.x (g := 26) (by decide) (by decide)).x (g := 25) (by decide) (by decide)).m (by decide) (by decide), by omega, ?_, p, hp, ?_, ?_, Or.inl ⟨?_, ?_, ?_, ?_⟩⟩
  · obtain ⟨a, b, c⟩ := hb
    refine ⟨?_, ?_, fun k hk => ?_⟩
    · rw [up2_f (by decide), up2_f (by decide)]; exact a
    · rw [up2_f (by decide), up2_f (by decide), up2_f (by decide)]; exact b
    · rw [up2_f (by decide), up2_f (by decide)]; exact c k hk
  · rw [up2_f (by decide)]; exact h30
  · rw [up2_f (by decide), up2_eq, up2_eq]
  · rw [up2_f (by decide), up2_eq]; exact hv
  · rw [up2_eq]
  · rw [up2_f (by decide), up2_f (by decide)]; exact h27
  · rw [up2_f (by decide)]; exact h32
/-! to operate -/
theorem wins_eq (hE : EE N true S M) (hL : L ≤ N) (hf : f < N) : ∀ n i w, w < L → i + n ≤ L → wins N S f n i w = mwins N M f n i w := by
  intro n
  induction n with
  | zero => intro i w _ _; rfl
  | succ n ih =>
    intro i w hw hi
    simp only [wins, mwins]
    have e1 : S 4 (wr N (f + i)) = M 5 (wr N (f + i)) := hE 4 _ rfl (Or.inl rfl) (show _ < N from wr_lt (by omega))
    have e2 : S 4 (wr N (f + w)) = M 5 (wr N (f + w)) := hE 4 _ rfl (Or.inl rfl) (show _ < N from wr_lt (by omega))
    rw [e1, e2]
    exact ih (i + 1) _ (by split <;> omega) (by omega)
theorem rst_T3 (hT : T3 true N f L S0 M0 S M) : ∀ i, i ≤ L → T3 true N f L S0 M0 (rst N S f i) (mrst N M f i) := by
  intro i
  induction i with
  | zero => intro _; exact hT
  | succ i ih =>
    intro hi
    have h := ih (by omega)
    have hm := mem_k (N := N) (f := f) (L := L) (k := i) (by omega)
    simp only [rst, mrst]
    unfold s_X2_resetTimers mrs1
    rw [up2_c (f := 12) (g := 13) (by decide)]
    exact ((((((h.b (g := 6) rfl (by decide) (by decide) rfl).b7 hm rfl).b (g := 8) rfl (by decide) (by decide) rfl).b (g := 9) rfl (by decide) (by decide) rfl).b (g := 10) rfl (by decide) (by decide) rfl).b (g := 11) rfl (by decide) (by decide) rfl).m12 hm
theorem rst_7 (hf : f < N) (hL : L ≤ N) : ∀ i, i ≤ L → ∀ k, k < i → rst N S f i 7 (wr N (f + k)) = nI 0 := by
  intro i
  induction i with
  | zero => intro _ k hk; omega
  | succ i ih =>
    intro hi k hk
    simp only [rst]
    unfold s_X2_resetTimers
    rw [up2_f (by decide), up2_f (by decide), up2_f (by decide), up2_f (by decide)]
    by_cases e : wr N (f + k) = wr N (f + i)
    · rw [e, up2_eq]
    · rw [up2_i e, up2_f (by decide)]
      exact ih (by omega) k (by
        have : k ≠ i := fun q => e (by rw [q])
        omega)
theorem opr_sim (hT : T3 true N f L S0 M0 S M) (hf : f < N) (hL1 : 1 ≤ L) (hL : L ≤ N) (hN : N ≤ 6) (h23 : S 23 f = 0) (h27 : S 27 f = 0) (h32 : M 32 f = -1) :
    T3 true N f L S0 M0 (s_X3_leave (opr N S f L) f (wins N S f (L - 1) 1 0) L) (s_X4_leave (mopr N M f L) f (mwins N M f (L - 1) 1 0) L) ∧ OP N (s_X3_leave (opr N S f L) f (wins N S f (L - 1) 1 0) L) (s_X4_leave (mopr N M f L) f (mwins N M f (L - 1) 1 0) L) f L := by
  have hw := wins_eq hT.1 hL hf (L - 1) 1 0 (by omega) (by omega)
  have hlt : wins N S f (L - 1) 1 0 < L := by have := wins_lt (N := N) (S := S) (f := f) (L - 1) 1 0 (by omega); omega
  rw [← hw]
  have h1 := rst_T3 hT L (Nat.le_refl _)
  refine leave_sim ?_ hf hlt (by omega) ⟨?_, ?_, fun k hk => ?_⟩ ?_ ?_ ?_
  · unfold opr mopr mop
    exact (((h1.x (g := 24) (by decide) (by decide)).x (g := 25) (by decide) (by decide)).m (by decide) (by decide)).m (by decide) (by decide)
  · rw [opr_o (by decide) (by decide) (by decide)]; exact h23
  · unfold opr mopr
    rw [up2_f (by decide), up2_eq, up2_eq, rst_o (by decide), ← hw]
    exact hT.e (g := 4) rfl (show _ < N from wr_lt (by omega))
  · unfold opr
    rw [up2_f (by decide), up2_f (by decide), rst_7 hf hL L (Nat.le_refl _) k hk]
    exact Or.inl rfl
  · unfold mopr mop
    rw [up2_f (by decide), up2_eq, hw]
  · rw [opr_o (by decide) (by decide) (by decide)]; exact h27
  · unfold mopr
    rw [up2_f (by decide), mop_o (by decide) (by decide)]; exact h32
/-! a claim's tick -/
theorem claim_tick (hE : EE N true S M) (hf : f < N) (hL1 : 1 ≤ L) (hL : L ≤ N) (hN : N ≤ 6) (h27 : S 27 f = 0) (h32 : M 32 f = -1) (h23 : 0 < S 23 f) (h29 : M 29 f = 0) (h25 : ∃ p, p < N ∧ S 25 f = nI p) (p : Nat) :
    T3 true N f L S M (s_X3_passClaim S N f p L) (s_X4_tickRing_c M N f L) ∧ ((NOP (s_X3_passClaim S N f p L) (s_X4_tickRing_c M N f L) f L ∧ ∃ p2, p2 < N ∧ s_X3_passClaim S N f p L 25 f = nI p2) ∨ OP N (s_X3_passClaim S N f p L) (s_X4_tickRing_c M N f L) f L) := by
  have e28 : S 23 f = M 28 f := hE 23 f rfl (Or.inl rfl) hf
  unfold s_X3_passClaim s_X4_tickRing_c
  rw [← e28]
  have hT : T3 true N f L S M (up2 S 23 f (S 23 f - nI 1)) (up2 M 28 f (S 23 f - nI 1)) := (T3.rf hE).b23 rfl
  rcases i_dec h23 with h | ⟨h, h2⟩
  · rw [if_pos h, if_pos h]
    have := opr_sim hT hf hL1 hL hN (by rw [up2_eq]; exact h) (by rw [up2_f (by decide)]; exact h27) (by rw [up2_f (by decide)]; exact h32)
    exact ⟨this.1, Or.inr this.2⟩
  · rw [if_neg h, if_neg h]
    refine ⟨hT, Or.inl ⟨⟨?_, ?_, Or.inr ⟨hL1, ?_, ?_⟩⟩, ?_⟩⟩
    · rw [up2_f (by decide)]; exact h27
    · rw [up2_f (by decide)]; exact h32
    · rw [up2_eq]; exact h2
    · rw [up2_f (by decide)]; exact h29
    · rw [up2_f (by decide)]; exact h25
end PIECES
