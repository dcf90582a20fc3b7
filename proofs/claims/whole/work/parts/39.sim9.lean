/-! finding the rings, side by side -/
section LOOP
variable {N : Nat} {S M S2 M2 S0 : SX} {f n : Nat}
def RIy (N : Nat) (S M : SX) (f L Lo : Nat) : Prop := (NOP S M f L ∧ ∃ p, p < N ∧ S 25 f = nI p) ∨ (OP N S M f L ∧ L = Lo)
theorem RIy.keep {L Lo : Nat} (h : RIy N S M f L Lo) (hx : ∀ g, 23 ≤ g → g < 30 → S2 g f = S g f) (hy : ∀ g, 29 ≤ g → g < 34 → M2 g f = M g f) (hm : L = Lo → ∀ k, k < L → S2 7 (wr N (f + k)) = S 7 (wr N (f + k)) ∧ M2 12 (wr N (f + k)) = M 12 (wr N (f + k)) ∧ ∀ x, S2 41 (qof (wr N (f + k)) x) = S 41 (qof (wr N (f + k)) x)) : RIy N S2 M2 f L Lo := by
  unfold RIy NOP OP OPB HOP AT SND at *
  simp only [hx 23 (by decide) (by decide), hx 24 (by decide) (by decide), hx 25 (by decide) (by decide), hx 26 (by decide) (by decide), hx 27 (by decide) (by decide), hx 28 (by decide) (by decide), hx 29 (by decide) (by decide), hy 29 (by decide) (by decide), hy 30 (by decide) (by decide), hy 31 (by decide) (by decide), hy 32 (by decide) (by decide), hy 33 (by decide) (by decide)]
  rcases h with h | ⟨⟨h1, ⟨ha, hb, hc⟩, pm, h2, h4, h5, h6⟩, hL⟩
  · exact Or.inl h
  · have hm := hm hL
    refine Or.inr ⟨⟨h1, ⟨ha, hb, fun k hk => ?_⟩, pm, h2, h4, h5, ?_⟩, hL⟩
    · rw [(hm k hk).1]; exact hc k hk
    · rw [(hm pm h2).2.1, (hm pm h2).2.2]; exact h6
theorem sfr_EE (h : EE N false S M) : EE N false (sfr N S f n) M := by
  induction n with
  | zero => exact h
  | succ n ih => exact ih.x3
theorem mro_EE (h : EE N false S M) : EE N false S (mro N M f n) := by
  induction n with
  | zero => exact h
  | succ n ih => exact ih.m34
theorem mfr_EE (h : EE N false S M) : EE N false S (mfr N M f n) := by
  induction n with
  | zero => exact h
  | succ n ih => exact ih.m (by decide)
theorem mrw_EE (h : EE N false S M) : EE N false S (mrw N M f n) := by
  induction n with
  | zero => exact h
  | succ n ih => exact ih.m (by decide)
theorem mr1_EE (h : EE N false S M) : EE N false S (mr1 M n) := by
  induction n with
  | zero => exact h
  | succ n ih => exact ih.m34
theorem sfr_in {k : Nat} (h : k < n) : sfr N S f n 3 (wr N (f + k)) = nI f := by
  induction n with
  | zero => omega
  | succ n ih =>
    simp only [sfr]
    by_cases e : wr N (f + k) = wr N (f + n)
    · rw [e, up2_eq]
    · rw [up2_i e]; exact ih (by
        have : k ≠ n := fun q => e (by rw [q])
        omega)
theorem sfr_out {j : Nat} (h : ¬ mem N f n j) : sfr N S f n 3 j = S 3 j := by
  induction n with
  | zero => rfl
  | succ n ih =>
    simp only [sfr]
    rw [up2_i (fun e => h ⟨n, by omega, e.symm⟩)]
    exact ih (fun ⟨k, a, b⟩ => h ⟨k, by omega, b⟩)
theorem mro_in {k : Nat} (h : k < n) : mro N M f n 34 (wr N (f + k)) = nI f := by
  induction n with
  | zero => omega
  | succ n ih =>
    simp only [mro]
    by_cases e : wr N (f + k) = wr N (f + n)
    · rw [e, up2_eq]
    · rw [up2_i e]; exact ih (by
        have : k ≠ n := fun q => e (by rw [q])
        omega)
theorem mro_out {j : Nat} (h : ¬ mem N f n j) : mro N M f n 34 j = M 34 j := by
  induction n with
  | zero => rfl
  | succ n ih =>
    simp only [mro]
    rw [up2_i (fun e => h ⟨n, by omega, e.symm⟩)]
    exact ih (fun ⟨k, a, b⟩ => h ⟨k, by omega, b⟩)
theorem mrw_in {k : Nat} (h : k < n) : mrw N M f n 26 (6 * f + k) = nI (wr N (f + k)) := by
  induction n with
  | zero => omega
  | succ n ih =>
    simp only [mrw]
    by_cases e : k = n
    · rw [e, up2_eq]
    · rw [up2_i (by omega)]; exact ih (by omega)
theorem mrw_out {j : Nat} (h : ∀ k, k < n → j ≠ 6 * f + k) : mrw N M f n 26 j = M 26 j := by
  induction n with
  | zero => rfl
  | succ n ih =>
    simp only [mrw]
    rw [up2_i (h n (by omega))]
    exact ih (fun k hk => h k (by omega))
theorem mr1_in {k : Nat} (h : k < n) : mr1 M n 34 k = -1 := by
  induction n with
  | zero => omega
  | succ n ih =>
    simp only [mr1]
    by_cases e : k = n
    · rw [e, up2_eq]
    · rw [up2_i e]; exact ih (by omega)
theorem alr_t (h : ∀ k, k < n → M 26 (6 * f + k) = M 35 k) : alr M f n = true := by
  induction n with
  | zero => rfl
  | succ n ih => simp only [alr]; rw [ih (fun k hk => h k (by omega)), h n (by omega)]; simp
theorem lose_step {c : Bool} {Lo : Nat} (hE : EE N c S M) (hQ : QI N S) (hf : f < N) (hN : N ≤ 6) (hLo : Lo ≤ N) (h21 : S 21 f = nI Lo) (hI : RIy N S M f Lo Lo) :
    T3 c N f Lo S M (s_X3_claim S N f (nv (S 25 f)) (nv (S 41 (qS N S f))) Lo) (mclm M f) ∧ s_X3_claim S N f (nv (S 25 f)) (nv (S 41 (qS N S f))) Lo 27 f = 0 ∧ mclm M f 32 f = -1 ∧ mclm M f 29 f = 0 ∧ (∃ p, p < N ∧ s_X3_claim S N f (nv (S 25 f)) (nv (S 41 (qS N S f))) Lo 25 f = nI p) ∧ QI N (s_X3_claim S N f (nv (S 25 f)) (nv (S 41 (qS N S f))) Lo) := by
  have e25 : M 25 f = nI Lo := by rw [← h21]; exact (hE 21 f rfl (Or.inr (by decide)) hf).symm
  unfold mclm
  rw [e25, nv_nI (by omega)]
  have idle : S 27 f = 0 → M 32 f = -1 → (∃ p, p < N ∧ S 25 f = nI p) → T3 c N f Lo S M (s_X3_claim S N f (nv (S 25 f)) (nv (S 41 (qS N S f))) Lo) (if M 32 f = -1 then s_X4_claim_i M f Lo else s_X4_claim_s M f (nv (M 32 f)) (nv (M 21 (nv (M 32 f)))) Lo) ∧ s_X3_claim S N f (nv (S 25 f)) (nv (S 41 (qS N S f))) Lo 27 f = 0 ∧ (if M 32 f = -1 then s_X4_claim_i M f Lo else s_X4_claim_s M f (nv (M 32 f)) (nv (M 21 (nv (M 32 f)))) Lo) 32 f = -1 ∧ (if M 32 f = -1 then s_X4_claim_i M f Lo else s_X4_claim_s M f (nv (M 32 f)) (nv (M 21 (nv (M 32 f)))) Lo) 29 f = 0 ∧ (∃ p, p < N ∧ s_X3_claim S N f (nv (S 25 f)) (nv (S 41 (qS N S f))) Lo 25 f = nI p) ∧ QI N (s_X3_claim S N f (nv (S 25 f)) (nv (S 41 (qS N S f))) Lo) := by
    intro h27 h32 h25
    have e : s_X3_loseFrameBeingSent S N f (nv (S 25 f)) (nv (S 41 (qS N S f))) = S := by unfold s_X3_loseFrameBeingSent; rw [if_pos (by rw [h27]; decide)]
    rw [if_pos h32]
    unfold s_X3_claim s_X4_claim_i
    rw [e]
    refine ⟨(((T3.rf hE).b23 rfl).m (by decide) (by decide)).m (by decide) (by decide), ?_, ?_, ?_, ?_, up_QI hQ (by decide)⟩
    · rw [up2_f (by decide)]; exact h27
    · rw [up2_f (by decide), up2_f (by decide), up2_f (by decide)]; exact h32
    · rw [up2_f (by decide), up2_eq]; rfl
    · rw [up2_f (by decide)]; exact h25
  rcases hI with ⟨⟨n1, n2, _⟩, hp⟩ | ⟨⟨hL1, hb, pm, hpm, h30, h2631, hop⟩, _⟩
  · exact idle n1 n2 hp
  · rcases hop with ⟨p1, p2, p3, p4⟩ | ⟨a1, a2, a3, ⟨p3, p4⟩ | hs⟩
    · exact idle p3 p4 ⟨_, by have := Nat.mod_lt (pm + 1) (show Lo > 0 by omega); omega, p2⟩
    · exact idle p3 p4 ⟨pm, by omega, a2⟩
    · have hs' := hs
      obtain ⟨s1, s2, s3, s4, s5⟩ := hs
      have hjN : wr N (f + pm) < N := wr_lt (by omega)
      have hqN : qof (wr N (f + pm)) (S 28 f) < 2 * N := qof_lt hjN
      have hn32 : ¬ M 32 f = -1 := by rw [s4]; exact nI_nm1 (by omega)
      obtain ⟨z, hz5, hz, _⟩ := hQ.1 _ hqN
      have hm21 : M 21 (qof (wr N (f + pm)) (S 28 f)) = nI z := by rw [← hz]; exact (hE 41 _ rfl (Or.inr (by decide)) hqN).symm
      have hqS : qS N S f = qof (wr N (f + pm)) (S 28 f) := by unfold qS; rw [a2, nv_nI (by omega)]
      rw [if_neg hn32, hqS, a2, nv_nI (show pm < 1000 by omega), s4, nv_nI (by omega), hm21, hz, nv_nI (by omega)]
      have := clm_s_sim (p := pm) (z := z) (T3.rf hE) hf hpm hN hLo hs' hz5 hz
      refine ⟨this.1, this.2.1.1, this.2.1.2.1, ?_, ⟨pm, by omega, ?_⟩, this.2.2.2 hQ⟩
      · rcases this.2.1.2.2 with h | h
        · omega
        · exact h.2.2
      · rw [this.2.2.1]; exact a2
theorem ref0_eq {p z L Lo : Nat} {cl : Int32} : ref0 S N f p z L cl = up2 (up2 (up2 (s_X3_claim S N f p z Lo) 21 f (nI L)) 22 f cl) 23 f (nI (2 * L)) := by
  unfold ref0 s_X3_claim
  rw [up2_c (f := 23) (g := 21) (by decide), up2_c (f := 23) (g := 22) (by decide), up2_2]
theorem claim_7 {p z L g k : Nat} (h : g < 41 ∨ 44 < g) (h1 : g ≠ 18) (h2 : g ≠ 27) (h3 : g ≠ 23) : s_X3_claim S N f p z L g k = S g k := by
  unfold s_X3_claim
  rw [up2_f h3, lose_o h h1 h2]
/-- what one station's turn does -/
theorem arr_step {Lo : Nat} {cl : Int32} (hE : EE N false S M) (hQ : QI N S) (hf : f < N) (hN : N ≤ 6) (hLo : Lo ≤ N) (hn : n ≤ N) (h20 : S 20 f = nI f) (h21 : S 21 f = nI Lo) (hrow : ∀ k, k < Lo → M 26 (6 * f + k) = nI (wr N (f + k))) (hI : RIy N S M f Lo Lo)
    (hS2 : S2 = if n = nv (S 21 f) ∧ cl = S 22 f then S else xRef N S f n cl) (hM2 : M2 = mst1 N (mfr N M f n) f n cl) :
    EE N false S2 M2 ∧ QI N S2 ∧ RIy N S2 M2 f n Lo ∧ S2 20 f = nI f ∧ S2 21 f = nI n ∧ (∀ k, k < n → M2 26 (6 * f + k) = nI (wr N (f + k)))
    ∧ (∀ f2 g, f2 ≠ f → 20 ≤ g → g < 30 → S2 g f2 = S g f2) ∧ (∀ f2 g, f2 ≠ f → 27 ≤ g → g < 34 → M2 g f2 = M g f2) ∧ (∀ f2 k, f2 ≠ f → k < 6 → M2 26 (6 * f2 + k) = M 26 (6 * f2 + k)) ∧ (∀ k, S2 7 k = S 7 k) ∧ (∀ k, M2 12 k = M 12 k) ∧ (∀ j x, j < N → ¬ mem N f Lo j → S2 41 (qof j x) = S 41 (qof j x)) ∧ (∀ g k, g = 2 ∨ g = 40 → S2 g k = S g k)
    ∧ ((n = Lo ∧ ∀ k, S2 3 k = S 3 k) ∨ ((∀ k, k < n → S2 3 (wr N (f + k)) = nI f) ∧ ∀ j, ¬ mem N f n j → S2 3 j = S 3 j)) ∧ (∀ k, k < n → M2 34 (wr N (f + k)) = nI f) ∧ ∀ j, ¬ mem N f n j → M2 34 j = M 34 j := by
  have e21 : S 21 f = M 25 f := hE 21 f rfl (Or.inr (by decide)) hf
  have e22 : S 22 f = M 27 f := hE 22 f rfl (Or.inr (by decide)) hf
  have hnv : nv (S 21 f) = Lo := by rw [h21, nv_nI (by omega)]
  rw [hnv] at hS2
  unfold mst1 at hM2
  by_cases hc : n = Lo ∧ cl = S 22 f
  · rw [if_pos hc] at hS2
    have has : asB (mfr N M f n) f n cl = true := by
      unfold asB
      rw [mfr_o (by decide), mfr_o (by decide), ← e21, ← e22, h21, hc.1, hc.2, alr_t (fun k hk => by rw [mfr_o (by decide), mfr_35 hk]; exact hrow k hk)]
      simp
    rw [if_pos has] at hM2
    obtain ⟨hc1, hc2⟩ := hc
    subst hc1
    rw [hS2, hM2]
    have mo : ∀ {g k : Nat}, g ≠ 34 → g ≠ 35 → mro N (mfr N M f n) f n g k = M g k := fun a b => by rw [mro_o a, mfr_o b]
    refine ⟨mro_EE (mfr_EE hE), hQ, ?_, h20, h21, fun k hk => ?_, fun _ _ _ _ _ => rfl, fun f2 g _ h1 h2 => mo (by omega) (by omega), fun f2 k _ _ => mo (by decide) (by decide), fun _ => rfl, fun k => mo (by decide) (by decide), fun _ _ _ _ => rfl, fun _ _ _ => rfl, Or.inl ⟨rfl, fun _ => rfl⟩, fun k hk => mro_in hk, fun j hj => ?_⟩
    · exact hI.keep (fun _ _ _ => rfl) (fun g a b => mo (by omega) (by omega)) (fun _ k hk => ⟨rfl, mo (by decide) (by decide), fun _ => rfl⟩)
    · rw [mo (by decide) (by decide)]; exact hrow k hk
    · rw [mro_out hj, mfr_o (by decide)]
  · rw [if_neg hc] at hS2
    have has : ¬ asB (mfr N M f n) f n cl = true := by
      intro h
      unfold asB at h
      rw [mfr_o (by decide), mfr_o (by decide), ← e21, ← e22, h21] at h
      simp only [Bool.and_eq_true, beq_iff_eq] at h
      exact hc ⟨(nI_inj (by omega) (by omega) h.1).symm, h.2.1.symm⟩
    rw [if_neg has] at hM2
    have hE1 : EE N false S (mfr N M f n) := mfr_EE hE
    have hI1 : RIy N S (mfr N M f n) f Lo Lo := hI.keep (fun _ _ _ => rfl) (fun g a b => mfr_o (by omega)) (fun _ k hk => ⟨rfl, mfr_o (by decide), fun _ => rfl⟩)
    obtain ⟨hT, l27, l32, l29, ⟨p, hp, l25⟩, lQ⟩ := lose_step hE1 hQ hf hN hLo h21 hI1
    have mf : ∀ {g k : Nat}, g ≠ 35 → mfr N M f n g k = M g k := fun a => mfr_o a
    unfold xRef at hS2
    rw [ref0_eq (Lo := Lo)] at hS2
    unfold mnew at hM2
    have c7 : ∀ {g k : Nat}, (g < 41 ∨ 44 < g) → g ≠ 18 → g ≠ 27 → g ≠ 23 → s_X3_claim S N f (nv (S 25 f)) (nv (S 41 (qS N S f))) Lo g k = S g k := fun a b c d => claim_7 a b c d
    have m12 : ∀ k, mclm (mfr N M f n) f 12 k = M 12 k := fun k => by rw [mclm_o (by decide) (by decide) (by decide) (by decide) (by decide), mf (by decide)]
    have m26 : ∀ k, mclm (mfr N M f n) f 26 k = M 26 k := fun k => by rw [mclm_o (by decide) (by decide) (by decide) (by decide) (by decide), mf (by decide)]
    have m34 : ∀ k, mclm (mfr N M f n) f 34 k = M 34 k := fun k => by rw [mclm_o (by decide) (by decide) (by decide) (by decide) (by decide), mf (by decide)]
    generalize s_X3_claim S N f (nv (S 25 f)) (nv (S 41 (qS N S f))) Lo = S1 at *
    generalize mclm (mfr N M f n) f = M1 at *
    have so : ∀ {g k : Nat}, g ≠ 3 → g ≠ 21 → g ≠ 22 → g ≠ 23 → S2 g k = S1 g k := fun a b c d => by rw [hS2, sfr_o a, up2_f d, up2_f c, up2_f b]
    have mo : ∀ {g k : Nat}, g ≠ 34 → g ≠ 28 → g ≠ 26 → g ≠ 27 → g ≠ 25 → M2 g k = M1 g k := fun a b c d e => by rw [hM2, mro_o a, up2_f b, mrw_o c, up2_f d, up2_f e]
    refine ⟨?_, ?_, Or.inl ⟨⟨?_, ?_, ?_⟩, p, hp, ?_⟩, ?_, ?_, fun k hk => ?_, fun f2 g h h1 h2 => ?_, fun f2 g h h1 h2 => ?_, fun f2 k h hk => ?_, fun k => ?_, fun k => ?_, fun j x hj hm => ?_, fun g k h => ?_, Or.inr ⟨fun k hk => ?_, fun j hj => ?_⟩, fun k hk => ?_, fun j hj => ?_⟩
    · rw [hS2, hM2]
      refine mro_EE (sfr_EE ?_)
      refine EE.up (f := 23) ?_ rfl
      refine mrw_EE ?_
      exact ((hT.1.up (f := 21) rfl).up (f := 22) rfl)
    · refine lQ.o (fun i => so (by decide) (by decide) (by decide) (by decide)) (fun i => so (by decide) (by decide) (by decide) (by decide)) (fun i => so (by decide) (by decide) (by decide) (by decide))
    · rw [so (by decide) (by decide) (by decide) (by decide)]; exact l27
    · rw [mo (by decide) (by decide) (by decide) (by decide) (by decide)]; exact l32
    · have h23 : S2 23 f = nI (2 * n) := by rw [hS2, sfr_o (by decide), up2_eq]
      rw [h23, mo (by decide) (by decide) (by decide) (by decide) (by decide)]
      rcases Nat.eq_zero_or_pos n with h0 | h0
      · exact Or.inl ⟨h0, by rw [h0]; rfl⟩
      · exact Or.inr ⟨h0, pos2 h0 (by omega), l29⟩
    · rw [so (by decide) (by decide) (by decide) (by decide)]; exact l25
    · rw [so (by decide) (by decide) (by decide) (by decide), c7 (by decide) (by decide) (by decide) (by decide)]; exact h20
    · rw [hS2, sfr_o (by decide), up2_f (by decide), up2_f (by decide), up2_eq]
    · rw [hM2, mro_o (by decide), up2_f (by decide)]; exact mrw_in hk
    · have := hT.2.1.1 g f2 h1 h2 h
      rw [hS2, sfr_o (by omega), up2_i h, up2_i h, up2_i h]; exact this
    · rw [hM2, mro_o (by omega), up2_i h, mrw_o (by omega), up2_i h, up2_i h, hT.2.2.1 g f2 (by omega) h2 (by omega) h, mf (by omega)]
    · rw [hM2, mro_o (by decide), up2_f (by decide), mrw_out (fun k2 hk2 => by omega), up2_f (by decide), up2_f (by decide)]
      exact m26 _
    · rw [so (by decide) (by decide) (by decide) (by decide)]; exact c7 (by decide) (by decide) (by decide) (by decide)
    · rw [mo (by decide) (by decide) (by decide) (by decide) (by decide)]; exact m12 k
    · rw [so (by decide) (by decide) (by decide) (by decide)]
      unfold qof
      split
      · exact (hT.2.1.2.2.2 j hj hm).2.2
      · exact (hT.2.1.2.2.2 j hj hm).2.1
    · rw [so (by omega) (by omega) (by omega) (by omega)]; exact c7 (by omega) (by omega) (by omega) (by omega)
    · rw [hS2]; exact sfr_in hk
    · rw [hS2, sfr_out hj, up2_f (by decide), up2_f (by decide), up2_f (by decide)]; exact c7 (by decide) (by decide) (by decide) (by decide)
    · rw [hM2]; exact mro_in hk
    · rw [hM2, mro_out hj, up2_f (by decide), mrw_o (by decide), up2_f (by decide), up2_f (by decide)]; exact m34 j
end LOOP
