theorem nI_inj {a b : Nat} (ha : a < 1000) (hb : b < 1000) (h : nI a = nI b) : a = b := (nI_eq (by omega) (by omega)).mp h
/-! one ring's step, side by side -/
theorem EE.up' {N : Nat} {c : Bool} {S M : SX} (h : EE N c S M) {f i : Nat} {v w : Int32} (hf : isE f = true) (hv : v = w) : EE N c (up2 S f i v) (up2 M (mpf f) i w) := hv ▸ h.up hf
theorem EE.mm {N : Nat} {c : Bool} {S M : SX} (h : EE N c S M) {f i : Nat} {v : Int32} (hf : isE f = true) (hv : v = M (mpf f) i) : EE N c S (up2 M (mpf f) i v) := by
  rw [hv, up2_self]; exact h
def T3 (c : Bool) (N f L : Nat) (S M S2 M2 : SX) : Prop := EE N c S2 M2 ∧ FrX N f L S S2 ∧ FrM N f L M M2
section T3s
variable {c : Bool} {N f L : Nat} {S M S2 M2 : SX}
theorem T3.x (h : T3 c N f L S M S2 M2) {g : Nat} {v : Int32} (h1 : 24 ≤ g) (h2 : g < 30) : T3 c N f L S M (up2 S2 g f v) M2 := by
  refine ⟨h.1.x ?_, h.2.1.r (by omega) h2, h.2.2⟩
  have : g = 24 ∨ g = 25 ∨ g = 26 ∨ g = 27 ∨ g = 28 ∨ g = 29 := by omega
  rcases this with rfl | rfl | rfl | rfl | rfl | rfl <;> rfl
theorem T3.m (h : T3 c N f L S M S2 M2) {g : Nat} {v : Int32} (h1 : 29 ≤ g) (h2 : g < 34) : T3 c N f L S M S2 (up2 M2 g f v) := by
  refine ⟨h.1.m ?_, h.2.1, h.2.2.r (by omega) h2⟩
  have : g = 29 ∨ g = 30 ∨ g = 31 ∨ g = 32 ∨ g = 33 := by omega
  rcases this with rfl | rfl | rfl | rfl | rfl <;> decide
theorem T3.m12 (h : T3 c N f L S M S2 M2) {i : Nat} {v : Int32} (hi : mem N f L i) : T3 c N f L S M S2 (up2 M2 12 i v) := ⟨h.1.m (by decide), h.2.1, h.2.2.b hi⟩
theorem T3.b (h : T3 c N f L S M S2 M2) {g i : Nat} {v w : Int32} (hg : isE g = true) (h1 : (6 ≤ g ∧ g < 20 ∧ g ≠ 7) ∨ (42 ≤ g ∧ g ≠ 45)) (h2 : (mpf g = 4 ∨ (7 ≤ mpf g ∧ mpf g < 25)) ∧ mpf g ≠ 12) (hv : v = w) : T3 c N f L S M (up2 S2 g i v) (up2 M2 (mpf g) i w) := ⟨h.1.up' hg hv, h.2.1.o h1, h.2.2.o h2⟩
theorem T3.b7 (h : T3 c N f L S M S2 M2) {i : Nat} {v w : Int32} (hi : mem N f L i) (hv : v = w) : T3 c N f L S M (up2 S2 7 i v) (up2 M2 8 i w) := ⟨h.1.up' (f := 7) rfl hv, h.2.1.l hi, h.2.2.o (by decide)⟩
theorem T3.b23 (h : T3 c N f L S M S2 M2) {v w : Int32} (hv : v = w) : T3 c N f L S M (up2 S2 23 f v) (up2 M2 28 f w) := ⟨h.1.up' (f := 23) rfl hv, h.2.1.r (by decide) (by decide), h.2.2.r (by decide) (by decide)⟩
/-- a value written only in the reference, which it has already -/
theorem T3.mm (h : T3 c N f L S M S2 M2) {g i : Nat} {v : Int32} (hv : v = M2 g i) : T3 c N f L S M S2 (up2 M2 g i v) := by
  rw [hv, up2_self]; exact h
theorem T3.rf (h : EE N c S M) : T3 c N f L S M S M := ⟨h, FrX.rf, FrM.rf⟩
theorem T3.e (h : T3 c N f L S M S2 M2) {g i : Nat} (hg : isE g = true) (hd : dm N g i) (h3 : g ≠ 3 := by decide) : S2 g i = M2 (mpf g) i := h.1 g i hg (Or.inr h3) hd
theorem T3.e3 (h : T3 true N f L S M S2 M2) {i : Nat} (hd : i < N) : S2 3 i = M2 34 i := h.1 3 i rfl (Or.inl rfl) hd
theorem T3.rem (h : T3 c N f L S M S2 M2) {j z : Nat} {x : Int32} (hj : mem N f L j) (hz : 1 ≤ z) (hz5 : z ≤ 5) (hjN : j < N) : T3 c N f L S M (s_rem S2 (qof j x) z) (mto M2 f (qof j x) z) := by
  refine ⟨?_, h.2.1.rem hj, h.2.2.sh⟩
  refine EE.m ?_ (by decide)
  unfold s_rem
  rw [if_neg (by omega)]
  have hq : qof j x < 2 * N := qof_lt hjN
  intro g i hg hc hd
  have hE := h.1.up (f := 41) (i := qof j x) (v := nI (z - 1)) rfl
  by_cases h3 : 42 ≤ g ∧ g ≤ 44
  · have hm : mpf g = g - 20 := by
      have : g = 42 ∨ g = 43 ∨ g = 44 := by omega
      rcases this with rfl | rfl | rfl <;> rfl
    have hd' : i < 10 * N := by
      have : g = 42 ∨ g = 43 ∨ g = 44 := by omega
      rcases this with rfl | rfl | rfl <;> exact hd
    unfold shf mshf
    by_cases h4 : 5 * qof j x ≤ i ∧ i < 5 * qof j x + (z - 1)
    · rw [if_pos ⟨h3, h4⟩, if_pos ⟨by omega, h4⟩]
      refine hE g (i + 1) hg hc ?_
      have : g = 42 ∨ g = 43 ∨ g = 44 := by omega
      rcases this with rfl | rfl | rfl
      · show i + 1 < 10 * N; omega
      · show i + 1 < 10 * N; omega
      · show i + 1 < 10 * N; omega
    · rw [if_neg (fun q => h4 q.2), if_neg (fun q => h4 q.2)]
      exact hE g i hg hc hd
  · rw [shf_o (by omega), mshf_o]
    · exact hE g i hg hc hd
    · have := mpf_tab ⟨g, isE_lt hg⟩
      rcases Nat.lt_or_ge (mpf g) 22 with h5 | h5
      · exact Or.inl h5
      · rcases Nat.lt_or_ge 24 (mpf g) with h6 | h6
        · exact Or.inr h6
        · exfalso
          have h7 : mpf g = 22 ∨ mpf g = 23 ∨ mpf g = 24 := by omega
          rcases h7 with h7 | h7 | h7
          · exact h3 (by rw [mpf_inj hg (g := 42) rfl h7]; decide)
          · exact h3 (by rw [mpf_inj hg (g := 43) rfl h7]; decide)
          · exact h3 (by rw [mpf_inj hg (g := 44) rfl h7]; decide)
end T3s
/-! what is kept of each ring -/
def NOP (S M : SX) (f L : Nat) : Prop := S 27 f = 0 ∧ M 32 f = -1 ∧ ((L = 0 ∧ S 23 f = 0) ∨ (1 ≤ L ∧ 0 < S 23 f ∧ M 29 f = 0))
def HOP (S M : SX) (f L pm : Nat) : Prop := 0 < S 26 f ∧ S 25 f = nI ((pm + 1) % L) ∧ S 27 f = 0 ∧ M 32 f = -1
def SND (N : Nat) (S M : SX) (f pm : Nat) : Prop := 0 < S 27 f ∧ S 27 f = M 33 f ∧ (S 28 f = 0 ∨ S 28 f = nI 1) ∧ M 32 f = nI (qof (wr N (f + pm)) (S 28 f)) ∧ ¬ S 41 (qof (wr N (f + pm)) (S 28 f)) = 0
def AT (N : Nat) (S M : SX) (f pm : Nat) : Prop := S 26 f = 0 ∧ S 25 f = nI pm ∧ S 29 f = M 12 (wr N (f + pm)) ∧ ((S 27 f = 0 ∧ M 32 f = -1) ∨ SND N S M f pm)
def OPB (N : Nat) (S M : SX) (f L : Nat) : Prop := S 23 f = 0 ∧ S 24 f = M 29 f ∧ ∀ k, k < L → lok (S 7 (wr N (f + k)))
def OP (N : Nat) (S M : SX) (f L : Nat) : Prop := 1 ≤ L ∧ OPB N S M f L ∧ ∃ pm, pm < L ∧ M 30 f = nI pm ∧ S 26 f = M 31 f ∧ (HOP S M f L pm ∨ AT N S M f pm)
def RF (N : Nat) (S M : SX) (f L : Nat) : Prop := S 20 f = nI f ∧ L ≤ N ∧ S 21 f = nI L ∧ (∀ k, k < L → M 26 (6 * f + k) = nI (wr N (f + k))) ∧ ∀ k, k < L → S 3 (wr N (f + k)) = nI f
def RI (N : Nat) (S M : SX) (f : Nat) : Prop := ∃ L, RF N S M f L ∧ ((NOP S M f L ∧ ∃ p, p < N ∧ S 25 f = nI p) ∨ OP N S M f L)
def QI (N : Nat) (S : SX) : Prop := (∀ q, q < 2 * N → ∃ z, z ≤ 5 ∧ S 41 q = nI z ∧ ∀ k, k < z → 0 < S 43 (5 * q + k)) ∧ ∀ i, i < 10 * N → ∃ t, t < N ∧ S 42 i = nI t
theorem QI.o {N : Nat} {S S2 : SX} (h : QI N S) (h1 : ∀ i, S2 41 i = S 41 i) (h2 : ∀ i, S2 42 i = S 42 i) (h3 : ∀ i, S2 43 i = S 43 i) : QI N S2 :=
  ⟨fun q hq => by simp only [h1, h3]; exact h.1 q hq, fun i hi => by simp only [h2]; exact h.2 i hi⟩
theorem QI.rem {N : Nat} {S : SX} (h : QI N S) {q z : Nat} (hq : q < 2 * N) (hz : z ≤ 5) (h41 : S 41 q = nI z) : QI N (s_rem S q z) := by
  unfold s_rem
  split
  · exact h
  · next h0 =>
    refine ⟨fun q2 hq2 => ?_, shf_IX (by omega) hq (fun k hk => by rw [up2_f (by decide)]; exact h.2 k hk)⟩
    by_cases e : q2 = q
    · subst e
      obtain ⟨z2, h1, h2, h3⟩ := h.1 q2 hq
      have hzz : z2 = z := nI_inj (by omega) (by omega) (h2.symm.trans h41)
      subst hzz
      refine ⟨z2 - 1, by omega, by rw [shf_o (by decide), up2_eq], fun k hk => ?_⟩
      unfold shf
      rw [if_pos (by omega), up2_f (by decide)]
      exact h3 (k + 1) (by omega)
    · obtain ⟨z2, h1, h2, h3⟩ := h.1 q2 hq2
      refine ⟨z2, h1, by rw [shf_o (by decide), up2_i e]; exact h2, fun k hk => ?_⟩
      unfold shf
      rw [if_neg (by omega), up2_f (by decide)]
      exact h3 k hk
/-- another ring is left alone -/
theorem RI.keep {N f f2 L : Nat} {S M S2 M2 : SX} (hf : f < N) (hf2 : f2 < N) (hN : N ≤ 6) (h : RI N S M f2) (hX : FrX N f L S S2) (hM : FrM N f L M M2) (hne : f2 ≠ f) (hm : ∀ k, k < L → S 3 (wr N (f + k)) = nI f) : RI N S2 M2 f2 := by
  obtain ⟨L2, ⟨h20, hL2, h21, h26, h3⟩, h⟩ := h
  have hx : ∀ g, 20 ≤ g → g < 30 → S2 g f2 = S g f2 := fun g a b => hX.1 g f2 a b hne
  have hy : ∀ g, 25 ≤ g → g < 34 → g ≠ 26 → M2 g f2 = M g f2 := fun g a b c => hM.1 g f2 a b c hne
  have hdis : ∀ k, k < L2 → ¬ mem N f L (wr N (f2 + k)) := by
    rintro k hk ⟨k2, hk2, e⟩
    have e1 := hm k2 hk2
    rw [e, h3 k hk] at e1
    exact hne (nI_inj (by omega) (by omega) e1)
  refine ⟨L2, ⟨by rw [hx 20 (by decide) (by decide)]; exact h20, hL2, by rw [hx 21 (by decide) (by decide)]; exact h21, fun k hk => by rw [hM.2.1 26 _ (by omega)]; exact h26 k hk, fun k hk => by rw [hX.m3]; exact h3 k hk⟩, ?_⟩
  unfold NOP OP OPB HOP AT SND at *
  simp only [hx 23 (by decide) (by decide), hx 24 (by decide) (by decide), hx 25 (by decide) (by decide), hx 26 (by decide) (by decide), hx 27 (by decide) (by decide), hx 28 (by decide) (by decide), hx 29 (by decide) (by decide), hy 29 (by decide) (by decide) (by decide), hy 30 (by decide) (by decide) (by decide), hy 31 (by decide) (by decide) (by decide), hy 32 (by decide) (by decide) (by decide), hy 33 (by decide) (by decide) (by decide)]
  rcases h with h | ⟨h1, ⟨ha, hb, hc⟩, pm, h2, h4, h5, h6⟩
  · exact Or.inl h
  · have hq := hdis pm h2
    have hjN : wr N (f2 + pm) < N := wr_lt (by omega)
    have h12 : M2 12 (wr N (f2 + pm)) = M 12 (wr N (f2 + pm)) := hM.2.2.2 _ hjN hq
    have h41 : ∀ x, S2 41 (qof (wr N (f2 + pm)) x) = S 41 (qof (wr N (f2 + pm)) x) := by
      intro x
      unfold qof
      split
      · exact (hX.2.2.2 _ hjN hq).2.2
      · exact (hX.2.2.2 _ hjN hq).2.1
    refine Or.inr ⟨h1, ⟨ha, hb, fun k hk => ?_⟩, pm, h2, h4, h5, ?_⟩
    · rw [(hX.2.2.2 _ (wr_lt (by omega)) (hdis k hk)).1]; exact hc k hk
    · rw [h12, h41]; exact h6
