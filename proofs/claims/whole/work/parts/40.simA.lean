section LV
variable {N : Nat} {S M S0 : SX}
def LV (N : Nat) (S0 : SX) (Lo ln : Nat → Nat) (i : Nat) (S M : SX) : Prop :=
  EE N false S M ∧ QI N S ∧ (∀ g k, g = 2 ∨ g = 40 → S g k = S0 g k) ∧
  (∀ f, f < N → S 20 f = nI f ∧ S 21 f = nI (if f < i then ln f else Lo f) ∧ (∀ k, k < (if f < i then ln f else Lo f) → M 26 (6 * f + k) = nI (wr N (f + k))) ∧ RIy N S M f (if f < i then ln f else Lo f) (Lo f)) ∧
  (∀ f, f < i → ∀ k, k < ln f → S 3 (wr N (f + k)) = nI f ∧ M 34 (wr N (f + k)) = nI f) ∧
  (∀ j, j < N → (∀ f, f < i → ¬ mem N f (ln f) j) → S 3 j = S0 3 j ∧ M 34 j = -1)
theorem allj_c {S2 : SX} (h : ∀ j, jn N S2 j = jn N S j) : ∀ n, allj N S2 n = allj N S n := by
  intro n
  induction n with
  | zero => rfl
  | succ n ih => simp only [allj]; rw [ih, h]
theorem LV_step (hN : N ≤ 6) {Lo : Nat → Nat} (hLo : ∀ f, f < N → Lo f ≤ N) (hdo : ∀ f f2 k k2, f < N → f2 < N → k < Lo f → k2 < Lo f2 → wr N (f + k) = wr N (f2 + k2) → f = f2) (h3 : ∀ f k, f < N → k < Lo f → S0 3 (wr N (f + k)) = nI f) {i : Nat} (hi : i < N)
    (h : LV N S0 Lo (fL N (allj N S0 N) S0) i S M) : LV N S0 Lo (fL N (allj N S0 N) S0) (i + 1) (fstep N (allj N S0 N) S i) (mstep N (allj N S0 N) M i) := by
  obtain ⟨hE, hQ, hc, hr, hin, hout⟩ := h
  have h2 : ∀ k, S 2 k = S0 2 k := fun k => hc 2 k (Or.inl rfl)
  have h40 : ∀ k, S 40 k = S0 40 k := fun k => hc 40 k (Or.inr rfl)
  have hfl : fL N (allj N S0 N) S i = fL N (allj N S0 N) S0 i := fL_c h2 h40
  have hml := mln_e hE hN hi (u := allj N S0 N) (fun q => by rw [allj_c (jn_c h2 h40)]; exact q)
  rw [hfl] at hml
  have hle : ∀ f, fL N (allj N S0 N) S0 f ≤ N := fun f => fL_le (by omega)
  have hdn : ∀ f f2 k k2, f < N → f2 < N → k < fL N (allj N S0 N) S0 f → k2 < fL N (allj N S0 N) S0 f2 → wr N (f + k) = wr N (f2 + k2) → f = f2 := fun f f2 k k2 a b c d e => fL_dis a b c d e
  obtain ⟨r20, r21, r26, rI⟩ := hr i hi
  rw [if_neg (by omega : ¬ i < i)] at r21 r26 rI
  have st := arr_step (n := fL N (allj N S0 N) S0 i) (cl := fC (allj N S0 N) i) hE hQ hi hN (hLo i hi) (hle i) r20 r21 r26 rI (S2 := fstep N (allj N S0 N) S i) (M2 := mstep N (allj N S0 N) M i) (by unfold fstep; rw [hfl]) (by unfold mstep; rw [hml.1, hml.2])
  generalize fstep N (allj N S0 N) S i = S2 at *
  generalize mstep N (allj N S0 N) M i = M2 at *
  generalize fL N (allj N S0 N) S0 = ln at *
  obtain ⟨sE, sQ, sI, s20, s21, s26, fx, fm, f26, f7, f12, f41, f2, f3, f34, f34o⟩ := st
  refine ⟨sE, sQ, fun g k hg => by rw [f2 g k hg]; exact hc g k hg, fun f hf => ?_, fun f hf k hk => ?_, fun j hj hno => ?_⟩
  · by_cases e : f = i
    · subst e
      rw [if_pos (by omega : f < f + 1)]
      exact ⟨s20, s21, s26, sI⟩
    · have e2 : (if f < i + 1 then ln f else Lo f) = if f < i then ln f else Lo f := by
        by_cases h4 : f < i
        · rw [if_pos h4, if_pos (by omega)]
        · rw [if_neg h4, if_neg (by omega)]
      rw [e2]
      obtain ⟨q20, q21, q26, qI⟩ := hr f hf
      have hLN : (if f < i then ln f else Lo f) ≤ N := by
        split
        · exact hle f
        · exact hLo f hf
      refine ⟨by rw [fx f 20 e (by decide) (by decide)]; exact q20, by rw [fx f 21 e (by decide) (by decide)]; exact q21, fun k hk => by rw [f26 f k e (by omega)]; exact q26 k hk, ?_⟩
      refine qI.keep (fun g a b => fx f g e (by omega) b) (fun g a b => fm f g e (by omega) b) (fun hL k hk => ⟨f7 _, f12 _, fun x => f41 _ x (wr_lt (by omega)) ?_⟩)
      rintro ⟨k2, hk2, e3⟩
      exact e (hdo f i k k2 hf hi (by omega) hk2 e3.symm)
  · by_cases e : f = i
    · subst e
      refine ⟨?_, f34 k hk⟩
      rcases f3 with ⟨hnL, hs⟩ | hs
      · rw [hs]
        have hno : ∀ f2, f2 < f → ¬ mem N f2 (ln f2) (wr N (f + k)) := by
          rintro f2 hf2 ⟨k2, hk2, e3⟩
          have := hdn f2 f k2 k (by omega) hi hk2 hk e3
          omega
        rw [(hout _ (wr_lt (by have := hle f; omega)) hno).1]
        exact h3 f k hi (by omega)
      · exact hs.1 k hk
    · have hnm : ¬ mem N i (ln i) (wr N (f + k)) := by
        rintro ⟨k2, hk2, e3⟩
        exact e (hdn i f k2 k hi (by omega) hk2 hk e3).symm
      have hh := hin f (by omega) k hk
      refine ⟨?_, by rw [f34o _ hnm]; exact hh.2⟩
      rcases f3 with ⟨_, hs⟩ | hs
      · rw [hs]; exact hh.1
      · rw [hs.2 _ hnm]; exact hh.1
  · have hnm : ¬ mem N i (ln i) j := hno i (by omega)
    have hh := hout j hj (fun f hf => hno f (by omega))
    refine ⟨?_, by rw [f34o _ hnm]; exact hh.2⟩
    rcases f3 with ⟨_, hs⟩ | hs
    · rw [hs]; exact hh.1
    · rw [hs.2 _ hnm]; exact hh.1
theorem arr_all (hN : N ≤ 6) (hN1 : 1 ≤ N) (hE : EE N false S M) (hQ : QI N S) (hR : ∀ f, f < N → RI N S M f) (S2 M2 : SX) (hS2 : S2 = frl N (allj N S N) S N) (hM2 : M2 = marr N M) :
    EE N false S2 M2 ∧ QI N S2 ∧ (∀ f, f < N → RI N S2 M2 f) ∧ (∀ g k, g = 2 ∨ g = 40 → S2 g k = S g k)
    ∧ (∀ j, j < N → ¬ S 2 j = 0 → ∃ f L, f < N ∧ S2 21 f = nI L ∧ L ≤ N ∧ mem N f L j ∧ S2 3 j = nI f ∧ M2 34 j = nI f) ∧ (∀ j, j < N → S 2 j = 0 → S2 3 j = S 3 j ∧ M2 34 j = -1)
    ∧ ∀ f L, f < N → L ≤ N → S2 21 f = nI L → ∀ k, k < L → ¬ S 2 (wr N (f + k)) = 0 := by
  have hLo : ∀ f, f < N → nv (S 21 f) ≤ N ∧ S 21 f = nI (nv (S 21 f)) := by
    intro f hf
    obtain ⟨L, ⟨_, hL, h21, _⟩, _⟩ := hR f hf
    rw [h21, nv_nI (by omega)]
    exact ⟨hL, rfl⟩
  have hRL : ∀ f, f < N → RF N S M f (nv (S 21 f)) ∧ RIy N S M f (nv (S 21 f)) (nv (S 21 f)) := by
    intro f hf
    obtain ⟨L, hrf, h⟩ := hR f hf
    have e : nv (S 21 f) = L := by rw [hrf.2.2.1, nv_nI (by have := hrf.2.1; omega)]
    rw [e]
    refine ⟨hrf, ?_⟩
    rcases h with h | h
    · exact Or.inl h
    · exact Or.inr ⟨h, rfl⟩
  have h3 : ∀ f k, f < N → k < nv (S 21 f) → S 3 (wr N (f + k)) = nI f := fun f k hf hk => (hRL f hf).1.2.2.2.2 k hk
  have hdo : ∀ f f2 k k2, f < N → f2 < N → k < nv (S 21 f) → k2 < nv (S 21 f2) → wr N (f + k) = wr N (f2 + k2) → f = f2 := by
    intro f f2 k k2 hf hf2 hk hk2 e
    have a := h3 f k hf hk
    rw [e, h3 f2 k2 hf2 hk2] at a
    exact (nI_inj (by omega) (by omega) a).symm
  have hle : ∀ f, fL N (allj N S N) S f ≤ N := fun f => fL_le hN1
  have hl : ∀ i, i ≤ N → LV N S (fun f => nv (S 21 f)) (fL N (allj N S N) S) i (frl N (allj N S N) S i) (marl N (allj N S N) (mr1 M N) i) := by
    intro i
    induction i with
    | zero =>
      intro _
      refine ⟨mr1_EE hE, hQ, fun _ _ _ => rfl, fun f hf => ?_, fun f hf => absurd hf (by omega), fun j hj _ => ⟨rfl, mr1_in hj⟩⟩
      rw [if_neg (by omega)]
      obtain ⟨⟨a, b, c, d, e⟩, h⟩ := hRL f hf
      refine ⟨a, c, fun k hk => by show mr1 M N 26 _ = _; rw [mr1_o (by decide)]; exact d k hk, ?_⟩
      exact h.keep (fun _ _ _ => rfl) (fun g a b => mr1_o (by omega)) (fun _ k hk => ⟨rfl, mr1_o (by decide), fun _ => rfl⟩)
    | succ i ih =>
      intro hi
      exact LV_step hN (fun f hf => (hLo f hf).1) hdo h3 (by omega) (ih (by omega))
  have hm : marr N M = marl N (allj N S N) (mr1 M N) N := by unfold marr; rw [mallj_e hE N (Nat.le_refl _)]
  obtain ⟨vE, vQ, vc, vr, vin, vout⟩ := hl N (Nat.le_refl _)
  rw [← hS2] at vE vQ vc vr vin vout
  rw [← hm, ← hM2] at vE vr vin vout
  refine ⟨vE, vQ, fun f hf => ?_, vc, fun j hj hon => ?_, fun j hj hoff => ?_, fun f L hf hLN h21 k hk => ?_⟩
  · obtain ⟨a, b, c, d⟩ := vr f hf
    rw [if_pos hf] at b c d
    refine ⟨fL N (allj N S N) S f, ⟨a, hle f, b, c, fun k hk => (vin f hf k hk).1⟩, ?_⟩
    rcases d with d | d
    · exact Or.inl d
    · exact Or.inr d.1
  · obtain ⟨f, k, hf, hk, e⟩ := fL_cov hN hj hon
    refine ⟨f, fL N (allj N S N) S f, hf, ?_, hle f, ⟨k, hk, e⟩, ?_, ?_⟩
    · have := (vr f hf).2.1; rwa [if_pos hf] at this
    · rw [← e]; exact (vin f hf k hk).1
    · rw [← e]; exact (vin f hf k hk).2
  · exact vout j hj (fun f hf ⟨k, hk, e⟩ => fL_on hf hk (by rw [e]; exact hoff))
  · have := (vr f hf).2.1
    rw [if_pos hf, h21] at this
    have e : L = fL N (allj N S N) S f := nI_inj (by omega) (by have := hle f; omega) this
    exact fL_on hf (by omega)
end LV
