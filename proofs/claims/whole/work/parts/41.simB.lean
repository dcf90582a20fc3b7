/-! the two objects, side by side -/
section SIM
variable {N c : Nat} {S M S2 M2 : SX} {Fl G : FX}
def Sim (N : Nat) (S M : SX) (Fl G : FX) : Prop := EE N true S M ∧ QI N S ∧ FE N Fl G ∧ (∀ f, f < N → RI N S M f) ∧ (∀ j, j < N → S 2 j = 0 → S 3 j = -1) ∧ ∀ j, j < N → S 3 j = -1 ∨ ∃ f L, f < N ∧ L ≤ N ∧ S 3 j = nI f ∧ S 21 f = nI L ∧ mem N f L j
def SimC (N c : Nat) (S M : SX) (Fl G : FX) : Prop := Sim N S M Fl G ∧ S 45 0 = nI c
theorem RI.ext {f : Nat} (h : RI N S M f) (hx : ∀ g, 20 ≤ g → g < 30 → S2 g f = S g f) (hy : ∀ g, 29 ≤ g → g < 34 → M2 g f = M g f) (h26 : ∀ k, M2 26 (6 * f + k) = M 26 (6 * f + k)) (hm : ∀ L k, L ≤ N → S 21 f = nI L → k < L → S2 3 (wr N (f + k)) = S 3 (wr N (f + k)) ∧ S2 7 (wr N (f + k)) = S 7 (wr N (f + k)) ∧ M2 12 (wr N (f + k)) = M 12 (wr N (f + k)) ∧ ∀ x, ¬ S 41 (qof (wr N (f + k)) x) = 0 → ¬ S2 41 (qof (wr N (f + k)) x) = 0) : RI N S2 M2 f := by
  obtain ⟨L2, ⟨h20, hL2, h21, hrw, h3⟩, h⟩ := h
  have hm := fun k => hm L2 k hL2 h21
  refine ⟨L2, ⟨by rw [hx 20 (by decide) (by decide)]; exact h20, hL2, by rw [hx 21 (by decide) (by decide)]; exact h21, fun k hk => by rw [h26]; exact hrw k hk, fun k hk => by rw [(hm k hk).1]; exact h3 k hk⟩, ?_⟩
  unfold NOP OP OPB HOP AT SND at *
  simp only [hx 23 (by decide) (by decide), hx 24 (by decide) (by decide), hx 25 (by decide) (by decide), hx 26 (by decide) (by decide), hx 27 (by decide) (by decide), hx 28 (by decide) (by decide), hx 29 (by decide) (by decide), hy 29 (by decide) (by decide), hy 30 (by decide) (by decide), hy 31 (by decide) (by decide), hy 32 (by decide) (by decide), hy 33 (by decide) (by decide)]
  rcases h with h | ⟨h1, ⟨ha, hb, hc⟩, pm, h2, h4, h5, h6⟩
  · exact Or.inl h
  · refine Or.inr ⟨h1, ⟨ha, hb, fun k hk => ?_⟩, pm, h2, h4, h5, ?_⟩
    · rw [(hm k hk).2.1]; exact hc k hk
    · rw [(hm pm h2).2.2.1]
      rcases h6 with h6 | ⟨a, b, c, d⟩
      · exact Or.inl h6
      · refine Or.inr ⟨a, b, c, ?_⟩
        rcases d with d | ⟨d1, d2, d3, d4, d5⟩
        · exact Or.inl d
        · exact Or.inr ⟨d1, d2, d3, d4, (hm pm h2).2.2.2 _ d5⟩
theorem Sim.ring (h : Sim N S M Fl G) (hN : N ≤ 6) {f : Nat} (hf : f < N) : Sim N (xpS N S f) (mgS N M f) (xpF N S Fl f) (mgF N M G f) ∧ xpS N S f 45 0 = S 45 0 := by
  obtain ⟨hE, hQ, hF, hR, hoff, hst⟩ := h
  obtain ⟨L, hrf, hI⟩ := hR f hf
  obtain ⟨hT, hI2, hQ2, hF2⟩ := ring_tick hE hQ hF hf hN hrf hI
  generalize xpS N S f = S2 at *
  generalize mgS N M f = M2 at *
  have hX := hT.2.1
  have hM := hT.2.2
  refine ⟨⟨hT.1, hQ2, hF2, fun f2 hf2 => ?_, fun j hj h2 => ?_, fun j hj => ?_⟩, hX.2.1 45 0 (by omega)⟩
  · by_cases e : f2 = f
    · subst e
      obtain ⟨a, b, c, d, e⟩ := hrf
      refine ⟨L, ⟨by rw [hX.2.2.1 20 (by decide) (by decide)]; exact a, b, by rw [hX.2.2.1 21 (by decide) (by decide)]; exact c, fun k hk => by rw [hM.2.1 26 _ (by omega)]; exact d k hk, fun k hk => by rw [hX.m3]; exact e k hk⟩, hI2⟩
    · exact RI.keep hf hf2 hN (hR f2 hf2) hX hM e hrf.2.2.2.2
  · rw [hX.m3]
    exact hoff j hj (by rw [hX.2.1 2 j (by omega)] at h2; exact h2)
  · rw [hX.m3]
    rcases hst j hj with h | ⟨f2, L2, a, b, c, d, e⟩
    · exact Or.inl h
    · refine Or.inr ⟨f2, L2, a, b, c, ?_, e⟩
      by_cases e2 : f2 = f
      · subst e2; rw [hX.2.2.1 21 (by decide) (by decide)]; exact d
      · rw [hX.1 21 f2 (by decide) (by decide) e2]; exact d
theorem Sim.clock (h : Sim N S M Fl G) : Sim N (up2 S 45 0 (S 45 0 + nI 1)) (up2 M 3 0 (M 3 0 + nI 1)) Fl G := by
  obtain ⟨hE, hQ, hF, hR, hoff, hst⟩ := h
  have e : S 45 0 = M 3 0 := hE 45 0 rfl (Or.inl rfl) rfl
  refine ⟨hE.up' (f := 45) rfl (by rw [e]), up_QI hQ (by decide), hF, fun f hf => (hR f hf).ext (fun g a b => up2_f (by omega)) (fun g a b => up2_f (by omega)) (fun k => up2_f (by decide)) (fun L k _ _ _ => ⟨up2_f (by decide), up2_f (by decide), up2_f (by decide), fun x hx => by rw [up2_f (by decide)]; exact hx⟩), fun j hj h2 => ?_, fun j hj => ?_⟩
  · rw [up2_f (by decide)]; rw [up2_f (by decide)] at h2; exact hoff j hj h2
  · rw [up2_f (by decide)]
    rcases hst j hj with h | ⟨f2, L2, a, b, c, d, e⟩
    · exact Or.inl h
    · exact Or.inr ⟨f2, L2, a, b, c, by rw [up2_f (by decide)]; exact d, e⟩
theorem Sim.inn (hN : N ≤ 6) {s m : SX × FX} (h : Sim N s.1 m.1 s.2 m.2) : ∀ k, k ≤ N → Sim N (xin N k s).1 (min_ N k m).1 (xin N k s).2 (min_ N k m).2 ∧ (xin N k s).1 45 0 = s.1 45 0 := by
  intro k
  induction k with
  | zero => intro _; exact ⟨h, rfl⟩
  | succ k ih =>
    intro hk
    have := ih (by omega)
    have h2 := this.1.ring hN (f := k) (by omega)
    exact ⟨h2.1, h2.2.trans this.2⟩
theorem SimC.tick (hN : N ≤ 6) (h : SimC N c S M Fl G) : ∀ k, SimC N (c + k) (xtk N k (S, Fl)).1 (mtk N k (M, G)).1 (xtk N k (S, Fl)).2 (mtk N k (M, G)).2 := by
  intro k
  induction k with
  | zero => exact h
  | succ k ih =>
    have h1 : Sim N (xck (xtk N k (S, Fl))).1 (mck (mtk N k (M, G))).1 (xck (xtk N k (S, Fl))).2 (mck (mtk N k (M, G))).2 := ih.1.clock
    have h2 := Sim.inn hN h1 N (Nat.le_refl _)
    refine ⟨h2.1, h2.2.trans ?_⟩
    show up2 (xtk N k (S, Fl)).1 45 0 ((xtk N k (S, Fl)).1 45 0 + nI 1) 45 0 = _
    rw [up2_eq, ih.2, nI_add]
    rfl
theorem Sim.ix (h : Sim N S M Fl G) (hN : N ≤ 6) : IX N S := by
  obtain ⟨hE, hQ, hF, hR, hoff, hst⟩ := h
  refine ⟨fun f hf => ?_, fun f hf => ?_, fun f hf => ?_, fun q hq => ?_, hQ.2⟩
  · obtain ⟨L, hrf, _⟩ := hR f hf; exact hrf.1
  · obtain ⟨L, hrf, h⟩ := hR f hf
    have hL := hrf.2.1
    rcases h with ⟨_, h⟩ | ⟨h1, _, pm, h2, _, _, h⟩
    · exact h
    · rcases h with h | h
      · exact ⟨_, by have := Nat.mod_lt (pm + 1) (show L > 0 by omega); omega, h.2.1⟩
      · exact ⟨pm, by omega, h.2.1⟩
  · obtain ⟨L, hrf, _⟩ := hR f hf; exact ⟨L, hrf.2.1, hrf.2.2.1⟩
  · obtain ⟨z, a, b, _⟩ := hQ.1 q hq; exact ⟨z, a, b⟩
theorem Sim.snd_q {f pm L : Nat} (h : Sim N S M Fl G) (hN : N ≤ 6) (hf : f < N) (hL : L ≤ N) (hp : pm < L) (hs : SND N S M f pm) : ∃ z, 1 ≤ z ∧ z ≤ 5 ∧ M 21 (qof (wr N (f + pm)) (S 28 f)) = nI z := by
  have hjN : wr N (f + pm) < N := wr_lt (by omega)
  have hqN : qof (wr N (f + pm)) (S 28 f) < 2 * N := qof_lt hjN
  obtain ⟨z, a, b, _⟩ := h.2.1.1 _ hqN
  refine ⟨z, ?_, a, by rw [← b]; exact (h.1 41 _ rfl (Or.inl rfl) hqN).symm⟩
  rcases Nat.eq_zero_or_pos z with h0 | h0
  · exact absurd (by rw [b, h0]; rfl) hs.2.2.2.2
  · exact h0
theorem Sim.mp (h : Sim N S M Fl G) (hN : N ≤ 6) {f : Nat} (hf : f < N) : ∃ L, L ≤ N ∧ M 25 f = nI L ∧ (1 ≤ L → MP N M G f) := by
  obtain ⟨L, hrf, hI⟩ := h.2.2.2.1 f hf
  have hE := h.1
  have e25 : M 25 f = nI L := by rw [← hrf.2.2.1]; exact (hE 21 f rfl (Or.inl rfl) hf).symm
  have e28 : S 23 f = M 28 f := hE 23 f rfl (Or.inl rfl) hf
  have hL := hrf.2.1
  refine ⟨L, hL, e25, fun h1 => ⟨L, h1, hL, e25, hrf.2.2.2.1, fun j hj => by rw [← (h.2.2.1 j hj).1]; exact (h.2.2.1 j hj).2, ?_⟩⟩
  rw [← e28]
  rcases hI with ⟨⟨_, _, hn⟩, _⟩ | ⟨_, hb, pm, hpm, h30, h2631, hop⟩
  · rcases hn with hn | hn
    · omega
    · exact Or.inl (i_le0.mpr hn.2.1)
  · refine Or.inr ⟨by rw [hb.1]; decide, pm, hpm, h30, ?_⟩
    rcases hop with hp | ⟨a1, a2, a3, ⟨p3, p4⟩ | hs⟩
    · exact Or.inl hp.2.2.2
    · exact Or.inl p4
    · have hjN : wr N (f + pm) < N := wr_lt (by omega)
      have hqN : qof (wr N (f + pm)) (S 28 f) < 2 * N := qof_lt hjN
      obtain ⟨z, z1, z5, hz⟩ := h.snd_q hN hf hL hpm hs
      obtain ⟨t, ht, h42⟩ := h.2.1.2 (5 * qof (wr N (f + pm)) (S 28 f)) (by omega)
      refine Or.inr ⟨_, z, t, by omega, z1, z5, by omega, hs.2.2.2.1, hz, ?_, ?_⟩
      · rw [← h42]; exact (hE 42 _ rfl (Or.inl rfl) (show _ < 10 * N by omega)).symm
      · rw [← h2631, a1]; decide
theorem Sim.jm (h : Sim N S M Fl G) (hN : N ≤ 6) : JM N M := by
  have hE := h.1
  have key : ∀ f, f < N → M 32 f = -1 ∨ ∃ L pm, L ≤ N ∧ pm < L ∧ (∀ k, k < L → S 3 (wr N (f + k)) = nI f) ∧ SND N S M f pm := by
    intro f hf
    obtain ⟨L, hrf, hI⟩ := h.2.2.2.1 f hf
    rcases hI with ⟨⟨_, hn, _⟩, _⟩ | ⟨_, hb, pm, hpm, h30, h2631, hop⟩
    · exact Or.inl hn
    · rcases hop with hp | ⟨a1, a2, a3, ⟨p3, p4⟩ | hs⟩
      · exact Or.inl hp.2.2.2
      · exact Or.inl p4
      · exact Or.inr ⟨L, pm, hrf.2.1, hpm, hrf.2.2.2.2, hs⟩
  refine ⟨fun f hf => ?_, fun f hf => ?_, fun f f2 q hf hf2 hq h1 h2 => ?_⟩
  · obtain ⟨L, hL, h25, _⟩ := h.mp hN hf; exact ⟨L, hL, h25⟩
  · rcases key f hf with hk | ⟨L, pm, hL, hpm, _, hs⟩
    · exact Or.inl hk
    · have hjN : wr N (f + pm) < N := wr_lt (by omega)
      have hqN : qof (wr N (f + pm)) (S 28 f) < 2 * N := qof_lt hjN
      obtain ⟨z, z1, z5, hz⟩ := h.snd_q hN hf hL hpm hs
      exact Or.inr ⟨_, z, by omega, z1, z5, hs.2.2.2.1, hz⟩
  · rcases key f hf with hk | ⟨L, pm, hL, hpm, h3, hs⟩
    · rw [hk] at h1; exact absurd h1.symm (nI_nm1 (by omega))
    · rcases key f2 hf2 with hk | ⟨L2, pm2, hL2, hpm2, h32, hs2⟩
      · rw [hk] at h2; exact absurd h2.symm (nI_nm1 (by omega))
      · have hjN : wr N (f + pm) < N := wr_lt (by omega)
        have hqN : qof (wr N (f + pm)) (S 28 f) < 2 * N := qof_lt hjN
        have hjN2 : wr N (f2 + pm2) < N := wr_lt (by omega)
        have hqN2 : qof (wr N (f2 + pm2)) (S 28 f2) < 2 * N := qof_lt hjN2
        have a := hs.2.2.2.1
        have b := hs2.2.2.2.1
        rw [h1] at a
        rw [h2] at b
        have a' := nI_inj (by omega) (by omega) a
        have b' := nI_inj (by omega) (by omega) b
        have e : wr N (f + pm) = wr N (f2 + pm2) := by
          rw [← qof_2 (j := wr N (f + pm)) (x := S 28 f), ← qof_2 (j := wr N (f2 + pm2)) (x := S 28 f2), ← a', ← b']
        have e3 := h3 pm hpm
        rw [e, h32 pm2 hpm2] at e3
        exact (nI_inj (by omega) (by omega) e3).symm
theorem PXsim (hN : N ≤ 6) : PX N (fun U V => ∃ M G, Sim N U M V G) := by
  refine ⟨fun U V ⟨M, G, h⟩ => ⟨_, G, h.clock⟩, fun U V f hf ⟨M, G, h⟩ => ⟨_, _, (h.ring hN hf).1⟩, fun U V ⟨M, G, h⟩ => ⟨h.ix hN, fun j hj => (h.2.2.1 j hj).2, fun f hf hc => ?_⟩⟩
  obtain ⟨L, hrf, hI⟩ := h.2.2.2.1 f hf
  rw [hrf.2.2.1, nv_nI (by have := hrf.2.1; omega)]
  rcases hI with ⟨⟨_, _, hn⟩, _⟩ | hI
  · rcases hn with hn | hn
    · exfalso
      apply hc
      unfold r_X1_claims
      rw [hn.2]; rfl
    · exact hn.1
  · exact hI.1
theorem PMsim (hN : N ≤ 6) : PM N (fun U V => ∃ S Fl, Sim N S U Fl V) := ⟨fun U V ⟨S, Fl, h⟩ => ⟨_, Fl, h.clock⟩, fun U V f hf ⟨S, Fl, h⟩ => ⟨_, _, (h.ring hN hf).1⟩, fun U V ⟨S, Fl, h⟩ f hf => h.mp hN hf⟩
end SIM
