section INIT
theorem mil_in {N i k : Nat} (h : k < i) : mil N i 1 k = (if k < N then nI 1 else nI 0) ∧ mil N i 2 k = (if k < N then nI 1 else nI 0) ∧ mil N i 5 k = nI 20 ∧ mil N i 14 k = -1 ∧ mil N i 17 k = -1 := by
  induction i with
  | zero => omega
  | succ i ih =>
    simp only [mil]
    by_cases e : k = i
    · subst e
      refine ⟨?_, ?_, ?_, ?_, ?_⟩
      · rw [up2_f (by decide), up2_f (by decide), up2_f (by decide), up2_f (by decide), up2_f (by decide), up2_eq]
      · rw [up2_f (by decide), up2_f (by decide), up2_f (by decide), up2_f (by decide), up2_eq]
      · rw [up2_f (by decide), up2_f (by decide), up2_f (by decide), up2_eq]
      · rw [up2_f (by decide), up2_f (by decide), up2_eq]
      · rw [up2_f (by decide), up2_eq]
    · simp only [up2_i e]
      exact ih (by omega)
theorem init_EE {N : Nat} (hN : N ≤ 6) : EE N false (xi N) (mil N 6) := by
  intro f i hf hc hd
  have hc : f ≠ 3 := hc.resolve_left (by decide)
  by_cases e2 : f = 2
  · subst e2
    have hi : i < N := hd
    rw [show mpf 2 = 1 from rfl, (mil_in (show i < 6 by omega)).1, if_pos hi]; rfl
  by_cases e40 : f = 40
  · subst e40
    have hi : i < N := hd
    rw [show mpf 40 = 2 from rfl, (mil_in (show i < 6 by omega)).2.1, if_pos hi]
    show (if i < N then nI 1 else 0) = nI 1
    rw [if_pos hi]
  by_cases e4 : f = 4
  · subst e4
    have hi : i < N := hd
    rw [show mpf 4 = 5 from rfl, (mil_in (show i < 6 by omega)).2.2.1]; rfl
  by_cases e12 : f = 12
  · subst e12
    have hi : i < N := hd
    rw [show mpf 12 = 14 from rfl, (mil_in (show i < 6 by omega)).2.2.2.1]; rfl
  by_cases e16 : f = 16
  · subst e16
    have hi : i < N := hd
    rw [show mpf 16 = 17 from rfl, (mil_in (show i < 6 by omega)).2.2.2.2]; rfl
  have e20 : f ≠ 20 := fun q => by subst q; cases hf
  unfold xi
  rw [if_neg e40, if_neg e2, if_neg hc, if_neg e12, if_neg e16, if_neg e4, if_neg e20]
  exact (mil_o (fun q => e2 (mpf_inj hf (g := 2) rfl q)) (fun q => e40 (mpf_inj hf (g := 40) rfl q)) (fun q => e4 (mpf_inj hf (g := 4) rfl q)) (fun q => e12 (mpf_inj hf (g := 12) rfl q)) (fun q => e16 (mpf_inj hf (g := 16) rfl q)) (noI_ne (by decide) hf)).symm
theorem fOK_0 : fOK 0 := ⟨false, 0, -149, by decide +kernel, by decide⟩
theorem init_Sim {N : Nat} (hN : N ≤ 6) (hN1 : 1 ≤ N) : SimC N 0 (frl N (allj N (xi N) N) (xi N) N) (marr N (mil N 6)) z0 z0 := by
  refine ⟨Sim.of_arr hN hN1 (init_EE hN) ⟨fun q hq => ⟨0, by omega, rfl, fun k hk => absurd hk (by omega)⟩, fun i hi => ⟨0, by omega, rfl⟩⟩ (fun j hj => ⟨rfl, fOK_0⟩) (fun f hf => ⟨0, ⟨rfl, by omega, rfl, fun k hk => absurd hk (by omega), fun k hk => absurd hk (by omega)⟩, Or.inl ⟨⟨rfl, mil_32 (by omega), Or.inl ⟨rfl, rfl⟩⟩, 0, by omega, rfl⟩⟩) (fun j hj h => absurd h (by show ¬ nI 1 = 0; decide)), ?_⟩
  have key : ∀ i, i ≤ N → frl N (allj N (xi N) N) (xi N) i 45 0 = nI 0 := by
    intro i
    induction i with
    | zero => intro _; rfl
    | succ i ih =>
      intro hi
      simp only [frl]
      unfold fstep
      split
      · exact ih (by omega)
      · unfold xRef ref0
        rw [sfr_o (by decide), up2_f (by decide), up2_f (by decide), up2_f (by decide), lose_o (by decide) (by decide) (by decide)]
        exact ih (by omega)
  exact key N (Nat.le_refl _)
end INIT
theorem frl_45 {N : Nat} {u : Bool} {S : SX} : ∀ i, frl N u S i 45 0 = S 45 0 := by
  intro i
  induction i with
  | zero => rfl
  | succ i ih =>
    simp only [frl]
    unfold fstep
    split
    · exact ih
    · unfold xRef ref0
      rw [sfr_o (by decide), up2_f (by decide), up2_f (by decide), up2_f (by decide), lose_o (by decide) (by decide) (by decide)]
      exact ih
/-! each call, of both -/
section PAIRS
variable {N c : Nat} {S M : SX} {Fl G : FX}
theorem p_bid (l : Launch) (g : GX) (b d : Nat) (h : SimC N c S M Fl G) (hN : N ≤ 6) (x t : Int32) : ∃ S2 M2 v, SimC N c S2 M2 Fl G ∧ (v = 0 ∨ v = 1) ∧ MR l yX3_bid (.code yX3_bid cX3_bid 3 (some .boolean) :: tb) (rmk 1 21) g (RepX g b N S Fl) (RepX g b N S2 Fl) (AX b N) [.ref b, .int x, .int t] (some (.int v)) ∧ MR l yX4_bid (.code yX4_bid cX4_bid 3 (some .boolean) :: tb) (rmk 1 21) g (RepM g d N M G) (RepM g d N M2 G) (AM d) [.ref d, .int x, .int t] (some (.int v)) := by
  rcases st_or hN x with hb | ⟨j, hj, rfl⟩
  · exact ⟨S, M, _, h, Or.inl rfl, k_X3_bid_bad l g b N S Fl hN x t hb, k_X4_bid_bad l g d N M G hN x t hb⟩
  · refine ⟨_, _, r_X3_bid_ok S j t, ⟨h.1.bid, ?_⟩, ?_, k_X3_bid_ok l g b N S Fl hN j hj t, k_X4_bid_ok l g d N M G hN j hj t⟩
    · unfold s_X3_bid_ok
      split
      · exact h.2
      · split
        · rw [up2_f (by decide)]; exact h.2
        · exact h.2
    · unfold r_X3_bid_ok
      split
      · exact Or.inl rfl
      · split
        · exact Or.inr rfl
        · exact Or.inl rfl
theorem p_allot (l : Launch) (g : GX) (b d : Nat) (h : SimC N c S M Fl G) (hN : N ≤ 6) (x t : Int32) : ∃ S2 M2 v, SimC N c S2 M2 Fl G ∧ (v = 0 ∨ v = 1) ∧ MR l yX3_allot (.code yX3_allot cX3_allot 3 (some .boolean) :: tb) (rmk 1 21) g (RepX g b N S Fl) (RepX g b N S2 Fl) (AX b N) [.ref b, .int x, .int t] (some (.int v)) ∧ MR l yX4_allot (.code yX4_allot cX4_allot 3 (some .boolean) :: tb) (rmk 1 21) g (RepM g d N M G) (RepM g d N M2 G) (AM d) [.ref d, .int x, .int t] (some (.int v)) := by
  rcases st_or hN x with hb | ⟨j, hj, rfl⟩
  · exact ⟨S, M, _, h, Or.inl rfl, k_X3_allot_bad l g b N S Fl hN x t hb, k_X4_allot_bad l g d N M G hN x t hb⟩
  · refine ⟨_, _, r_X3_allot_ok S j t, ⟨h.1.allot, ?_⟩, ?_, k_X3_allot_ok l g b N S Fl hN j hj t, k_X4_allot_ok l g d N M G hN j hj t⟩
    · unfold s_X3_allot_ok
      split
      · exact h.2
      · split
        · rw [up2_f (by decide)]; exact h.2
        · exact h.2
    · unfold r_X3_allot_ok
      split
      · exact Or.inl rfl
      · split
        · exact Or.inr rfl
        · exact Or.inl rfl
theorem al_45 {q z : Nat} {t n pr : Int32} : s_X0_addLast S q z t n pr 45 0 = S 45 0 := by
  unfold s_X0_addLast
  split
  · rw [up2_f (by decide), up2_f (by decide), up2_f (by decide), up2_f (by decide)]
  · rfl
theorem p_send (l : Launch) (g : GX) (b d : Nat) (h : SimC N c S M Fl G) (hN : N ≤ 6) (x y n pr : Int32) : ∃ S2 M2 v, SimC N c S2 M2 Fl G ∧ (v = 0 ∨ v = 1) ∧ MR l yX3_send (.code yX3_send cX3_send 5 (some .boolean) :: tb) (rmk 1 23) g (RepX g b N S Fl) (RepX g b N S2 Fl) (AX b N) [.ref b, .int x, .int y, .int n, .int pr] (some (.int v)) ∧ MR l yX4_send (.code yX4_send cX4_send 7 (some .boolean) :: tb) (rmk 1 21) g (RepM g d N M G) (RepM g d N M2 G) (AM d) [.ref d, .int x, .int y, .int n, .int pr] (some (.int v)) := by
  rcases st_or hN x with hb | ⟨j, hj, rfl⟩
  · exact ⟨S, M, _, h, Or.inl rfl, k_X3_send_bad l g b N S Fl hN x y n pr hb, k_X4_send_bad l g d N M G hN x y n pr hb⟩
  · rcases st_or hN y with hb | ⟨t, ht, rfl⟩
    · exact ⟨S, M, _, h, Or.inl rfl, k_X3_send_bad2 l g b N S Fl hN j hj y n pr hb, k_X4_send_bad2 l g d N M G hN j hj y n pr hb⟩
    · obtain ⟨z1, hz1, e1, _⟩ := h.1.2.1.1 (2 * j) (by omega)
      obtain ⟨z0, hz0, e0, _⟩ := h.1.2.1.1 (2 * j + 1) (by omega)
      have m1 : M 21 (2 * j) = nI z1 := by rw [← e1]; exact (h.1.1 41 _ rfl (Or.inl rfl) (show _ < 2 * N by omega)).symm
      have m0 : M 21 (2 * j + 1) = nI z0 := by rw [← e0]; exact (h.1.1 41 _ rfl (Or.inl rfl) (show _ < 2 * N by omega)).symm
      have hs := h.1.send hN (n := n) (pr := pr) hj ht (by rw [qof1]; exact e1) e0
      refine ⟨_, _, r_X3_send_ok S j t n pr z0 z1, ⟨hs.1, ?_⟩, ?_, k_X3_send_ok l g b N S Fl hN j hj t ht n pr z0 z1 hz0 hz1 (by rw [qof1]; exact e1) e0, ?_⟩
      · unfold s_X3_send_ok
        (repeat' split) <;> first | exact h.2 | (rw [al_45]; exact h.2)
      · unfold r_X3_send_ok
        (repeat' split) <;> first | exact Or.inl rfl | exact al_01
      · rw [hs.2]; exact k_X4_send_ok l g d N M G hN j hj t ht n pr z0 z1 hz0 hz1 m1 m0
theorem p_cable (l : Launch) (g : GX) (b d : Nat) (h : SimC N c S M Fl G) (hN : N ≤ 6) (x on : Int32) (hon : on = 0 ∨ on = 1) : ∃ S2 M2 v, SimC N c S2 M2 Fl G ∧ (v = 0 ∨ v = 1) ∧ MR l yX3_cable (.code yX3_cable cX3_cable 3 (some .boolean) :: tb) (rmk 5 116) g (RepX g b N S Fl) (RepX g b N S2 Fl) (AX b N) [.ref b, .int x, .int on] (some (.int v)) ∧ MR l yX4_cable (.code yX4_cable cX4_cable 3 (some .boolean) :: tb) (rmk 4 90) g (RepM g d N M G) (RepM g d N M2 G) (AM d) [.ref d, .int x, .int on] (some (.int v)) := by
  rcases st_or hN x with hb | ⟨j, hj, rfl⟩
  · exact ⟨S, M, _, h, Or.inl rfl, k_X3_cable_bad l g b N S Fl hN x on hb, k_X4_cable_bad l g d N M G hN x on hb⟩
  · have e : r_X3_cable_ok S j on = r_X4_cable_ok M j on := by
      unfold r_X3_cable_ok r_X4_cable_ok
      rw [show S 40 j = M 2 j from h.1.1 40 j rfl (Or.inl rfl) hj]
    refine ⟨_, _, r_X3_cable_ok S j on, ⟨h.1.cable hN hj on, ?_⟩, ?_, k_X3_cable_ok l g b N S Fl hN j hj on hon (h.1.ix hN), ?_⟩
    · unfold s_X3_cable_ok
      split
      · exact h.2
      · rw [frl_45, up2_f (by decide)]; exact h.2
    · unfold r_X3_cable_ok
      split
      · exact Or.inl rfl
      · exact Or.inr rfl
    · rw [e]; exact k_X4_cable_ok l g d N M G hN j hj on hon (h.1.jm hN)
theorem p_power (l : Launch) (g : GX) (b d : Nat) (h : SimC N c S M Fl G) (hN : N ≤ 6) (x on : Int32) (hon : on = 0 ∨ on = 1) : ∃ S2 M2 v, SimC N c S2 M2 Fl G ∧ (v = 0 ∨ v = 1) ∧ MR l yX3_power (.code yX3_power cX3_power 3 (some .boolean) :: tb) (rmk 5 116) g (RepX g b N S Fl) (RepX g b N S2 Fl) (AX b N) [.ref b, .int x, .int on] (some (.int v)) ∧ MR l yX4_power (.code yX4_power cX4_power 3 (some .boolean) :: tb) (rmk 4 90) g (RepM g d N M G) (RepM g d N M2 G) (AM d) [.ref d, .int x, .int on] (some (.int v)) := by
  rcases st_or hN x with hb | ⟨j, hj, rfl⟩
  · exact ⟨S, M, _, h, Or.inl rfl, k_X3_power_bad l g b N S Fl hN x on hb, k_X4_power_bad l g d N M G hN x on hb⟩
  · have e : r_X3_power_ok S j on = r_X4_power_ok M j on := by
      unfold r_X3_power_ok r_X4_power_ok
      rw [show S 2 j = M 1 j from h.1.1 2 j rfl (Or.inl rfl) hj]
    refine ⟨_, _, r_X3_power_ok S j on, ⟨h.1.power hN hj on, ?_⟩, ?_, k_X3_power_ok l g b N S Fl hN j hj on hon (h.1.ix hN), ?_⟩
    · unfold s_X3_power_ok
      split
      · exact h.2
      · split
        · unfold s_X2_leaveRing
          rw [up2_f (by decide), up2_f (by decide), up2_f (by decide), frl_45, up2_f (by decide)]; exact h.2
        · rw [frl_45, up2_f (by decide)]; exact h.2
    · unfold r_X3_power_ok
      split
      · exact Or.inl rfl
      · exact Or.inr rfl
    · rw [e]; exact k_X4_power_ok l g d N M G hN j hj on hon (h.1.jm hN)
theorem p_tick (l : Launch) (g : GX) (b d : Nat) (h : SimC N c S M Fl G) (hN : N ≤ 6) (x : Int32) : ∃ S2 M2 Fl2 G2 c2 v, SimC N c2 S2 M2 Fl2 G2 ∧ c2 ≤ c + 100 ∧ (v = 0 ∨ v = 1) ∧ MR l yX3_tick (.code yX3_tick cX3_tick 4 (some .boolean) :: tb) (rmk 6 136) g (RepX g b N S Fl) (RepX g b N S2 Fl2) (AX b N) [.ref b, .int x] (some (.int v)) ∧ MR l yX4_tick (.code yX4_tick cX4_tick 4 (some .boolean) :: tb) (rmk 3 70) g (RepM g d N M G) (RepM g d N M2 G2) (AM d) [.ref d, .int x] (some (.int v)) := by
  by_cases hx : x < nI 1 ∨ ¬ x ≤ nI 100
  · exact ⟨S, M, Fl, G, c, _, h, by omega, Or.inl rfl, k_X3_tick_bad l g b N S Fl hN x hx, k_X4_tick_bad l g d N M G hN x hx⟩
  · have h1 : ¬ x < nI 1 := fun q => hx (Or.inl q)
    have h2 : x ≤ nI 100 := Decidable.not_not.mp (fun q => hx (Or.inr q))
    obtain ⟨k, hk, rfl⟩ := nI_of2 (M := nI 100) (n := 100) (by decide) (x := x) (fun q => h1 (by
      rw [Int32.lt_iff_toInt_lt] at q ⊢
      have e0 : (0 : Int32).toInt = 0 := by decide
      have e1 : (nI 1).toInt = 1 := by decide
      omega)) h2
    have hk1 : 1 ≤ k := by
      rcases Nat.eq_zero_or_pos k with h0 | h0
      · subst h0; exact absurd (by decide) h1
      · exact h0
    exact ⟨_, _, _, _, c + k, _, SimC.tick hN h k, by omega, Or.inr rfl, k_X3_tick_ok l g b N S Fl hN k hk1 hk _ (PXsim hN) ⟨M, G, h.1⟩, k_X4_tick_ok l g d N M G hN k hk1 hk _ (PMsim hN) ⟨S, Fl, h.1⟩⟩
theorem p_ring (l : Launch) (g : GX) (b d : Nat) (h : SimC N c S M Fl G) (hN : N ≤ 6) (x : Int32) : ∃ v, MR l yX3_ring (.code yX3_ring cX3_ring 2 (some .int) :: tb) (rmk 1 21) g (RepX g b N S Fl) (RepX g b N S Fl) (AX b N) [.ref b, .int x] (some (.int v)) ∧ MR l yX4_ring (.code yX4_ring cX4_ring 2 (some .int) :: tb) (rmk 1 21) g (RepM g d N M G) (RepM g d N M G) (AM d) [.ref d, .int x] (some (.int v)) := by
  rcases st_or hN x with hb | ⟨j, hj, rfl⟩
  · exact ⟨_, k_X3_ring_bad l g b N S Fl hN x hb, k_X4_ring_bad l g d N M G hN x hb⟩
  · refine ⟨S 3 j, k_X3_ring_ok l g b N S Fl hN j hj, ?_⟩
    rw [show S 3 j = M 34 j from h.1.1 3 j rfl (Or.inl rfl) hj]
    exact k_X4_ring_ok l g d N M G hN j hj
theorem p_state (l : Launch) (g : GX) (b d : Nat) (h : SimC N c S M Fl G) (hN : N ≤ 6) (x : Int32) : ∃ v, MR l yX3_state (.code yX3_state cX3_state 3 (some .int) :: tb) (rmk 2 42) g (RepX g b N S Fl) (RepX g b N S Fl) (AX b N) [.ref b, .int x] (some (.int v)) ∧ MR l yX4_state (.code yX4_state cX4_state 3 (some .int) :: tb) (rmk 2 42) g (RepM g d N M G) (RepM g d N M G) (AM d) [.ref d, .int x] (some (.int v)) := by
  rcases st_or hN x with hb | ⟨j, hj, rfl⟩
  · exact ⟨_, k_X3_state_bad l g b N S Fl hN x hb, k_X4_state_bad l g d N M G hN x hb⟩
  · have e3 : S 3 j = M 34 j := h.1.1 3 j rfl (Or.inl rfl) hj
    rcases h.1.2.2.2.2.2 j hj with h3 | ⟨f, L, hf, hL, h3, h21, hm⟩
    · exact ⟨_, k_X3_state_off l g b N S Fl hN j hj h3, k_X4_state_off l g d N M G hN j hj (by rw [← e3]; exact h3)⟩
    · have h34 : M 34 j = nI f := by rw [← e3]; exact h3
      obtain ⟨p, hp, h25⟩ := (h.1.ix hN).2.1 f hf
      obtain ⟨L2, hrf, hI⟩ := h.1.2.2.2.1 f hf
      have e28 : S 23 f = M 28 f := h.1.1 23 f rfl (Or.inl rfl) hf
      have eL : L2 = L := nI_inj (by have := hrf.2.1; omega) (by omega) (hrf.2.2.1.symm.trans h21)
      subst eL
      obtain ⟨k, hk, _⟩ := hm
      refine ⟨_, k_X3_state_on l g b N S Fl hN j hj f p hf hp hrf.1 h25 h3, ?_⟩
      rcases hI with ⟨⟨_, _, hn⟩, _⟩ | ⟨_, hb, pm, hpm, h30, h2631, hop⟩
      · have h23 : 0 < S 23 f := by
          rcases hn with hn | hn
          · omega
          · exact hn.2.1
        have ev : r_X3_state_on S N j f p = nI 1 := by
          unfold r_X3_state_on r_X1_claims
          rw [if_neg (i_le0.mpr h23), if_neg n10]
        rw [ev]
        exact k_X4_state_cl l g d N M G hN j hj f hf (by rw [← e28]; exact i_le0.mpr h23) h34
      · have hjN : wr N (f + pm) < N := wr_lt (by omega)
        have ev : r_X3_state_on S N j f p = r_X4_state_on M j f pm (wr N (f + pm)) := by
          unfold r_X3_state_on r_X4_state_on r_X1_claims
          rw [← e28, hb.1, ← h2631, if_pos (show (0 : Int32) ≤ 0 by decide), if_pos (show (0 : Int32) ≤ 0 by decide), if_pos (show nI 0 = (0 : Int32) from rfl)]
          rcases hop with ⟨p1, p2, p3, p4⟩ | ⟨a1, a2, a3, ⟨p3, p4⟩ | hs⟩
          · rw [if_pos p1, if_neg (i_le0.mpr p1)]
            split <;> rfl
          · have epp : p = pm := nI_inj (by omega) (by omega) (h25.symm.trans a2)
            subst epp
            rw [a1, if_neg (by decide), if_pos (show (0 : Int32) ≤ 0 by decide), p3, p4, if_pos (show (0 : Int32) ≤ 0 by decide), if_neg (show ¬ (0 : Int32) ≤ -1 by decide)]
          · have epp : p = pm := nI_inj (by omega) (by omega) (h25.symm.trans a2)
            subst epp
            have hqN : qof (wr N (f + p)) (S 28 f) < 2 * N := qof_lt hjN
            rw [a1, if_neg (by decide), if_pos (show (0 : Int32) ≤ 0 by decide), if_neg (i_le0.mpr hs.1), hs.2.2.2.1, if_pos (nI_pos' (by omega))]
        rw [ev]
        exact k_X4_state_on l g d N M G hN j hj f pm (wr N (f + pm)) hf (by omega) h30 (hrf.2.2.2.1 pm hpm) (by omega) h34
theorem p_operating (l : Launch) (g : GX) (b d : Nat) (h : SimC N c S M Fl G) (hN : N ≤ 6) (x : Int32) : ∃ v, MR l yX3_operating (.code yX3_operating cX3_operating 3 (some .int) :: tb) (rmk 2 42) g (RepX g b N S Fl) (RepX g b N S Fl) (AX b N) [.ref b, .int x] (some (.int v)) ∧ MR l yX4_operating (.code yX4_operating cX4_operating 2 (some .int) :: tb) (rmk 2 42) g (RepM g d N M G) (RepM g d N M G) (AM d) [.ref d, .int x] (some (.int v)) := by
  rcases st_or hN x with hb | ⟨j, hj, rfl⟩
  · exact ⟨_, k_X3_operating_bad l g b N S Fl hN x hb, k_X4_operating_bad l g d N M G hN x hb⟩
  · have e3 : S 3 j = M 34 j := h.1.1 3 j rfl (Or.inl rfl) hj
    rcases h.1.2.2.2.2.2 j hj with h3 | ⟨f, L, hf, hL, h3, h21, hm⟩
    · exact ⟨_, k_X3_operating_off l g b N S Fl hN j hj h3, k_X4_operating_off l g d N M G hN j hj (by rw [← e3]; exact h3)⟩
    · have h34 : M 34 j = nI f := by rw [← e3]; exact h3
      obtain ⟨p, hp, h25⟩ := (h.1.ix hN).2.1 f hf
      obtain ⟨L2, hrf, hI⟩ := h.1.2.2.2.1 f hf
      have eL : L2 = L := nI_inj (by have := hrf.2.1; omega) (by omega) (hrf.2.2.1.symm.trans h21)
      subst eL
      obtain ⟨k, hk, _⟩ := hm
      refine ⟨_, k_X3_operating_on l g b N S Fl hN j hj f p hf hp hrf.1 h25 h3, ?_⟩
      have ev : r_X3_operating_on S j f p = M 29 f := by
        unfold r_X3_operating_on r_X1_claims
        rcases hI with ⟨⟨_, _, hn⟩, _⟩ | ⟨_, hb, pm, hpm, h30, h2631, hop⟩
        · rcases hn with hn | hn
          · omega
          · rw [if_neg (i_le0.mpr hn.2.1), if_neg n10, hn.2.2]; rfl
        · rw [hb.1, if_pos (show (0 : Int32) ≤ 0 by decide), if_pos (show nI 0 = (0 : Int32) from rfl)]; exact hb.2.1
      rw [ev]
      exact k_X4_operating_go l g d N M G hN j hj f hf h34
theorem p_station (l : Launch) (g : GX) (b d : Nat) (h : SimC N c S M Fl G) (hN : N ≤ 6) (x w : Int32) : ∃ v, MR l yX3_station (.code yX3_station cX3_station 4 (some .int) :: tb) (rmk 1 21) g (RepX g b N S Fl) (RepX g b N S Fl) (AX b N) [.ref b, .int x, .int w] (some (.int v)) ∧ MR l yX4_station (.code yX4_station cX4_station 3 (some .int) :: tb) (rmk 1 21) g (RepM g d N M G) (RepM g d N M G) (AM d) [.ref d, .int x, .int w] (some (.int v)) := by
  rcases st_or hN x with hb | ⟨j, hj, rfl⟩
  · exact ⟨_, k_X3_station_bad l g b N S Fl hN x w hb, k_X4_station_bad l g d N M G hN x w hb⟩
  · refine ⟨_, k_X3_station_ok l g b N S Fl hN j hj w, ?_⟩
    rw [h.1.station hj w]
    exact k_X4_station_ok l g d N M G hN j hj w
theorem p_rotation (l : Launch) (g : GX) (b d : Nat) (h : SimC N c S M Fl G) (hN : N ≤ 6) (x : Int32) : ∃ v, fOK v ∧ MR l yX3_rotation (.code yX3_rotation cX3_rotation 2 (some .float) :: tb) (rmk 1 21) g (RepX g b N S Fl) (RepX g b N S Fl) (AX b N) [.ref b, .int x] (some (.float v)) ∧ MR l yX4_rotation (.code yX4_rotation cX4_rotation 2 (some .float) :: tb) (rmk 1 21) g (RepM g d N M G) (RepM g d N M G) (AM d) [.ref d, .int x] (some (.float v)) := by
  rcases st_or hN x with hb | ⟨j, hj, rfl⟩
  · exact ⟨_, fOK_0, k_X3_rotation_bad l g b N S Fl hN x hb, k_X4_rotation_bad l g d N M G hN x hb⟩
  · refine ⟨Fl j, (h.1.2.2.1 j hj).2, k_X3_rotation_ok l g b N S Fl hN j hj, ?_⟩
    rw [(h.1.2.2.1 j hj).1]
    exact k_X4_rotation_ok l g d N M G hN j hj
theorem p_share (l : Launch) (g : GX) (b d : Nat) (h : SimC N c S M Fl G) (hN : N ≤ 6) (hc : c < 2 ^ 31) (x : Int32) : ∃ v, MR l yX3_share (.code yX3_share cX3_share 2 (some .double) :: tb) (rmk 1 21) g (RepX g b N S Fl) (RepX g b N S Fl) (AX b N) [.ref b, .int x] (some (.double v)) ∧ MR l yX4_share (.code yX4_share cX4_share 2 (some .double) :: tb) (rmk 1 21) g (RepM g d N M G) (RepM g d N M G) (AM d) [.ref d, .int x] (some (.double v)) := by
  rcases st_or hN x with hb | ⟨j, hj, rfl⟩
  · exact ⟨_, k_X3_share_bad l g b N S Fl hN x hb, k_X4_share_bad l g d N M G hN x hb⟩
  · refine ⟨_, k_X3_share_ok l g b N S Fl hN j hj, ?_⟩
    rw [h.share hc hj]
    exact k_X4_share_ok l g d N M G hN j hj
theorem p_longest (l : Launch) (g : GX) (b d : Nat) (h : SimC N c S M Fl G) (hN : N ≤ 6) : ∃ v, MR l yX3_longest (.code yX3_longest cX3_longest 1 (some .int) :: tb) (rmk 0 0) g (RepX g b N S Fl) (RepX g b N S Fl) (AX b N) [.ref b] (some (.int v)) ∧ MR l yX4_longest (.code yX4_longest cX4_longest 1 (some .int) :: tb) (rmk 0 0) g (RepM g d N M G) (RepM g d N M G) (AM d) [.ref d] (some (.int v)) := by
  refine ⟨_, k_X3_longest l g b N S Fl hN, ?_⟩
  rw [show S 46 0 = M 4 0 from h.1.1 46 0 rfl (Or.inl rfl) rfl]
  exact k_X4_longest l g d N M G hN
end PAIRS
