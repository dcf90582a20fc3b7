section OPS
variable {N c : Nat} {S M S2 M2 : SX} {Fl G : FX}
theorem EE.on (h : EE N false S M) (h3 : ∀ j, j < N → S 3 j = M 34 j) : EE N true S M := by
  intro g i hg hc hd
  by_cases e : g = 3
  · subst e; exact h3 i hd
  · exact h g i hg (Or.inr e) hd
theorem Sim.of_arr (hN : N ≤ 6) (hN1 : 1 ≤ N) (hE : EE N false S M) (hQ : QI N S) (hF : FE N Fl G) (hR : ∀ f, f < N → RI N S M f) (hoff : ∀ j, j < N → S 2 j = 0 → S 3 j = -1) : Sim N (frl N (allj N S N) S N) (marr N M) Fl G := by
  obtain ⟨aE, aQ, aR, a2, aon, aoff, _⟩ := arr_all hN hN1 hE hQ hR _ _ rfl rfl
  generalize frl N (allj N S N) S N = S2 at *
  generalize marr N M = M2 at *
  refine ⟨aE.on (fun j hj => ?_), aQ, hF, aR, fun j hj h2 => ?_, fun j hj => ?_⟩
  · by_cases h : S 2 j = 0
    · rw [(aoff j hj h).1, (aoff j hj h).2]; exact hoff j hj h
    · obtain ⟨f, L, _, _, _, _, b, c⟩ := aon j hj h; rw [b, c]
  · rw [a2 2 j (Or.inl rfl)] at h2
    rw [(aoff j hj h2).1]; exact hoff j hj h2
  · by_cases h : S 2 j = 0
    · left; rw [(aoff j hj h).1]; exact hoff j hj h
    · obtain ⟨f, L, a, b, c, d, e, _⟩ := aon j hj h
      exact Or.inr ⟨f, L, a, c, e, b, d⟩
/-! a cable -/
theorem ext40 {g m j f : Nat} {v w : Int32} (hg : g = 40 ∨ g = 2 ∨ g = 4 ∨ g = 5) (hm : m = 1 ∨ m = 2 ∨ m = 5 ∨ m = 6) (h : RI N S M f) : RI N (up2 S g j v) (up2 M m j w) f :=
  h.ext (fun a b c => up2_f (by omega)) (fun a b c => up2_f (by omega)) (fun k => up2_f (by omega)) (fun L k _ _ _ => ⟨up2_f (by omega), up2_f (by omega), up2_f (by omega), fun x hx => by rw [up2_f (by omega)]; exact hx⟩)
theorem Sim.cable (h : Sim N S M Fl G) (hN : N ≤ 6) {j : Nat} (hj : j < N) (on : Int32) : Sim N (s_X3_cable_ok S N j on) (s_X4_cable_ok M N j on) Fl G := by
  have e : S 40 j = M 2 j := h.1 40 j rfl (Or.inl rfl) hj
  have hs := h
  obtain ⟨hE, hQ, hF, hR, hoff, hst⟩ := h
  unfold s_X3_cable_ok s_X4_cable_ok
  rw [e]
  by_cases h1 : M 2 j = on
  · rw [if_pos h1, if_pos h1]; exact hs
  · rw [if_neg h1, if_neg h1]
    refine Sim.of_arr hN (by omega) ((hE.up (f := 40) rfl).off) (up_QI hQ (by decide)) hF (fun f hf => ext40 (by omega) (by omega) (hR f hf)) (fun k hk h2 => ?_)
    rw [up2_f (by decide)]; rw [up2_f (by decide)] at h2; exact hoff k hk h2
theorem up41_QI {q : Nat} (h : QI N S) : QI N (up2 S 41 q (nI 0)) := by
  refine ⟨fun q2 hq2 => ?_, fun i hi => by rw [up2_f (by decide)]; exact h.2 i hi⟩
  by_cases e : q2 = q
  · subst e; exact ⟨0, by omega, up2_eq _ _ _ _, fun k hk => absurd hk (by omega)⟩
  · obtain ⟨z, a, b, c⟩ := h.1 q2 hq2
    exact ⟨z, a, by rw [up2_i e]; exact b, fun k hk => by rw [up2_f (by decide)]; exact c k hk⟩
theorem Sim.power (h : Sim N S M Fl G) (hN : N ≤ 6) {j : Nat} (hj : j < N) (on : Int32) : Sim N (s_X3_power_ok S N j on) (s_X4_power_ok M N j on) Fl G := by
  have e : S 2 j = M 1 j := h.1 2 j rfl (Or.inl rfl) hj
  have hs := h
  obtain ⟨hE, hQ, hF, hR, hoff, hst⟩ := h
  unfold s_X3_power_ok s_X4_power_ok
  rw [e]
  by_cases h1 : M 1 j = on
  · rw [if_pos h1, if_pos h1]; exact hs
  · rw [if_neg h1, if_neg h1]
    have hE1 : EE N false (up2 S 2 j on) (up2 M 1 j on) := (hE.up (f := 2) (i := j) (v := on) rfl).off
    have hQ1 : QI N (up2 S 2 j on) := up_QI hQ (by decide)
    have hR1 : ∀ f, f < N → RI N (up2 S 2 j on) (up2 M 1 j on) f := fun f hf => ext40 (by omega) (by omega) (hR f hf)
    by_cases h0 : on = 0
    · rw [if_pos h0, if_pos h0]
      obtain ⟨aE, aQ, aR, a2, aon, aoff, amem⟩ := arr_all hN (by omega) hE1 hQ1 hR1 _ _ rfl rfl
      have hjoff : up2 S 2 j on 2 j = 0 := by rw [up2_eq]; exact h0
      have hother : ∀ k, k ≠ j → up2 S 2 j on 2 k = S 2 k := fun k hk => up2_i hk
      have h3 : ∀ k, up2 S 2 j on 3 k = S 3 k := fun k => up2_f (by decide)
      generalize up2 S 2 j on = S1 at *
      generalize up2 M 1 j on = M1 at *
      generalize frl N (allj N S1 N) S1 N = S2 at *
      generalize marr N M1 = M2 at *
      unfold s_X2_leaveRing
      have aR' : ∀ f, f < N → RI N (up2 (up2 (up2 S2 3 j (-1)) 41 (2 * j) (nI 0)) 41 (2 * j + 1) (nI 0)) (up2 (up2 M2 21 (2 * j) (nI 0)) 21 (2 * j + 1) (nI 0)) f := by
        intro f hf
        refine (aR f hf).ext (fun g a b => by rw [up2_f (by omega), up2_f (by omega), up2_f (by omega)]) (fun g a b => by rw [up2_f (by omega), up2_f (by omega)]) (fun k => by rw [up2_f (by omega), up2_f (by omega)]) (fun L k hL h21 hk => ?_)
        have hne : wr N (f + k) ≠ j := fun q => amem f L hf hL h21 k hk (by rw [q]; exact hjoff)
        refine ⟨by rw [up2_f (by decide), up2_f (by decide), up2_i hne], by rw [up2_f (by decide), up2_f (by decide), up2_f (by decide)], by rw [up2_f (by decide), up2_f (by decide)], fun x hx => ?_⟩
        rw [up2_i (by unfold qof; split <;> omega), up2_i (by unfold qof; split <;> omega), up2_f (by decide)]
        exact hx
      refine ⟨EE.on ?_ (fun k hk => ?_), up41_QI (up41_QI (up_QI aQ (by decide))), hF, aR', fun k hk h2 => ?_, fun k hk => ?_⟩
      · exact ((aE.x3.up (f := 41) rfl).up (f := 41) rfl)
      · have m34 : up2 (up2 M2 21 (2 * j) (nI 0)) 21 (2 * j + 1) (nI 0) 34 k = M2 34 k := by rw [up2_f (by decide), up2_f (by decide)]
        rw [m34, up2_f (show (3 : Nat) ≠ 41 by decide), up2_f (show (3 : Nat) ≠ 41 by decide)]
        by_cases ek : k = j
        · subst ek; rw [up2_eq, (aoff k hk hjoff).2]
        · rw [up2_i ek]
          by_cases h5 : S1 2 k = 0
          · rw [(aoff k hk h5).1, (aoff k hk h5).2, h3]; exact hoff k hk (by rw [← hother k ek]; exact h5)
          · obtain ⟨f, L, _, _, _, _, b, c⟩ := aon k hk h5; rw [b, c]
      · rw [up2_f (by decide), up2_f (by decide)]
        rw [up2_f (by decide), up2_f (by decide), up2_f (by decide), a2 2 k (Or.inl rfl)] at h2
        by_cases ek : k = j
        · subst ek; rw [up2_eq]
        · rw [up2_i ek, (aoff k hk h2).1, h3]; exact hoff k hk (by rw [← hother k ek]; exact h2)
      · rw [up2_f (by decide), up2_f (by decide)]
        by_cases ek : k = j
        · subst ek; rw [up2_eq]; exact Or.inl rfl
        · rw [up2_i ek]
          by_cases h5 : S1 2 k = 0
          · left; rw [(aoff k hk h5).1, h3]; exact hoff k hk (by rw [← hother k ek]; exact h5)
          · obtain ⟨f, L, a, b, c, d, e, _⟩ := aon k hk h5
            exact Or.inr ⟨f, L, a, c, e, by rw [up2_f (by decide), up2_f (by decide), up2_f (by decide)]; exact b, d⟩
    · rw [if_neg h0, if_neg h0, up2_self, up2_self]
      refine Sim.of_arr hN (by omega) hE1 hQ1 hF hR1 (fun k hk h2 => ?_)
      rw [up2_f (by decide)]
      by_cases ek : k = j
      · subst ek; rw [up2_eq] at h2; exact absurd h2 h0
      · rw [up2_i ek] at h2; exact hoff k hk h2
/-! bids and allotments -/
theorem Sim.up4 (h : Sim N S M Fl G) {g j : Nat} {v : Int32} (hg : g = 4 ∨ g = 5) : Sim N (up2 S g j v) (up2 M (mpf g) j v) Fl G := by
  obtain ⟨hE, hQ, hF, hR, hoff, hst⟩ := h
  have hi : isE g = true := by rcases hg with rfl | rfl <;> rfl
  refine ⟨hE.up hi, up_QI hQ (by omega), hF, fun f hf => ext40 (by omega) (by rcases hg with rfl | rfl <;> decide) (hR f hf), fun k hk h2 => ?_, fun k hk => ?_⟩
  · rw [up2_f (by omega)]; rw [up2_f (by omega)] at h2; exact hoff k hk h2
  · rw [up2_f (by omega)]
    rcases hst k hk with h | ⟨f, L, a, b, c, d, e⟩
    · exact Or.inl h
    · exact Or.inr ⟨f, L, a, b, c, by rw [up2_f (by omega)]; exact d, e⟩
theorem Sim.bid (h : Sim N S M Fl G) {j : Nat} {t : Int32} : Sim N (s_X3_bid_ok S j t) (s_X4_bid_ok M j t) Fl G := by
  unfold s_X3_bid_ok s_X4_bid_ok
  split
  · exact h
  · split
    · exact h.up4 (g := 4) (Or.inl rfl)
    · exact h
theorem Sim.allot (h : Sim N S M Fl G) {j : Nat} {t : Int32} : Sim N (s_X3_allot_ok S j t) (s_X4_allot_ok M j t) Fl G := by
  unfold s_X3_allot_ok s_X4_allot_ok
  split
  · exact h
  · split
    · exact h.up4 (g := 5) (Or.inr rfl)
    · exact h
/-! a frame more -/
theorem Sim.add (h : Sim N S M Fl G) (hN : N ≤ 6) {q z t : Nat} {n pr : Int32} (hq : q < 2 * N) (hz : z < 5) (h41 : S 41 q = nI z) (ht : t < N) (hn : 0 < n) :
    Sim N (up2 (up2 (up2 (up2 S 42 (5 * q + z) (nI t)) 43 (5 * q + z) n) 44 (5 * q + z) pr) 41 q (nI (z + 1))) (up2 (up2 (up2 (up2 M 22 (5 * q + z) (nI t)) 23 (5 * q + z) n) 24 (5 * q + z) pr) 21 q (nI (z + 1))) Fl G := by
  obtain ⟨hE, hQ, hF, hR, hoff, hst⟩ := h
  refine ⟨(((hE.up (f := 42) rfl).up (f := 43) rfl).up (f := 44) rfl).up (f := 41) rfl, ⟨fun q2 hq2 => ?_, fun i hi => ?_⟩, hF, fun f hf => (hR f hf).ext (fun g a b => by rw [up2_f (by omega), up2_f (by omega), up2_f (by omega), up2_f (by omega)]) (fun g a b => by rw [up2_f (by omega), up2_f (by omega), up2_f (by omega), up2_f (by omega)]) (fun k => by rw [up2_f (by omega), up2_f (by omega), up2_f (by omega), up2_f (by omega)]) (fun L k _ _ _ => ⟨by rw [up2_f (by omega), up2_f (by omega), up2_f (by omega), up2_f (by omega)], by rw [up2_f (by omega), up2_f (by omega), up2_f (by omega), up2_f (by omega)], by rw [up2_f (by omega), up2_f (by omega), up2_f (by omega), up2_f (by omega)], fun x hx => ?_⟩), fun k hk h2 => ?_, fun k hk => ?_⟩
  · obtain ⟨z2, a, b, c⟩ := hQ.1 q2 hq2
    by_cases e : q2 = q
    · subst e
      have : z2 = z := nI_inj (by omega) (by omega) (b.symm.trans h41)
      subst this
      refine ⟨z2 + 1, by omega, up2_eq _ _ _ _, fun k hk => ?_⟩
      rw [up2_f (by decide), up2_f (by decide)]
      by_cases ek : k = z2
      · subst ek; rw [up2_eq]; exact hn
      · rw [up2_i (by omega), up2_f (by decide)]; exact c k (by omega)
    · refine ⟨z2, a, by rw [up2_i e, up2_f (by decide), up2_f (by decide), up2_f (by decide)]; exact b, fun k hk => ?_⟩
      rw [up2_f (by decide), up2_f (by decide), up2_i (by omega), up2_f (by decide)]
      exact c k hk
  · rw [up2_f (by decide), up2_f (by decide), up2_f (by decide)]
    by_cases e : i = 5 * q + z
    · subst e; exact ⟨t, ht, up2_eq _ _ _ _⟩
    · rw [up2_i e]; exact hQ.2 i hi
  · by_cases e : qof (wr N (f + k)) x = q
    · rw [e, up2_eq]; exact nI_ne0 (by omega) (by omega)
    · rw [up2_i e, up2_f (by decide), up2_f (by decide), up2_f (by decide)]; exact hx
  · rw [up2_f (by decide), up2_f (by decide), up2_f (by decide), up2_f (by decide)]
    rw [up2_f (by decide), up2_f (by decide), up2_f (by decide), up2_f (by decide)] at h2
    exact hoff k hk h2
  · rw [up2_f (by decide), up2_f (by decide), up2_f (by decide), up2_f (by decide)]
    rcases hst k hk with h | ⟨f, L, a, b, c, d, e⟩
    · exact Or.inl h
    · exact Or.inr ⟨f, L, a, b, c, by rw [up2_f (by decide), up2_f (by decide), up2_f (by decide), up2_f (by decide)]; exact d, e⟩
theorem qof1 {j : Nat} : qof j (nI 1) = 2 * j := by unfold qof; rw [if_neg n10]
theorem qof0 {j : Nat} : qof j (nI 0) = 2 * j + 1 := rfl
theorem ge1 {n : Int32} (h : ¬ n < nI 1) : 0 < n := by
  rw [Int32.lt_iff_toInt_lt] at h ⊢
  have e0 : (0 : Int32).toInt = 0 := by decide
  have e1 : (nI 1).toInt = 1 := by decide
  omega
theorem Sim.send (h : Sim N S M Fl G) (hN : N ≤ 6) {j t z0 z1 : Nat} {n pr : Int32} (hj : j < N) (ht : t < N) (h1 : S 41 (qof j (nI 1)) = nI z1) (h0 : S 41 (qof j (nI 0)) = nI z0) : Sim N (s_X3_send_ok S j t n pr z0 z1) (s_X4_send_ok M j t n pr z0 z1) Fl G ∧ r_X3_send_ok S j t n pr z0 z1 = r_X4_send_ok M j t n pr z0 z1 := by
  refine ⟨?_, rfl⟩
  rw [qof1] at h1
  rw [qof0] at h0
  unfold s_X3_send_ok s_X4_send_ok s_X0_addLast
  rw [qof1, qof0]
  split
  · exact h
  · split
    · exact h
    · next hn =>
      split
      · exact h
      · split
        · exact h
        · split
          · split
            · split
              · next hz => exact h.add hN (by omega) hz h1 ht (ge1 hn)
              · exact h
            · split
              · next hz => exact h.add hN (by omega) hz h0 ht (ge1 hn)
              · exact h
          · exact h
/-! answers -/
theorem Sim.station (h : Sim N S M Fl G) {j : Nat} (hj : j < N) (w : Int32) : r_X3_station_ok S j w = r_X4_station_ok M j w := by
  have e6 : S 6 j = M 7 j := h.1 6 j rfl (Or.inl rfl) hj
  have e7 : S 7 j = M 8 j := h.1 7 j rfl (Or.inl rfl) hj
  have e8 : S 8 j = M 9 j := h.1 8 j rfl (Or.inl rfl) hj
  have e9 : S 9 j = M 10 j := h.1 9 j rfl (Or.inl rfl) hj
  have e12 : S 12 j = M 14 j := h.1 12 j rfl (Or.inl rfl) hj
  have e14 : S 14 j = M 15 j := h.1 14 j rfl (Or.inl rfl) hj
  have e15 : S 15 j = M 16 j := h.1 15 j rfl (Or.inl rfl) hj
  have e16 : S 16 j = M 17 j := h.1 16 j rfl (Or.inl rfl) hj
  have e17 : S 17 j = M 18 j := h.1 17 j rfl (Or.inl rfl) hj
  have e18 : S 18 j = M 19 j := h.1 18 j rfl (Or.inl rfl) hj
  have ea : S 41 (2 * j) = M 21 (2 * j) := h.1 41 _ rfl (Or.inl rfl) (show _ < 2 * N by omega)
  have eb : S 41 (2 * j + 1) = M 21 (2 * j + 1) := h.1 41 _ rfl (Or.inl rfl) (show _ < 2 * N by omega)
  unfold r_X3_station_ok r_X4_station_ok
  rw [e6, e7, e8, e9, e12, e14, e15, e16, e17, e18, ea, eb]
  by_cases c0 : w = nI 0
  · subst c0; rfl
  by_cases c1 : w = nI 1
  · subst c1; rfl
  by_cases c2 : w = nI 2
  · subst c2; rfl
  by_cases c3 : w = nI 3
  · subst c3; rfl
  by_cases c4 : w = nI 4
  · subst c4; rfl
  by_cases c5 : w = nI 5
  · subst c5; rfl
  by_cases c6 : w = nI 6
  · subst c6; rfl
  by_cases c7 : w = nI 7
  · subst c7; rfl
  by_cases c8 : w = nI 8
  · subst c8; rfl
  by_cases c9 : w = nI 9
  · subst c9; rfl
  by_cases c10 : w = nI 10
  · subst c10; rfl
  by_cases c11 : w = nI 11
  · subst c11; rfl
  have c0' : ¬ w = 0 := c0
  rcases sw_out c0 c1 c2 c3 c4 c5 c6 c7 c8 c9 c10 c11 with hw | hw
  · have h4 : ¬ nI 4 ≤ w := by
      rw [Int32.le_iff_toInt_le]
      have : (nI 4).toInt = 4 := by decide
      omega
    simp only [if_neg c0, if_neg c1, if_neg c2, if_neg c3, if_neg c4, if_neg c5, if_neg c6, if_neg c7, if_neg c8, if_neg c9, if_neg c10, if_neg c11, if_neg h4, if_neg c0']
  · have h4 : nI 4 ≤ w := by
      rw [Int32.le_iff_toInt_le]
      have : (nI 4).toInt = 4 := by decide
      omega
    have h8 : nI 8 ≤ w := by
      rw [Int32.le_iff_toInt_le]
      have : (nI 8).toInt = 8 := by decide
      omega
    simp only [if_neg c0, if_neg c1, if_neg c2, if_neg c3, if_neg c4, if_neg c5, if_neg c6, if_neg c7, if_neg c8, if_neg c9, if_neg c10, if_neg c11, if_pos h4, if_pos h8]
theorem SimC.share (h : SimC N c S M Fl G) (hc : c < 2 ^ 31) {j : Nat} (hj : j < N) : r_X3_share_ok S j = r_X4_share_ok M j := by
  have e17 : S 17 j = M 18 j := h.1.1 17 j rfl (Or.inl rfl) hj
  have e45 : S 45 0 = M 3 0 := h.1.1 45 0 rfl (Or.inl rfl) rfl
  unfold r_X3_share_ok r_X4_share_ok
  rw [e17, ← e45, h.2]
  rcases Nat.eq_zero_or_pos c with h0 | h0
  · subst h0; rfl
  · rw [if_neg (nI_ne0 h0 hc), if_neg (nI_nle h0 hc)]
end OPS
