section FIN
variable {N f L : Nat} {S0 M0 S M : SX}
theorem s_rem_c {q z g i : Nat} {v : Int32} (h : g < 41 ∨ 44 < g) : s_rem (up2 S g i v) q z = up2 (s_rem S q z) g i v := by
  unfold s_rem
  split
  · rfl
  · rw [up2_c (f := g) (g := 41) (by omega)]
    funext a b
    by_cases e : a = g
    · subst e
      rw [shf_o (by omega)]
      by_cases e2 : b = i
      · subst e2; rw [up2_eq, up2_eq]
      · rw [up2_i e2, up2_i e2, shf_o (by omega)]
    · rw [up2_f e]
      unfold shf
      simp only [up2_f e]
theorem fin_T3 {p j z t : Nat} (hT : T3 true N f L S0 M0 S M) (hjN : j < N) (hj : wr N (f + p) = j) (hm : mem N f L j) (ht : t < N) (hz : 1 ≤ z) (hz5 : z ≤ 5) :
    T3 true N f L S0 M0 (s_X3_finishFrame S N f p j z t) (s_X4_finish M N f p L (qof j (S 28 f)) z t) := by
  have hq : qof j (S 28 f) < 2 * N := qof_lt hjN
  have e3 : S 3 t = M 34 t := hT.e3 ht
  have e14 : S 14 t = M 15 t := hT.e (g := 14) rfl ht
  have e15 : S 15 t = M 16 t := hT.e (g := 15) rfl ht
  have e17 : S 17 j = M 18 j := hT.e (g := 17) rfl hjN
  have e18 : S 18 j = M 19 j := hT.e (g := 18) rfl hjN
  have e43 : S 43 (5 * qof j (S 28 f)) = M 23 (5 * qof j (S 28 f)) := hT.e (g := 43) rfl (show _ < 10 * N by omega)
  have hR := hT.rem (x := S 28 f) hm hz hz5 hjN
  unfold s_X3_finishFrame s_X4_finish s_X2_receive
  rw [hj, e3, e14, e15, e17, e18, e43]
  split
  · rw [s_rem_c (by decide), s_rem_c (by decide), s_rem_c (by decide), s_rem_c (by decide)]
    rw [up2_c (f := 18) (g := 15) (by decide), up2_c (f := 18) (g := 16) (by decide), up2_c (f := 18) (g := 17) (by decide)]
    exact ((((hR.b (g := 14) rfl (by decide) (by decide) rfl).b (g := 15) rfl (by decide) (by decide) rfl).b (g := 16) rfl (by decide) (by decide) rfl).b (g := 17) rfl (by decide) (by decide) rfl)
  · rw [s_rem_c (by decide), s_rem_c (by decide)]
    rw [up2_c (f := 18) (g := 19) (by decide)]
    exact (hR.b (g := 18) rfl (by decide) (by decide) rfl).b (g := 17) rfl (by decide) (by decide) rfl
theorem fin_o7 {p j z t k : Nat} : s_X3_finishFrame S N f p j z t 7 k = S 7 k := by
  unfold s_X3_finishFrame
  split
  · rw [s_rem_o (by decide), up2_f (by decide), rcv_o (by decide) (by decide) (by decide)]
  · rw [s_rem_o (by decide), up2_f (by decide), up2_f (by decide)]
theorem mfin_12 {p q z t k : Nat} : s_X4_finish M N f p L q z t 12 k = M 12 k := by
  unfold s_X4_finish
  split
  · rw [up2_f (by decide), up2_f (by decide), up2_f (by decide), up2_f (by decide), mto_o (by decide) (by decide)]
  · rw [up2_f (by decide), up2_f (by decide), mto_o (by decide) (by decide)]
theorem fin_QI {p j z t : Nat} (hQ : QI N S) (hjN : j < N) (hz5 : z ≤ 5) (h41 : S 41 (qof j (S 28 f)) = nI z) : QI N (s_X3_finishFrame S N f p j z t) := by
  have hq : qof j (S 28 f) < 2 * N := qof_lt hjN
  unfold s_X3_finishFrame
  split
  · refine QI.rem ?_ hq hz5 ?_
    · refine hQ.o (fun i => ?_) (fun i => ?_) (fun i => ?_) <;> rw [up2_f (by decide), rcv_o (by decide) (by decide) (by decide)]
    · rw [up2_f (by decide), rcv_o (by decide) (by decide) (by decide)]; exact h41
  · refine QI.rem ?_ hq hz5 ?_
    · refine hQ.o (fun i => ?_) (fun i => ?_) (fun i => ?_) <;> rw [up2_f (by decide), up2_f (by decide)]
    · rw [up2_f (by decide), up2_f (by decide)]; exact h41
theorem up_QI {g i : Nat} {v : Int32} (hQ : QI N S) (h : g < 41 ∨ 43 < g) : QI N (up2 S g i v) := hQ.o (fun _ => up2_f (by omega)) (fun _ => up2_f (by omega)) (fun _ => up2_f (by omega))
theorem leave_QI {p : Nat} (hQ : QI N S) : QI N (s_X3_leave S f p L) := by
  unfold s_X3_leave
  split
  · split <;> exact up_QI (up_QI hQ (by decide)) (by decide)
  · exact up_QI (up_QI hQ (by decide)) (by decide)
theorem beg_QI {p : Nat} (hQ : QI N S) : QI N (s_X3_beginFrameOrLeave S N f p L) := by
  unfold s_X3_beginFrameOrLeave
  split
  · split
    · split
      · exact leave_QI hQ
      · exact up_QI (up_QI (up_QI hQ (by decide)) (by decide)) (by decide)
    · exact up_QI (up_QI (up_QI hQ (by decide)) (by decide)) (by decide)
  · split
    · exact leave_QI hQ
    · exact up_QI (up_QI (up_QI hQ (by decide)) (by decide)) (by decide)
/-- a tick of a frame -/
def pf1 (S : SX) (f j : Nat) : SX := if S 28 f = 0 ∧ ¬ S 8 j ≤ 0 then up2 (up2 S 27 f ((S 27 f) - (nI 1))) 8 j (S 8 j - nI 1) else up2 S 27 f ((S 27 f) - (nI 1))
def mf1 (M : SX) (f j q : Nat) : SX := if q % 2 = 1 ∧ ¬ M 9 j ≤ 0 then up2 (up2 M 33 f ((M 33 f) - (nI 1))) 9 j (M 9 j - nI 1) else up2 M 33 f ((M 33 f) - (nI 1))
theorem x_pf {p z t : Nat} : s_X3_passFrame S N f p z t = if S 27 f - nI 1 = 0 then s_X3_finishFrame (pf1 S f (wr N (f + p))) N f p (wr N (f + p)) z t else pf1 S f (wr N (f + p)) := by
  unfold s_X3_passFrame pf1
  by_cases h1 : S 28 f = 0
  · rw [if_pos h1]
    by_cases h2 : S 8 (wr N (f + p)) ≤ 0
    · have hn : ¬ (S 28 f = 0 ∧ ¬ S 8 (wr N (f + p)) ≤ 0) := fun q => q.2 h2
      simp only [if_pos h2, if_neg hn]
    · have hn : S 28 f = 0 ∧ ¬ S 8 (wr N (f + p)) ≤ 0 := ⟨h1, h2⟩
      simp only [if_neg h2, if_pos hn]
  · have hn : ¬ (S 28 f = 0 ∧ ¬ S 8 (wr N (f + p)) ≤ 0) := fun q => h1 q.1
    simp only [if_neg h1, if_neg hn]
theorem pf1_o {j g k : Nat} (h : g ≠ 27) (h1 : g ≠ 8) : pf1 S f j g k = S g k := by
  unfold pf1
  split
  · rw [up2_f h1, up2_f h]
  · rw [up2_f h]
theorem pf1_27 {j : Nat} : pf1 S f j 27 f = S 27 f - nI 1 := by
  unfold pf1
  split
  · rw [up2_f (by decide), up2_eq]
  · rw [up2_eq]
theorem mf1_o {j q g k : Nat} (h : g ≠ 33) (h1 : g ≠ 9) : mf1 M f j q g k = M g k := by
  unfold mf1
  split
  · rw [up2_f h1, up2_f h]
  · rw [up2_f h]
theorem mf1_33 {j q : Nat} : mf1 M f j q 33 f = M 33 f - nI 1 := by
  unfold mf1
  split
  · rw [up2_f (by decide), up2_eq]
  · rw [up2_eq]
theorem qof_odd {j : Nat} {x : Int32} : qof j x % 2 = 1 ↔ x = 0 := by
  unfold qof
  split
  · next h => exact ⟨fun _ => h, fun _ => by omega⟩
  · next h => exact ⟨fun q => by omega, fun q => absurd q h⟩
theorem qof_2 {j : Nat} {x : Int32} : qof j x / 2 = j := by
  unfold qof
  split <;> omega
theorem pf1_T3 {j : Nat} (hT : T3 true N f L S0 M0 S M) (hjN : j < N) (h33 : S 27 f = M 33 f) : T3 true N f L S0 M0 (pf1 S f j) (mf1 M f j (qof j (S 28 f))) := by
  have e8 : S 8 j = M 9 j := hT.e (g := 8) rfl hjN
  have hT1 := (hT.x (g := 27) (v := M 33 f - nI 1) (by decide) (by decide)).m (g := 33) (v := M 33 f - nI 1) (by decide) (by decide)
  unfold pf1 mf1
  rw [e8, h33]
  by_cases h : S 28 f = 0 ∧ ¬ M 9 j ≤ 0
  · rw [if_pos h, if_pos ⟨qof_odd.mpr h.1, h.2⟩]
    exact hT1.b (g := 8) rfl (by decide) (by decide) rfl
  · rw [if_neg h, if_neg (fun q => h ⟨qof_odd.mp q.1, q.2⟩)]
    exact hT1
/-! a frame's tick, at the station that sends -/
theorem frame_sim {p z t : Nat} (hT : T3 true N f L S0 M0 S M) (hf : f < N) (hp : p < L) (hL : L ≤ N) (hN : N ≤ 6) (hQ : QI N S) (hb : OPB N S M f L) (h30 : M 30 f = nI p) (h26 : S 26 f = 0) (h31 : M 31 f = 0) (h25 : S 25 f = nI p) (h29 : S 29 f = M 12 (wr N (f + p))) (hs : SND N S M f p) (hz5 : z ≤ 5) (ht : t < N) (h41 : S 41 (qof (wr N (f + p)) (S 28 f)) = nI z) (Y W : SX)
    (hY : Y = if (s_X3_passFrame S N f p z t) 27 f = 0 then (s_X3_beginFrameOrLeave (s_X3_passFrame S N f p z t) N f p L) else (s_X3_passFrame S N f p z t))
    (hW : W = if M 33 f - nI 1 = 0 then s_X4_begin (s_X4_finish (mf1 M f (wr N (f + p)) (qof (wr N (f + p)) (S 28 f))) N f p L (qof (wr N (f + p)) (S 28 f)) z t) N f p L else mf1 M f (wr N (f + p)) (qof (wr N (f + p)) (S 28 f))) :
    T3 true N f L S0 M0 Y W ∧ OP N Y W f L ∧ QI N Y := by
  have hjN : wr N (f + p) < N := wr_lt (by omega)
  have hm := mem_k (N := N) (f := f) (L := L) hp
  obtain ⟨s1, s2, s3, s4, s5⟩ := hs
  have hz : 1 ≤ z := by
    rcases Nat.eq_zero_or_pos z with h0 | h0
    · exact absurd (by rw [h41, h0]; rfl) s5
    · exact h0
  have hT1 := pf1_T3 hT hjN s2
  have hQ1 : QI N (pf1 S f (wr N (f + p))) := hQ.o (fun _ => pf1_o (by decide) (by decide)) (fun _ => pf1_o (by decide) (by decide)) (fun _ => pf1_o (by decide) (by decide))
  have e28 : pf1 S f (wr N (f + p)) 28 f = S 28 f := pf1_o (by decide) (by decide)
  rw [x_pf] at hY
  rw [← s2] at hW
  rcases i_dec s1 with h0 | ⟨h0, h1⟩
  · rw [if_pos h0] at hY hW
    have hT2 := fin_T3 (p := p) (z := z) (t := t) hT1 hjN rfl hm ht hz hz5
    rw [e28] at hT2
    have h27 : s_X3_finishFrame (pf1 S f (wr N (f + p))) N f p (wr N (f + p)) z t 27 f = 0 := by rw [fin_o (by decide) (by decide), pf1_27]; exact h0
    rw [if_pos h27] at hY
    have hQ2 : QI N (s_X3_finishFrame (pf1 S f (wr N (f + p))) N f p (wr N (f + p)) z t) := fin_QI hQ1 hjN hz5 (by rw [e28, pf1_o (by decide) (by decide)]; exact h41)
    rw [hY, hW]
    have := begin_sim hT2 hf hp hL hN hQ2 ⟨?_, ?_, fun k hk => ?_⟩ ?_ ?_ ?_ ?_ ?_ h27 mfin_32
    · exact ⟨this.1, this.2, beg_QI hQ2⟩
    · rw [fin_o (by decide) (by decide), pf1_o (by decide) (by decide)]; exact hb.1
    · rw [fin_o (by decide) (by decide), pf1_o (by decide) (by decide), mfin_o (by decide) (by decide), mf1_o (by decide) (by decide)]; exact hb.2.1
    · rw [fin_o7, pf1_o (by decide) (by decide)]; exact hb.2.2 k hk
    · rw [mfin_o (by decide) (by decide), mf1_o (by decide) (by decide)]; exact h30
    · rw [fin_o (by decide) (by decide), pf1_o (by decide) (by decide)]; exact h26
    · rw [mfin_o (by decide) (by decide), mf1_o (by decide) (by decide)]; exact h31
    · rw [fin_o (by decide) (by decide), pf1_o (by decide) (by decide)]; exact h25
    · rw [fin_o (by decide) (by decide), pf1_o (by decide) (by decide), mfin_12, mf1_o (by decide) (by decide)]; exact h29
  · rw [if_neg h0] at hY hW
    rw [if_neg (by rw [pf1_27]; exact h0)] at hY
    rw [hY, hW]
    refine ⟨hT1, ⟨by omega, ⟨?_, ?_, fun k hk => ?_⟩, p, hp, ?_, ?_, Or.inr ⟨?_, ?_, ?_, Or.inr ⟨?_, ?_, ?_, ?_, ?_⟩⟩⟩, hQ1⟩
    · rw [pf1_o (by decide) (by decide)]; exact hb.1
    · rw [pf1_o (by decide) (by decide), mf1_o (by decide) (by decide)]; exact hb.2.1
    · rw [pf1_o (by decide) (by decide)]; exact hb.2.2 k hk
    · rw [mf1_o (by decide) (by decide)]; exact h30
    · rw [pf1_o (by decide) (by decide), mf1_o (by decide) (by decide), h26, h31]
    · rw [pf1_o (by decide) (by decide)]; exact h26
    · rw [pf1_o (by decide) (by decide)]; exact h25
    · rw [pf1_o (by decide) (by decide), mf1_o (by decide) (by decide)]; exact h29
    · rw [pf1_27]; exact h1
    · rw [pf1_27, mf1_33, s2]
    · rw [e28]; exact s3
    · rw [e28, mf1_o (by decide) (by decide)]; exact s4
    · rw [e28, pf1_o (by decide) (by decide)]; exact s5
/-! the ring claims again -/
theorem pos2 {L : Nat} (h : 1 ≤ L) (h2 : L ≤ 6) : 0 < nI (2 * L) := nI_lt (a := 0) (by omega) (by omega)
theorem clm_i_sim {c : Bool} {p z : Nat} (hT : T3 c N f L S0 M0 S M) (hL1 : 1 ≤ L) (hL : L ≤ 6) (h27 : S 27 f = 0) (h32 : M 32 f = -1) :
    T3 c N f L S0 M0 (s_X3_claim S N f p z L) (s_X4_claim_i M f L) ∧ NOP (s_X3_claim S N f p z L) (s_X4_claim_i M f L) f L ∧ s_X3_claim S N f p z L 25 f = S 25 f ∧ (QI N S → QI N (s_X3_claim S N f p z L)) := by
  have e : s_X3_loseFrameBeingSent S N f p z = S := by unfold s_X3_loseFrameBeingSent; rw [if_pos (by rw [h27]; decide)]
  unfold s_X3_claim s_X4_claim_i
  rw [e]
  refine ⟨((hT.b23 rfl).m (by decide) (by decide)).m (by decide) (by decide), ⟨?_, ?_, Or.inr ⟨hL1, ?_, ?_⟩⟩, up2_f (by decide), fun hQ => up_QI hQ (by decide)⟩
  · rw [up2_f (by decide)]; exact h27
  · rw [up2_f (by decide), up2_f (by decide), up2_f (by decide)]; exact h32
  · rw [up2_eq]; exact pos2 hL1 hL
  · rw [up2_f (by decide), up2_eq]; rfl
theorem clm_s_sim {c : Bool} {p z : Nat} (hT : T3 c N f L S0 M0 S M) (hf : f < N) (hp : p < L) (hN : N ≤ 6) (hLN : L ≤ N) (hs : SND N S M f p) (hz5 : z ≤ 5) (h41 : S 41 (qof (wr N (f + p)) (S 28 f)) = nI z) :
    T3 c N f L S0 M0 (s_X3_claim S N f p z L) (s_X4_claim_s M f (qof (wr N (f + p)) (S 28 f)) z L) ∧ NOP (s_X3_claim S N f p z L) (s_X4_claim_s M f (qof (wr N (f + p)) (S 28 f)) z L) f L ∧ s_X3_claim S N f p z L 25 f = S 25 f ∧ (QI N S → QI N (s_X3_claim S N f p z L)) := by
  have hjN : wr N (f + p) < N := wr_lt (by omega)
  have hm := mem_k (N := N) (f := f) (L := L) hp
  obtain ⟨s1, s2, s3, s4, s5⟩ := hs
  have hz : 1 ≤ z := by
    rcases Nat.eq_zero_or_pos z with h0 | h0
    · exact absurd (by rw [h41, h0]; rfl) s5
    · exact h0
  have e18 : S 18 (wr N (f + p)) = M 19 (wr N (f + p)) := hT.e (g := 18) rfl hjN
  unfold s_X3_claim s_X4_claim_s s_X3_loseFrameBeingSent
  rw [if_neg (i_le0.mpr s1), qof_2, e18]
  have e28 : up2 S 18 (wr N (f + p)) (M 19 (wr N (f + p)) + nI 1) 28 f = S 28 f := up2_f (by decide)
  have hT1 := T3.rem (x := S 28 f) (hT.b (g := 18) (i := wr N (f + p)) (v := M 19 (wr N (f + p)) + nI 1) (w := M 19 (wr N (f + p)) + nI 1) rfl (by decide) (by decide) rfl) hm hz hz5 hjN
  rw [← s_rem_c (by decide)]
  refine ⟨((((hT1.x (g := 27) (by decide) (by decide)).b23 rfl).m (by decide) (by decide)).m (by decide) (by decide)), ⟨?_, ?_, Or.inr ⟨by omega, ?_, ?_⟩⟩, ?_, fun hQ => up_QI (up_QI (QI.rem (up_QI hQ (by decide)) (qof_lt hjN) hz5 (by rw [up2_f (by decide)]; exact h41)) (by decide)) (by decide)⟩
  · rw [up2_f (by decide), up2_eq]; rfl
  · rw [up2_f (by decide), up2_f (by decide), up2_f (by decide)]
    unfold mto
    rw [up2_eq]
  · rw [up2_eq]; exact pos2 (by omega) (by omega)
  · rw [up2_f (by decide), up2_eq]; rfl
  · rw [up2_f (by decide), up2_f (by decide), s_rem_o (by decide), up2_f (by decide)]
end FIN
