section TICK
variable {N f L : Nat} {S M : SX} {Fl G : FX}
def FE (N : Nat) (Fl G : FX) : Prop := ∀ j, j < N → Fl j = G j ∧ fOK (Fl j)
theorem FE.up (h : FE N Fl G) {j : Nat} {x y : Int32} (hj : j < N) (hx : x = y) : FE N (va_up Fl j (rotf (Fl j) x)) (va_up G j (rotf (G j) y)) := by
  intro k hk
  by_cases e : k = j
  · subst e
    unfold va_up
    rw [if_pos rfl, if_pos rfl, hx, (h k hk).1]
    exact ⟨rfl, (fOK_step (by rw [← (h k hk).1]; exact (h k hk).2) y).2.2.2⟩
  · unfold va_up
    rw [if_neg e, if_neg e]
    exact h k hk
theorem ring_tick (hE : EE N true S M) (hQ : QI N S) (hF : FE N Fl G) (hf : f < N) (hN : N ≤ 6) (hR : RF N S M f L) (hI : (NOP S M f L ∧ ∃ p, p < N ∧ S 25 f = nI p) ∨ OP N S M f L) :
    T3 true N f L S M (xpS N S f) (mgS N M f) ∧ ((NOP (xpS N S f) (mgS N M f) f L ∧ ∃ p, p < N ∧ xpS N S f 25 f = nI p) ∨ OP N (xpS N S f) (mgS N M f) f L) ∧ QI N (xpS N S f) ∧ FE N (xpF N S Fl f) (mgF N M G f) := by
  obtain ⟨h20, hL, h21, h26, h3⟩ := hR
  have e25 : S 21 f = M 25 f := hE 21 f rfl (Or.inl rfl) hf
  have e28 : S 23 f = M 28 f := hE 23 f rfl (Or.inl rfl) hf
  have hM25 : nv (M 25 f) = L := by rw [← e25, h21, nv_nI (by omega)]
  have hS21 : nv (S 21 f) = L := by rw [h21, nv_nI (by omega)]
  unfold mgS mgF xpS xpF
  rw [hM25, hS21]
  unfold s_X3_passTick f_X3_passTick r_X1_claims
  rcases hI with ⟨⟨n1, n2, n3⟩, hp25⟩ | ⟨hL1, ⟨hb1, hb2, hb3⟩, pm, hpm, h30, h2631, hop⟩
  · rcases n3 with ⟨hL0, h23⟩ | ⟨hL1, h23, h29⟩
    · subst hL0
      rw [h23]
      simp only [if_pos (show (0 : Int32) ≤ 0 by decide), if_pos (show nI 0 = (0 : Int32) from rfl), if_pos (Nat.le_refl 0), if_pos rfl]
      exact ⟨T3.rf hE, Or.inl ⟨⟨n1, n2, Or.inl ⟨rfl, h23⟩⟩, hp25⟩, hQ, hF⟩
    · have hc : ¬ S 23 f ≤ 0 := i_le0.mpr h23
      rw [if_neg (show ¬ L = 0 by omega), if_neg (show ¬ L = 0 by omega)]
      unfold mtS mtF
      rw [← e28, hM25]
      simp only [if_neg hc, if_neg n10]
      have := claim_tick hE hf hL1 hL hN n1 n2 h23 h29 hp25 (nv (S 25 f))
      refine ⟨this.1, this.2, ?_, hF⟩
      unfold s_X3_passClaim
      split
      · refine leave_QI ?_
        refine hQ.o (fun i => ?_) (fun i => ?_) (fun i => ?_) <;> rw [opr_o (by decide) (by decide) (by decide), up2_f (by decide)]
      · exact up_QI hQ (by decide)
  · rw [if_neg (show ¬ L = 0 by omega), if_neg (show ¬ L = 0 by omega)]
    unfold mtS mtF
    rw [← e28, hM25, hb1]
    simp only [if_pos (show (0 : Int32) ≤ 0 by decide), if_pos (show nI 0 = (0 : Int32) from rfl), if_neg (show ¬ L ≤ 0 by omega), h30, nv_nI (show pm < 1000 by omega)]
    have ht := timers (N := N) (f := f) (c := true) (T := S 24 f) hf hL L 0 S M (by omega) hE hb3
    have hT : T3 true N f L S M (rtS N f (S 24 f) L 0 S) (maS N f (S 24 f) L 0 M) := ⟨ht.1, rtS_Fr L 0 S (by omega), maS_Fr L 0 M⟩
    have ro : ∀ {g k : Nat}, g ≠ 6 → g ≠ 7 → g ≠ 10 → rtS N f (S 24 f) L 0 S g k = S g k := fun a b c => rtS_o a b c _ _ _
    have mo : ∀ {g k : Nat}, g ≠ 7 → g ≠ 8 → g ≠ 11 → maS N f (S 24 f) L 0 M g k = M g k := fun a b c => maS_o a b c _ _ _
    have hQ1 : QI N (rtS N f (S 24 f) L 0 S) := hQ.o (fun _ => ro (by decide) (by decide) (by decide)) (fun _ => ro (by decide) (by decide) (by decide)) (fun _ => ro (by decide) (by decide) (by decide))
    have hB := ht.2.1
    have hlk := ht.2.2
    unfold s_X4_tickRing_i f_X4_tickRing_i s_X4_tickRing_s s_X3_passToken f_X3_passToken
    rw [← hb2]
    generalize rtS N f (S 24 f) L 0 S = S1 at *
    generalize maS N f (S 24 f) L 0 M = M1 at *
    have hOB : rtB N f (S 24 f) L 0 S = true → OPB N S1 M1 f L := fun q => ⟨by rw [ro (by decide) (by decide) (by decide)]; exact hb1, by rw [ro (by decide) (by decide) (by decide), mo (by decide) (by decide) (by decide)]; exact hb2, hlk q⟩
    generalize rtB N f (S 24 f) L 0 S = B at *
    generalize maB N f (S 24 f) L 0 M = B2 at *
    have h30' : M1 30 f = nI pm := by rw [mo (by decide) (by decide) (by decide)]; exact h30
    cases B with
    | false =>
      have hB2 : B2 = true := by cases B2 with | true => rfl | false => exact absurd hB (by decide)
      subst hB2
      simp only [if_pos (show bI false = 0 from rfl), if_neg (show ¬ bI true = 0 by decide)]
      rcases hop with ⟨p1, p2, p3, p4⟩ | ⟨a1, a2, a3, ⟨p3, p4⟩ | hs⟩
      · rw [if_pos p4, if_pos p4]
        have := clm_i_sim (p := nv (S 25 f)) (z := nv (S 41 (qS N S f))) hT hL1 (by omega) (by rw [ro (by decide) (by decide) (by decide)]; exact p3) (by rw [mo (by decide) (by decide) (by decide)]; exact p4)
        refine ⟨this.1, Or.inl ⟨this.2.1, (pm + 1) % L, by have := Nat.mod_lt (pm + 1) (show L > 0 by omega); omega, ?_⟩, this.2.2.2 hQ1, hF⟩
        rw [this.2.2.1, ro (by decide) (by decide) (by decide)]; exact p2
      · rw [if_pos p4, if_pos p4]
        have := clm_i_sim (p := nv (S 25 f)) (z := nv (S 41 (qS N S f))) hT hL1 (by omega) (by rw [ro (by decide) (by decide) (by decide)]; exact p3) (by rw [mo (by decide) (by decide) (by decide)]; exact p4)
        refine ⟨this.1, Or.inl ⟨this.2.1, pm, by omega, ?_⟩, this.2.2.2 hQ1, hF⟩
        rw [this.2.2.1, ro (by decide) (by decide) (by decide)]; exact a2
      · obtain ⟨s1, s2, s3, s4, s5⟩ := hs
        have hjN : wr N (f + pm) < N := wr_lt (by omega)
        have hqN : qof (wr N (f + pm)) (S 28 f) < 2 * N := qof_lt hjN
        have hn32 : ¬ M 32 f = -1 := by rw [s4]; exact nI_nm1 (by omega)
        obtain ⟨z, hz5, hz, _⟩ := hQ.1 _ hqN
        have hm21 : M 21 (qof (wr N (f + pm)) (S 28 f)) = nI z := by rw [← hz]; exact (hE 41 _ rfl (Or.inl rfl) hqN).symm
        have hqS : qS N S f = qof (wr N (f + pm)) (S 28 f) := by unfold qS; rw [a2, nv_nI (by omega)]
        rw [if_neg hn32, if_neg hn32, hqS, a2, nv_nI (show pm < 1000 by omega), s4, nv_nI (by omega), hm21, hz, nv_nI (by omega)]
        have e28' : S1 28 f = S 28 f := ro (by decide) (by decide) (by decide)
        have := clm_s_sim (p := pm) (z := z) hT hf hpm hN hL ⟨by rw [ro (by decide) (by decide) (by decide)]; exact s1, by rw [ro (by decide) (by decide) (by decide), mo (by decide) (by decide) (by decide)]; exact s2, by rw [e28']; exact s3, by rw [e28', mo (by decide) (by decide) (by decide)]; exact s4, by rw [e28', ro (by decide) (by decide) (by decide)]; exact s5⟩ hz5 (by rw [e28', ro (by decide) (by decide) (by decide)]; exact hz)
        rw [e28'] at this
        refine ⟨this.1, Or.inl ⟨this.2.1, pm, by omega, ?_⟩, this.2.2.2 hQ1, hF⟩
        rw [this.2.2.1, ro (by decide) (by decide) (by decide)]; exact a2
    | true =>
      have hB2 : B2 = false := by cases B2 with | false => rfl | true => exact absurd hB (by decide)
      subst hB2
      have hOB := hOB rfl
      simp only [if_pos (show bI false = 0 from rfl), if_neg (show ¬ bI true = 0 by decide)]
      have e26 : S1 26 f = S 26 f := ro (by decide) (by decide) (by decide)
      have e27 : S1 27 f = S 27 f := ro (by decide) (by decide) (by decide)
      have e28' : S1 28 f = S 28 f := ro (by decide) (by decide) (by decide)
      have e32 : M1 32 f = M 32 f := mo (by decide) (by decide) (by decide)
      have e31 : M1 31 f = M 31 f := mo (by decide) (by decide) (by decide)
      rw [e26, ← h2631]
      rcases hop with ⟨p1, p2, p3, p4⟩ | ⟨a1, a2, a3, a4⟩
      · simp only [if_pos p4, if_neg (i_le0.mpr p1)]
        rw [p2, nv_nI (show (pm + 1) % L < 1000 by have := Nat.mod_lt (pm + 1) (show L > 0 by omega); omega)]
        have hT1 := (hT.x (g := 26) (v := S 26 f - nI 1) (by decide) (by decide)).m (g := 31) (v := S 26 f - nI 1) (by decide) (by decide)
        have hOB1 : OPB N (up2 S1 26 f (S 26 f - nI 1)) (up2 M1 31 f (S 26 f - nI 1)) f L := ⟨by rw [up2_f (by decide)]; exact hOB.1, by rw [up2_f (by decide), up2_f (by decide)]; exact hOB.2.1, fun k hk => by rw [up2_f (by decide)]; exact hOB.2.2 k hk⟩
        have e25' : S1 25 f = S 25 f := ro (by decide) (by decide) (by decide)
        rcases i_dec p1 with h0 | ⟨h0, h1⟩
        · simp only [if_pos h0]
          have hcL : (pm + 1) % L < L := Nat.mod_lt _ (by omega)
          have hjN : wr N (f + (pm + 1) % L) < N := wr_lt (by omega)
          have := arr_sim (p := pm) hT1 hf hpm hL rfl hOB1 (by rw [up2_f (by decide), e25']; exact p2) (by rw [up2_f (by decide), e27]; exact p3) (by rw [up2_f (by decide), e32]; exact p4) (by rw [up2_eq]; exact h0) (by rw [up2_eq]; exact h0)
          refine ⟨this.1, Or.inr this.2, ?_, ?_⟩
          · refine hQ1.o (fun i => ?_) (fun i => ?_) (fun i => ?_) <;> rw [x_arr_o hpm rfl (by decide) (by decide) (by decide), up2_f (by decide)]
          · rw [x_arrF hpm rfl]
            unfold f_X4_arrive
            rw [up2_f (by decide), up2_f (by decide)]
            exact hF.up hjN (hT.e (g := 10) rfl hjN)
        · simp only [if_neg h0]
          refine ⟨hT1, Or.inr ⟨hL1, hOB1, pm, hpm, ?_, ?_, Or.inl ⟨?_, ?_, ?_, ?_⟩⟩, up_QI hQ1 (by decide), hF⟩
          · rw [up2_f (by decide)]; exact h30'
          · rw [up2_eq, up2_eq]
          · rw [up2_eq]; exact h1
          · rw [up2_f (by decide), e25']; exact p2
          · rw [up2_f (by decide), e27]; exact p3
          · rw [up2_f (by decide), e32]; exact p4
      · have e25' : S1 25 f = nI pm := by rw [ro (by decide) (by decide) (by decide)]; exact a2
        have e29' : S1 29 f = M1 12 (wr N (f + pm)) := by rw [ro (by decide) (by decide) (by decide), mo (by decide) (by decide) (by decide)]; exact a3
        simp only [a1, if_pos (show (0 : Int32) ≤ 0 by decide)]
        rcases a4 with ⟨p3, p4⟩ | hs
        · rw [a2, nv_nI (show pm < 1000 by omega)]
          simp only [if_pos p4, e27, p3, if_pos (show (0 : Int32) ≤ 0 by decide)]
          rw [if_pos trivial]
          have := begin_sim hT hf hpm hL hN hQ1 hOB h30' (by rw [e26]; exact a1) (by rw [e31, ← h2631]; exact a1) e25' e29' (by rw [e27]; exact p3) (by rw [e32]; exact p4)
          exact ⟨this.1, Or.inr this.2, beg_QI hQ1, hF⟩
        · obtain ⟨s1, s2, s3, s4, s5⟩ := hs
          have hjN : wr N (f + pm) < N := wr_lt (by omega)
          have hqN : qof (wr N (f + pm)) (S 28 f) < 2 * N := qof_lt hjN
          have hn32 : ¬ M 32 f = -1 := by rw [s4]; exact nI_nm1 (by omega)
          obtain ⟨z, hz5, hz, _⟩ := hQ.1 _ hqN
          obtain ⟨t, htN, ht42⟩ := hQ.2 (5 * qof (wr N (f + pm)) (S 28 f)) (by omega)
          have hm21 : M 21 (qof (wr N (f + pm)) (S 28 f)) = nI z := by rw [← hz]; exact (hE 41 _ rfl (Or.inl rfl) hqN).symm
          have hm22 : M 22 (5 * qof (wr N (f + pm)) (S 28 f)) = nI t := by rw [← ht42]; exact (hE 42 _ rfl (Or.inl rfl) (show _ < 10 * N by omega)).symm
          have hqS : qS N S f = qof (wr N (f + pm)) (S 28 f) := by unfold qS; rw [a2, nv_nI (by omega)]
          simp only [if_neg hn32]
          rw [hqS, a2, nv_nI (show pm < 1000 by omega), s4, nv_nI (show qof (wr N (f + pm)) (S 28 f) < 1000 by omega), hm21, hz, nv_nI (show z < 1000 by omega), hm22, ht42, nv_nI (show t < 1000 by omega)]
          simp only [e27, if_neg (i_le0.mpr s1)]
          have hfr := frame_sim (p := pm) (z := z) (t := t) hT hf hpm hL hN hQ1 hOB h30' (by rw [e26]; exact a1) (by rw [e31, ← h2631]; exact a1) e25' e29' ⟨by rw [e27]; exact s1, by rw [e27, mo (by decide) (by decide) (by decide)]; exact s2, by rw [e28']; exact s3, by rw [e28', e32]; exact s4, by rw [e28', ro (by decide) (by decide) (by decide)]; exact s5⟩ hz5 htN (by rw [e28', ro (by decide) (by decide) (by decide)]; exact hz) _ _ rfl rfl
          rw [e28'] at hfr
          have e33 : M1 33 f = M 33 f := mo (by decide) (by decide) (by decide)
          have e9 : M1 9 (wr N (f + pm)) = M 9 (wr N (f + pm)) := mo (by decide) (by decide) (by decide)
          have hW : (if qof (wr N (f + pm)) (S 28 f) % 2 = 1 then (if M 9 (wr N (f + pm)) ≤ 0 then (if (M 33 f) - (nI 1) = 0 then (s_X4_begin (s_X4_finish (up2 M1 33 f ((M 33 f) - (nI 1))) N f pm L (qof (wr N (f + pm)) (S 28 f)) z t) N f pm L) else (up2 M1 33 f ((M 33 f) - (nI 1)))) else (if (M 33 f) - (nI 1) = 0 then (s_X4_begin (s_X4_finish (up2 (up2 M1 33 f ((M 33 f) - (nI 1))) 9 (wr N (f + pm)) ((M 9 (wr N (f + pm))) - (nI 1))) N f pm L (qof (wr N (f + pm)) (S 28 f)) z t) N f pm L) else (up2 (up2 M1 33 f ((M 33 f) - (nI 1))) 9 (wr N (f + pm)) ((M 9 (wr N (f + pm))) - (nI 1))))) else (if (M 33 f) - (nI 1) = 0 then (s_X4_begin (s_X4_finish (up2 M1 33 f ((M 33 f) - (nI 1))) N f pm L (qof (wr N (f + pm)) (S 28 f)) z t) N f pm L) else (up2 M1 33 f ((M 33 f) - (nI 1)))))
              = if M1 33 f - nI 1 = 0 then s_X4_begin (s_X4_finish (mf1 M1 f (wr N (f + pm)) (qof (wr N (f + pm)) (S 28 f))) N f pm L (qof (wr N (f + pm)) (S 28 f)) z t) N f pm L else mf1 M1 f (wr N (f + pm)) (qof (wr N (f + pm)) (S 28 f)) := by
            unfold mf1
            rw [e33, e9]
            by_cases h1 : qof (wr N (f + pm)) (S 28 f) % 2 = 1
            · rw [if_pos h1]
              by_cases h2 : M 9 (wr N (f + pm)) ≤ 0
              · have hn : ¬ (qof (wr N (f + pm)) (S 28 f) % 2 = 1 ∧ ¬ M 9 (wr N (f + pm)) ≤ 0) := fun q => q.2 h2
                simp only [if_pos h2, if_neg hn]
              · have hn : qof (wr N (f + pm)) (S 28 f) % 2 = 1 ∧ ¬ M 9 (wr N (f + pm)) ≤ 0 := ⟨h1, h2⟩
                simp only [if_neg h2, if_pos hn]
            · have hn : ¬ (qof (wr N (f + pm)) (S 28 f) % 2 = 1 ∧ ¬ M 9 (wr N (f + pm)) ≤ 0) := fun q => h1 q.1
              simp only [if_neg h1, if_neg hn]
          rw [hW]
          exact ⟨hfr.1, Or.inr hfr.2.1, hfr.2.2, hF⟩
end TICK
