section BEG
variable {N f L : Nat} {S0 M0 S M : SX}
def bsy (S : SX) (f j : Nat) : Prop := S 29 f = 0 ∧ ¬ S 41 (2 * j) ≤ 0 ∧ ¬ S 9 j < S 43 (5 * (2 * j))
def bas (S : SX) (f j : Nat) : Prop := ¬ S 41 (2 * j + 1) ≤ 0 ∧ ¬ S 8 j ≤ 0 ∧ ¬ S 8 j < ((nI 3 - S 44 (5 * (2 * j + 1))) * S 24 f) / nI 4
def msy (M : SX) (j : Nat) : Prop := M 12 j = 0 ∧ ¬ M 21 (2 * j) ≤ 0 ∧ ¬ M 10 j < M 23 (5 * (2 * j))
def mas (M : SX) (f j : Nat) : Prop := ¬ M 21 (2 * j + 1) ≤ 0 ∧ ¬ M 9 j ≤ 0 ∧ ¬ M 9 j < ((nI 3 - M 24 (5 * (2 * j + 1))) * M 29 f) / nI 4
theorem n10 : ¬ nI 1 = 0 := by decide
theorem rsy {j : Nat} : r_X2_mayBeginSynchronous S j = 0 ↔ ¬ (¬ S 41 (2 * j) ≤ 0 ∧ ¬ S 9 j < S 43 (5 * (2 * j))) := by
  unfold r_X2_mayBeginSynchronous
  split
  · next h => exact ⟨fun _ q => q.1 h, fun _ => rfl⟩
  · next h =>
    split
    · next h2 => exact ⟨fun _ q => q.2 h2, fun _ => rfl⟩
    · next h2 => exact ⟨fun q => absurd q n10, fun q => absurd ⟨h, h2⟩ q⟩
theorem ras {j : Nat} (hz : S 41 (2 * j + 1) ≤ 0 → S 41 (2 * j + 1) = 0) : r_X2_mayBeginAsynchronous S j (S 24 f) = 0 ↔ ¬ bas S f j := by
  unfold r_X2_mayBeginAsynchronous bas
  split
  · next h => exact ⟨fun _ q => q.1 (by rw [h]; decide), fun _ => rfl⟩
  · next h =>
    split
    · next h1 =>
      split
      · next h2 => exact ⟨fun _ q => q.2.2 h2, fun _ => rfl⟩
      · next h2 => exact ⟨fun q => absurd q n10, fun q => absurd ⟨fun q2 => h (hz q2), i_le0.mpr h1, h2⟩ q⟩
    · next h1 => exact ⟨fun _ q => q.2.1 (i_lt0.mp h1), fun _ => rfl⟩
theorem x_beg1 {p : Nat} (h : bsy S f (wr N (f + p))) : s_X3_beginFrameOrLeave S N f p L = up2 (up2 (up2 S 28 f (nI 1)) 27 f (S 43 (5 * (2 * (wr N (f + p)))))) 9 (wr N (f + p)) ((S 9 (wr N (f + p))) - (S 43 (5 * (2 * (wr N (f + p)))))) := by
  unfold s_X3_beginFrameOrLeave
  rw [if_pos h.1, if_neg (fun q => rsy.mp q h.2)]
theorem x_beg2 {p : Nat} (hz : S 41 (2 * wr N (f + p) + 1) ≤ 0 → S 41 (2 * wr N (f + p) + 1) = 0) (h : ¬ bsy S f (wr N (f + p))) (h2 : bas S f (wr N (f + p))) : s_X3_beginFrameOrLeave S N f p L = up2 (up2 (up2 S 28 f (nI 0)) 29 f (nI 1)) 27 f (S 43 (5 * (2 * (wr N (f + p)) + 1))) := by
  unfold s_X3_beginFrameOrLeave
  have ha : ¬ r_X2_mayBeginAsynchronous S (wr N (f + p)) (S 24 f) = 0 := fun q => (ras hz).mp q h2
  by_cases h1 : S 29 f = 0
  · rw [if_pos h1, if_pos (rsy.mpr (fun q => h ⟨h1, q⟩)), if_neg ha]
  · rw [if_neg h1, if_neg ha]
theorem x_beg3 {p : Nat} (hz : S 41 (2 * wr N (f + p) + 1) ≤ 0 → S 41 (2 * wr N (f + p) + 1) = 0) (h : ¬ bsy S f (wr N (f + p))) (h2 : ¬ bas S f (wr N (f + p))) : s_X3_beginFrameOrLeave S N f p L = s_X3_leave S f p L := by
  unfold s_X3_beginFrameOrLeave
  have ha : r_X2_mayBeginAsynchronous S (wr N (f + p)) (S 24 f) = 0 := (ras hz).mpr h2
  by_cases h1 : S 29 f = 0
  · rw [if_pos h1, if_pos (rsy.mpr (fun q => h ⟨h1, q⟩)), if_pos ha]
  · rw [if_neg h1, if_pos ha]
theorem m_beg1 {p : Nat} (h : msy M (wr N (f + p))) : s_X4_begin M N f p L = up2 (up2 (up2 M 10 (wr N (f + p)) ((M 10 (wr N (f + p))) - (M 23 (5 * (2 * (wr N (f + p))))))) 32 f (nI (2 * (wr N (f + p))))) 33 f (M 23 (5 * (2 * (wr N (f + p))))) := by
  unfold s_X4_begin
  rw [if_pos h.1, if_neg h.2.1, if_neg h.2.2]
theorem m_beg2 {p : Nat} (h : ¬ msy M (wr N (f + p))) (h2 : mas M f (wr N (f + p))) : s_X4_begin M N f p L = up2 (up2 (up2 M 12 (wr N (f + p)) (nI 1)) 32 f (nI (2 * (wr N (f + p)) + 1))) 33 f (M 23 (5 * (2 * (wr N (f + p)) + 1))) := by
  unfold s_X4_begin
  simp only [if_neg h2.1, if_neg h2.2.1, if_neg h2.2.2]
  split
  · next a =>
    split
    · rfl
    · next b =>
      split
      · rfl
      · next c => exact absurd ⟨a, b, c⟩ h
  · rfl
theorem m_beg3 {p : Nat} (h : ¬ msy M (wr N (f + p))) (h2 : ¬ mas M f (wr N (f + p))) : s_X4_begin M N f p L = s_X4_leave M f p L := by
  have hl : (if M 21 (2 * (wr N (f + p)) + 1) ≤ 0 then (s_X4_leave M f (p) L) else (if M 9 (wr N (f + p)) ≤ 0 then (s_X4_leave M f (p) L) else (if M 9 (wr N (f + p)) < (((nI 3) - (M 24 (5 * (2 * (wr N (f + p)) + 1)))) * (M 29 f)) / (nI 4) then (s_X4_leave M f (p) L) else (up2 (up2 (up2 M 12 (wr N (f + p)) (nI 1)) 32 f (nI (2 * (wr N (f + p)) + 1))) 33 f (M 23 (5 * (2 * (wr N (f + p)) + 1))))))) = s_X4_leave M f p L := by
    split
    · rfl
    · next a =>
      split
      · rfl
      · next b =>
        split
        · rfl
        · next c => exact absurd ⟨a, b, c⟩ h2
  unfold s_X4_begin
  rw [hl]
  split
  · next a =>
    split
    · rfl
    · next b =>
      split
      · rfl
      · next c => exact absurd ⟨a, b, c⟩ h
  · rfl
theorem begin_sim {p : Nat} (hT : T3 true N f L S0 M0 S M) (hf : f < N) (hp : p < L) (hL : L ≤ N) (hN : N ≤ 6) (hQ : QI N S) (hb : OPB N S M f L) (h30 : M 30 f = nI p) (h26 : S 26 f = 0) (h31 : M 31 f = 0) (h25 : S 25 f = nI p) (h29 : S 29 f = M 12 (wr N (f + p))) (h27 : S 27 f = 0) (h32 : M 32 f = -1) :
    T3 true N f L S0 M0 (s_X3_beginFrameOrLeave S N f p L) (s_X4_begin M N f p L) ∧ OP N (s_X3_beginFrameOrLeave S N f p L) (s_X4_begin M N f p L) f L := by
  have hjN : wr N (f + p) < N := wr_lt (by omega)
  have hm := mem_k (N := N) (f := f) (L := L) hp
  have hz : S 41 (2 * wr N (f + p) + 1) ≤ 0 → S 41 (2 * wr N (f + p) + 1) = 0 := by
    obtain ⟨z, h1, h2, _⟩ := hQ.1 (2 * wr N (f + p) + 1) (by omega)
    rw [h2]
    intro h
    rcases Nat.eq_zero_or_pos z with h0 | h0
    · rw [h0]; rfl
    · exact absurd h (nI_nle h0 (by omega))
  have e8 : S 8 (wr N (f + p)) = M 9 (wr N (f + p)) := hT.e (g := 8) rfl hjN
  have e9 : S 9 (wr N (f + p)) = M 10 (wr N (f + p)) := hT.e (g := 9) rfl hjN
  have e41 : S 41 (2 * wr N (f + p)) = M 21 (2 * wr N (f + p)) := hT.e (g := 41) rfl (show _ < 2 * N by omega)
  have e41' : S 41 (2 * wr N (f + p) + 1) = M 21 (2 * wr N (f + p) + 1) := hT.e (g := 41) rfl (show _ < 2 * N by omega)
  have e43 : S 43 (5 * (2 * wr N (f + p))) = M 23 (5 * (2 * wr N (f + p))) := hT.e (g := 43) rfl (show _ < 10 * N by omega)
  have e43' : S 43 (5 * (2 * wr N (f + p) + 1)) = M 23 (5 * (2 * wr N (f + p) + 1)) := hT.e (g := 43) rfl (show _ < 10 * N by omega)
  have e44 : S 44 (5 * (2 * wr N (f + p) + 1)) = M 24 (5 * (2 * wr N (f + p) + 1)) := hT.e (g := 44) rfl (show _ < 10 * N by omega)
  have hsy : bsy S f (wr N (f + p)) ↔ msy M (wr N (f + p)) := by unfold bsy msy; rw [h29, e41, e9, e43]
  have has : bas S f (wr N (f + p)) ↔ mas M f (wr N (f + p)) := by unfold bas mas; rw [e8, e41', e44, hb.2.1]
  by_cases hs : bsy S f (wr N (f + p))
  · rw [x_beg1 hs, m_beg1 (hsy.mp hs), e9, e43]
    have hpos : 0 < M 23 (5 * (2 * wr N (f + p))) := by
      obtain ⟨z, h1, h2, h3⟩ := hQ.1 (2 * wr N (f + p)) (by omega)
      rw [← e43]
      refine h3 0 ?_
      rcases Nat.eq_zero_or_pos z with h0 | h0
      · exact absurd (by rw [h2, h0]; decide) hs.2.1
      · exact h0
    refine ⟨?_, by omega, ⟨?_, ?_, fun k hk => ?_⟩, p, hp, ?_, ?_, Or.inr ⟨?_, ?_, ?_, Or.inr ⟨?_, ?_, ?_, ?_, ?_⟩⟩⟩
    · exact (((((hT.x (g := 28) (by decide) (by decide)).x (g := 27) (by decide) (by decide)).b (g := 9) rfl (by decide) (by decide) rfl).m (g := 32) (by decide) (by decide)).m (g := 33) (by decide) (by decide))
    · rw [up2_f (by decide), up2_f (by decide), up2_f (by decide)]; exact hb.1
    · rw [up2_f (by decide), up2_f (by decide), up2_f (by decide), up2_f (by decide), up2_f (by decide), up2_f (by decide)]; exact hb.2.1
    · rw [up2_f (by decide), up2_f (by decide), up2_f (by decide)]; exact hb.2.2 k hk
    · rw [up2_f (by decide), up2_f (by decide), up2_f (by decide)]; exact h30
    · rw [up2_f (by decide), up2_f (by decide), up2_f (by decide), up2_f (by decide), up2_f (by decide), up2_f (by decide), h26, h31]
    · rw [up2_f (by decide), up2_f (by decide), up2_f (by decide)]; exact h26
    · rw [up2_f (by decide), up2_f (by decide), up2_f (by decide)]; exact h25
    · rw [up2_f (by decide), up2_f (by decide), up2_f (by decide), up2_f (by decide), up2_f (by decide), up2_f (by decide)]; exact h29
    · rw [up2_f (by decide), up2_eq]; exact hpos
    · rw [up2_f (by decide), up2_eq, up2_eq]
    · rw [up2_f (by decide), up2_f (by decide), up2_eq]; exact Or.inr rfl
    · rw [up2_f (by decide), up2_eq, up2_f (by decide), up2_f (by decide), up2_eq]
      unfold qof
      rw [if_neg n10]
    · rw [up2_f (by decide), up2_f (by decide), up2_f (by decide), up2_f (by decide), up2_f (by decide), up2_eq]
      unfold qof
      rw [if_neg n10]
      exact fun q => hs.2.1 (by rw [q]; decide)
  · have hs' : ¬ msy M (wr N (f + p)) := fun q => hs (hsy.mpr q)
    by_cases ha : bas S f (wr N (f + p))
    · rw [x_beg2 hz hs ha, m_beg2 hs' (has.mp ha), e43']
      have hpos : 0 < M 23 (5 * (2 * wr N (f + p) + 1)) := by
        obtain ⟨z, h1, h2, h3⟩ := hQ.1 (2 * wr N (f + p) + 1) (by omega)
        rw [← e43']
        refine h3 0 ?_
        rcases Nat.eq_zero_or_pos z with h0 | h0
        · exact absurd (by rw [h2, h0]; decide) ha.1
        · exact h0
      refine ⟨?_, by omega, ⟨?_, ?_, fun k hk => ?_⟩, p, hp, ?_, ?_, Or.inr ⟨?_, ?_, ?_, Or.inr ⟨?_, ?_, ?_, ?_, ?_⟩⟩⟩
      · exact (((((hT.x (g := 28) (by decide) (by decide)).x (g := 29) (by decide) (by decide)).x (g := 27) (by decide) (by decide)).m12 hm).m (g := 32) (by decide) (by decide)).m (g := 33) (by decide) (by decide)
      · rw [up2_f (by decide), up2_f (by decide), up2_f (by decide)]; exact hb.1
      · rw [up2_f (by decide), up2_f (by decide), up2_f (by decide), up2_f (by decide), up2_f (by decide), up2_f (by decide)]; exact hb.2.1
      · rw [up2_f (by decide), up2_f (by decide), up2_f (by decide)]; exact hb.2.2 k hk
      · rw [up2_f (by decide), up2_f (by decide), up2_f (by decide)]; exact h30
      · rw [up2_f (by decide), up2_f (by decide), up2_f (by decide), up2_f (by decide), up2_f (by decide), up2_f (by decide), h26, h31]
      · rw [up2_f (by decide), up2_f (by decide), up2_f (by decide)]; exact h26
      · rw [up2_f (by decide), up2_f (by decide), up2_f (by decide)]; exact h25
      · rw [up2_f (by decide), up2_eq, up2_f (by decide), up2_f (by decide), up2_eq]
      · rw [up2_eq]; exact hpos
      · rw [up2_eq, up2_eq]
      · rw [up2_f (by decide), up2_f (by decide), up2_eq]; exact Or.inl rfl
      · rw [up2_f (by decide), up2_eq, up2_f (by decide), up2_f (by decide), up2_eq]
        rfl
      · rw [up2_f (by decide), up2_f (by decide), up2_f (by decide), up2_f (by decide), up2_f (by decide), up2_eq]
        exact fun q => ha.1 (by rw [show 2 * wr N (f + p) + 1 = qof (wr N (f + p)) (nI 0) from rfl, q]; decide)
    · rw [x_beg3 hz hs ha, m_beg3 hs' (fun q => ha (has.mpr q))]
      exact leave_sim hT hf hp (by omega) hb h30 h27 h32
end BEG
