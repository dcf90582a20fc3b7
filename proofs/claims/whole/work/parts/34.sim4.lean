section ARR
variable {N f L : Nat} {S0 M0 S M : SX}
def xlg (S : SX) (j : Nat) : SX := if S 11 j = 0 then S else if S 10 j ≤ S 46 0 then S else up2 S 46 0 (S 10 j)
def mlg (M : SX) (j : Nat) : Int32 := if M 13 j = 0 then M 4 0 else if M 11 j ≤ M 4 0 then M 4 0 else M 11 j
theorem xlg_o {j g k : Nat} (h : g ≠ 46) : xlg S j g k = S g k := by
  unfold xlg
  split
  · rfl
  · split
    · rfl
    · rw [up2_f h]
theorem before_p {p c : Nat} (hp : p < L) (hc : c = (p + 1) % L) : (if c = 0 then L - 1 else c - 1) = p := by
  by_cases h : p + 1 = L
  · rw [hc, h, Nat.mod_self, if_pos rfl]; omega
  · rw [hc, Nat.mod_eq_of_lt (by omega), if_neg (by omega)]; omega
theorem x_arr {p c : Nat} (hp : p < L) (hc : c = (p + 1) % L) : s_X3_arrive S N f c L = up2 (s_X2_takeToken (xlg S (wr N (f + c))) (wr N (f + c)) (nI (wr N (f + p))) (S 24 f)) 29 f (nI 0) := by
  have e := before_p hp hc
  unfold s_X3_arrive xlg
  by_cases h0 : c = 0
  · rw [if_pos h0] at e
    simp only [if_pos h0, e]
    split
    · rfl
    · split <;> rfl
  · rw [if_neg h0] at e
    simp only [if_neg h0, e]
    split
    · rfl
    · split <;> rfl
theorem x_arrF {p c : Nat} {Fl : FX} (hp : p < L) (hc : c = (p + 1) % L) : f_X3_arrive S Fl N f c L = va_up Fl (wr N (f + c)) (rotf (Fl (wr N (f + c))) (S 10 (wr N (f + c)))) := by
  unfold f_X3_arrive f_X2_takeToken rotf
  have e : ∀ v, up2 S 46 0 v 10 (wr N (f + c)) = S 10 (wr N (f + c)) := fun v => up2_f (by decide)
  simp only [e]
  split
  · split <;> rfl
  · split <;> split <;> rfl
def mch (M : SX) (f c p j : Nat) (V A B : Int32) : SX := up2 (up2 (up2 (up2 (up2 (up2 (up2 (up2 (up2 (up2 M 4 0 V) 30 f (nI c)) 14 j (nI p)) 11 j (nI 0)) 13 j (nI 1)) 9 j A) 7 j B) 8 j (nI 0)) 10 j (M 6 j)) 12 j (nI 0)
theorem mch_eq {c p j : Nat} {V A B : Int32} : up2 (up2 (up2 (up2 (up2 (up2 (up2 (up2 (up2 (up2 M 30 f (nI c)) 14 j (nI p)) 4 0 V) 13 j (nI 1)) 11 j (nI 0)) 9 j A) 7 j B) 8 j (nI 0)) 10 j (M 6 j)) 12 j (nI 0) = mch M f c p j V A B := by
  unfold mch
  rw [up2_c (f := 14) (g := 4) (by decide), up2_c (f := 30) (g := 4) (by decide), up2_c (f := 13) (g := 11) (by decide)]
theorem m_arr {p c : Nat} : s_X4_arrive M N f p L c = if M 8 (wr N (f + c)) = 0 then mch M f c (wr N (f + p)) (wr N (f + c)) (mlg M (wr N (f + c))) (M 29 f - M 7 (wr N (f + c))) (nI 0) else mch M f c (wr N (f + p)) (wr N (f + c)) (mlg M (wr N (f + c))) (nI 0) (M 7 (wr N (f + c))) := by
  unfold s_X4_arrive mlg
  simp only [← mch_eq]
  by_cases h1 : M 13 (wr N (f + c)) = 0
  · simp only [if_pos h1]
  · simp only [if_neg h1]
    by_cases h2 : M 11 (wr N (f + c)) ≤ M 4 0
    · simp only [if_pos h2]
    · simp only [if_neg h2]
theorem arr_T3 {p c : Nat} (hT : T3 true N f L S0 M0 S M) (hf : f < N) (hp : p < L) (hL : L ≤ N) (hc : c = (p + 1) % L) (h24 : S 24 f = M 29 f) : T3 true N f L S0 M0 (s_X3_arrive S N f c L) (s_X4_arrive M N f p L c) := by
  have hcL : c < L := by rw [hc]; exact Nat.mod_lt _ (by omega)
  have hjN : wr N (f + c) < N := wr_lt (by omega)
  have hm := mem_k (N := N) (f := f) (L := L) hcL
  rw [x_arr hp hc, m_arr]
  generalize hj : wr N (f + c) = j at *
  have e5 : S 5 j = M 6 j := hT.e (g := 5) rfl hjN
  have e6 : S 6 j = M 7 j := hT.e (g := 6) rfl hjN
  have e7 : S 7 j = M 8 j := hT.e (g := 7) rfl hjN
  have e10 : S 10 j = M 11 j := hT.e (g := 10) rfl hjN
  have e11 : S 11 j = M 13 j := hT.e (g := 11) rfl hjN
  have e46 : S 46 0 = M 4 0 := hT.e (g := 46) rfl rfl
  have hT1 : T3 true N f L S0 M0 (xlg S j) (up2 M 4 0 (mlg M j)) := by
    unfold xlg mlg
    rw [e11, e10, e46]
    split
    · exact hT.mm rfl
    · split
      · exact hT.mm rfl
      · exact hT.b (g := 46) rfl (by decide) (by decide) rfl
  have hT2 := (((hT1.m (g := 30) (v := nI c) (by decide) (by decide)).b (g := 12) (i := j) (v := nI (wr N (f + p))) rfl (by decide) (by decide) rfl).b (g := 10) (i := j) (v := nI 0) rfl (by decide) (by decide) rfl).b (g := 11) (i := j) (v := nI 1) rfl (by decide) (by decide) rfl
  refine T3.x ?_ (by decide) (by decide)
  unfold s_X2_takeToken mch
  rw [xlg_o (by decide), xlg_o (by decide), xlg_o (by decide), e7]
  by_cases h8 : M 8 j = 0
  · rw [if_pos h8, if_pos h8]
    refine T3.m12 ?_ hm
    refine T3.b (g := 9) ?_ rfl (by decide) (by decide) e5
    refine T3.mm ?_ ?_
    · refine T3.b (g := 6) ?_ rfl (by decide) (by decide) rfl
      exact T3.b (g := 8) hT2 rfl (by decide) (by decide) (by rw [h24, e6])
    · simp only [up2_f (show (8 : Nat) ≠ 7 by decide), up2_f (show (8 : Nat) ≠ 9 by decide), up2_f (show (8 : Nat) ≠ 13 by decide), up2_f (show (8 : Nat) ≠ 11 by decide), up2_f (show (8 : Nat) ≠ 14 by decide), up2_f (show (8 : Nat) ≠ 30 by decide), up2_f (show (8 : Nat) ≠ 4 by decide)]
      exact h8.symm
  · rw [if_neg h8, if_neg h8]
    refine T3.m12 ?_ hm
    refine T3.b (g := 9) ?_ rfl (by decide) (by decide) e5
    refine T3.b7 ?_ hm rfl
    refine T3.mm ?_ ?_
    · exact T3.b (g := 8) hT2 rfl (by decide) (by decide) rfl
    · simp only [up2_f (show (7 : Nat) ≠ 9 by decide), up2_f (show (7 : Nat) ≠ 13 by decide), up2_f (show (7 : Nat) ≠ 11 by decide), up2_f (show (7 : Nat) ≠ 14 by decide), up2_f (show (7 : Nat) ≠ 30 by decide), up2_f (show (7 : Nat) ≠ 4 by decide)]
theorem tk_o {j g k : Nat} {a b : Int32} (h : 12 < g) : s_X2_takeToken S j a b g k = S g k := by
  unfold s_X2_takeToken
  split <;> rw [up2_f (by omega), up2_f (by omega), up2_f (by omega), up2_f (by omega), up2_f (by omega), up2_f (by omega)]
theorem tk_7 {j k : Nat} {a b : Int32} (h : lok (S 7 k)) : lok (s_X2_takeToken S j a b 7 k) := by
  unfold s_X2_takeToken
  split
  · rw [up2_f (by decide), up2_f (by decide), up2_f (by decide), up2_f (by decide), up2_f (by decide), up2_f (by decide)]; exact h
  · rw [up2_f (by decide)]
    by_cases e : k = j
    · rw [e, up2_eq]; exact Or.inl rfl
    · rw [up2_i e, up2_f (by decide), up2_f (by decide), up2_f (by decide), up2_f (by decide)]; exact h
theorem x_arr_o {p c g k : Nat} (hp : p < L) (hc : c = (p + 1) % L) (h : 12 < g) (h1 : g ≠ 46) (h2 : g ≠ 29) : s_X3_arrive S N f c L g k = S g k := by
  rw [x_arr hp hc, up2_f h2, tk_o h, xlg_o h1]
theorem m_arr_o {p c g k : Nat} (h : 14 < g) (h1 : g ≠ 30) : s_X4_arrive M N f p L c g k = M g k := by
  rw [m_arr]
  unfold mch
  split <;> rw [up2_f (by omega), up2_f (by omega), up2_f (by omega), up2_f (by omega), up2_f (by omega), up2_f (by omega), up2_f (by omega), up2_f (by omega), up2_f (by omega), up2_f (by omega)]
theorem m_arr_30 {p c : Nat} : s_X4_arrive M N f p L c 30 f = nI c := by
  rw [m_arr]
  unfold mch
  split <;> rw [up2_f (by omega), up2_f (by omega), up2_f (by omega), up2_f (by omega), up2_f (by omega), up2_f (by omega), up2_f (by omega), up2_f (by omega), up2_eq]
theorem m_arr_12 {p c : Nat} : s_X4_arrive M N f p L c 12 (wr N (f + c)) = nI 0 := by
  rw [m_arr]
  unfold mch
  split <;> rw [up2_eq]
theorem arr_sim {p c : Nat} (hT : T3 true N f L S0 M0 S M) (hf : f < N) (hp : p < L) (hL : L ≤ N) (hc : c = (p + 1) % L) (hb : OPB N S M f L) (h25 : S 25 f = nI c) (h27 : S 27 f = 0) (h32 : M 32 f = -1) (h26 : S 26 f = 0) (h31 : M 31 f = 0) : T3 true N f L S0 M0 (s_X3_arrive S N f c L) (s_X4_arrive M N f p L c) ∧ OP N (s_X3_arrive S N f c L) (s_X4_arrive M N f p L c) f L := by
  have hcL : c < L := by rw [hc]; exact Nat.mod_lt _ (by omega)
  refine ⟨arr_T3 hT hf hp hL hc hb.2.1, by omega, ⟨?_, ?_, fun k hk => ?_⟩, c, hcL, m_arr_30, ?_, Or.inr ⟨?_, ?_, ?_, Or.inl ⟨?_, ?_⟩⟩⟩
  · rw [x_arr_o hp hc (by decide) (by decide) (by decide)]; exact hb.1
  · rw [x_arr_o hp hc (by decide) (by decide) (by decide), m_arr_o (by decide) (by decide)]; exact hb.2.1
  · rw [x_arr hp hc, up2_f (by decide)]
    exact tk_7 (by rw [xlg_o (by decide)]; exact hb.2.2 k hk)
  · rw [x_arr_o hp hc (by decide) (by decide) (by decide), m_arr_o (by decide) (by decide), h26, h31]
  · rw [x_arr_o hp hc (by decide) (by decide) (by decide)]; exact h26
  · rw [x_arr_o hp hc (by decide) (by decide) (by decide)]; exact h25
  · rw [x_arr hp hc, up2_eq, m_arr_12]
  · rw [x_arr_o hp hc (by decide) (by decide) (by decide)]; exact h27
  · rw [m_arr_o (by decide) (by decide)]; exact h32
end ARR
