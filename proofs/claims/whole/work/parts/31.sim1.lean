/-! what a ring's step leaves alone -/
def mem (N f L j : Nat) : Prop := ∃ k, k < L ∧ wr N (f + k) = j
def FrX (N f L : Nat) (S S2 : SX) : Prop := (∀ g i, 20 ≤ g → g < 30 → i ≠ f → S2 g i = S g i) ∧ (∀ g i, g < 6 ∨ g = 40 ∨ g = 45 → S2 g i = S g i) ∧ (∀ g, 20 ≤ g → g < 23 → S2 g f = S g f) ∧ ∀ j, j < N → ¬ mem N f L j → S2 7 j = S 7 j ∧ S2 41 (2 * j) = S 41 (2 * j) ∧ S2 41 (2 * j + 1) = S 41 (2 * j + 1)
def FrM (N f L : Nat) (M M2 : SX) : Prop := (∀ g i, 25 ≤ g → g < 34 → g ≠ 26 → i ≠ f → M2 g i = M g i) ∧ (∀ g i, g < 4 ∨ g = 5 ∨ g = 6 ∨ g = 26 ∨ g = 34 → M2 g i = M g i) ∧ (M2 25 f = M 25 f ∧ M2 27 f = M 27 f) ∧ ∀ j, j < N → ¬ mem N f L j → M2 12 j = M 12 j
section FRX
variable {N f L : Nat} {S S2 S3 : SX}
theorem FrX.rf : FrX N f L S S := ⟨fun _ _ _ _ _ => rfl, fun _ _ _ => rfl, fun _ _ _ => rfl, fun _ _ _ => ⟨rfl, rfl, rfl⟩⟩
theorem FrX.tr (h1 : FrX N f L S S2) (h2 : FrX N f L S2 S3) : FrX N f L S S3 :=
  ⟨fun g i a b c => (h2.1 g i a b c).trans (h1.1 g i a b c), fun g i a => (h2.2.1 g i a).trans (h1.2.1 g i a), fun g a b => (h2.2.2.1 g a b).trans (h1.2.2.1 g a b), fun j a b => ⟨((h2.2.2.2 j a b).1).trans (h1.2.2.2 j a b).1, ((h2.2.2.2 j a b).2.1).trans (h1.2.2.2 j a b).2.1, ((h2.2.2.2 j a b).2.2).trans (h1.2.2.2 j a b).2.2⟩⟩
/-- a ring field of f -/
theorem FrX.r {g : Nat} {v : Int32} (h : FrX N f L S S2) (h1 : 23 ≤ g) (h2 : g < 30) : FrX N f L S (up2 S2 g f v) := by
  refine h.tr ⟨fun a i _ _ c => up2_i c, fun a i b => up2_f (by omega), fun a _ b => up2_f (by omega), fun j _ _ => ⟨up2_f (by omega), up2_f (by omega), up2_f (by omega)⟩⟩
/-- a field that no other ring looks at -/
theorem FrX.o {g i : Nat} {v : Int32} (h : FrX N f L S S2) (h1 : (6 ≤ g ∧ g < 20 ∧ g ≠ 7) ∨ (42 ≤ g ∧ g ≠ 45)) : FrX N f L S (up2 S2 g i v) := by
  refine h.tr ⟨fun a i _ _ c => up2_f (by omega), fun a i b => up2_f (by omega), fun a _ b => up2_f (by omega), fun j _ _ => ⟨up2_f (by omega), up2_f (by omega), up2_f (by omega)⟩⟩
theorem FrX.l {i : Nat} {v : Int32} (h : FrX N f L S S2) (h1 : mem N f L i) : FrX N f L S (up2 S2 7 i v) := by
  refine h.tr ⟨fun a i _ _ c => up2_f (by omega), fun a i b => up2_f (by omega), fun a _ b => up2_f (by omega), fun j _ hm => ⟨up2_i (fun e => hm (e ▸ h1)), up2_f (by omega), up2_f (by omega)⟩⟩
theorem FrX.rem {j z : Nat} {x : Int32} (h : FrX N f L S S2) (h1 : mem N f L j) : FrX N f L S (s_rem S2 (qof j x) z) := by
  refine h.tr ⟨fun a i _ _ c => s_rem_o (by omega), fun a i b => s_rem_o (by omega), fun a _ b => s_rem_o (by omega), fun i _ hm => ⟨s_rem_o (by omega), ?_, ?_⟩⟩
  all_goals
    have hij : i ≠ j := fun e => hm (e ▸ h1)
    unfold s_rem
    split
    · rfl
    · rw [shf_o (by decide), up2_i (by unfold qof; split <;> omega)]
theorem FrX.m3 (h : FrX N f L S S2) (i : Nat) : S2 3 i = S 3 i := h.2.1 3 i (by omega)
end FRX
section FRM
variable {N f L : Nat} {M M2 M3 : SX}
theorem FrM.rf : FrM N f L M M := ⟨fun _ _ _ _ _ _ => rfl, fun _ _ _ => rfl, ⟨rfl, rfl⟩, fun _ _ _ => rfl⟩
theorem FrM.tr (h1 : FrM N f L M M2) (h2 : FrM N f L M2 M3) : FrM N f L M M3 :=
  ⟨fun g i a b c d => (h2.1 g i a b c d).trans (h1.1 g i a b c d), fun g i a => (h2.2.1 g i a).trans (h1.2.1 g i a), ⟨h2.2.2.1.1.trans h1.2.2.1.1, h2.2.2.1.2.trans h1.2.2.1.2⟩, fun j a b => (h2.2.2.2 j a b).trans (h1.2.2.2 j a b)⟩
theorem FrM.r {g : Nat} {v : Int32} (h : FrM N f L M M2) (h1 : 28 ≤ g) (h2 : g < 34) : FrM N f L M (up2 M2 g f v) := by
  refine h.tr ⟨fun a i _ _ _ c => up2_i c, fun a i b => up2_f (by omega), ⟨up2_f (by omega), up2_f (by omega)⟩, fun j _ _ => up2_f (by omega)⟩
theorem FrM.o {g i : Nat} {v : Int32} (h : FrM N f L M M2) (h1 : (g = 4 ∨ (7 ≤ g ∧ g < 25)) ∧ g ≠ 12) : FrM N f L M (up2 M2 g i v) := by
  refine h.tr ⟨fun a i _ _ _ c => up2_f (by omega), fun a i b => up2_f (by omega), ⟨up2_f (by omega), up2_f (by omega)⟩, fun j _ _ => up2_f (by omega)⟩
theorem FrM.b {i : Nat} {v : Int32} (h : FrM N f L M M2) (h1 : mem N f L i) : FrM N f L M (up2 M2 12 i v) := by
  refine h.tr ⟨fun a i _ _ _ c => up2_f (by omega), fun a i b => up2_f (by omega), ⟨up2_f (by omega), up2_f (by omega)⟩, fun j _ hm => up2_i (fun e => hm (e ▸ h1))⟩
theorem FrM.sh {q z : Nat} (h : FrM N f L M M2) : FrM N f L M (mto M2 f q z) := by
  refine h.tr ⟨fun a i _ _ _ c => ?_, fun a i b => mto_o (by omega) (by omega), ⟨mto_o (by omega) (by omega), mto_o (by omega) (by omega)⟩, fun j _ _ => mto_o (by omega) (by omega)⟩
  by_cases e : a = 32
  · subst e
    unfold mto
    rw [up2_i c, mshf_o (by omega), up2_f (by omega)]
  · exact mto_o (by omega) e
end FRM
/-! timers -/
theorem run7 (S : SX) (j : Nat) (T : Int32) : s_X2_runTimer S j T 7 j = if S 6 j + nI 1 = T then S 7 j + nI 1 else S 7 j := by
  unfold s_X2_runTimer
  split
  · rw [up2_eq]
  · rw [up2_f (by decide), up2_f (by decide)]
theorem run_j {S : SX} {i j g : Nat} {T : Int32} (h : j ≠ i) : s_X2_runTimer S i T g j = S g j := by
  unfold s_X2_runTimer
  split
  · rw [up2_i h, up2_i h, up2_i h, up2_i h]
  · rw [up2_i h, up2_i h]
theorem rtS_j {N f : Nat} {T : Int32} {g j : Nat} : ∀ (n i : Nat) (S : SX), (∀ k, i ≤ k → k < i + n → wr N (f + k) ≠ j) → rtS N f T n i S g j = S g j := by
  intro n
  induction n with
  | zero => intro i S _; rfl
  | succ n ih =>
    intro i S h
    simp only [rtS]
    split
    · rw [ih (i + 1) _ (fun k h1 h2 => h k (by omega) (by omega)), run_j (Ne.symm (h i (by omega) (by omega)))]
    · exact run_j (Ne.symm (h i (by omega) (by omega)))
theorem run_EE {N : Nat} {c : Bool} {S M : SX} (h : EE N c S M) {j : Nat} (hj : j < N) (T : Int32) : EE N c (s_X2_runTimer S j T) (mag M j T) := by
  have e6 : S 6 j = M 7 j := h 6 j rfl (Or.inr (by decide)) hj
  have e7 : S 7 j = M 8 j := h 7 j rfl (Or.inr (by decide)) hj
  have e10 : S 10 j = M 11 j := h 10 j rfl (Or.inr (by decide)) hj
  unfold s_X2_runTimer mag
  rw [e6, e7, e10]
  split
  · exact EE.up (f := 7) (EE.up (f := 6) (EE.up (f := 6) (EE.up (f := 10) h rfl) rfl) rfl) rfl
  · exact EE.up (f := 6) (EE.up (f := 10) h rfl) rfl
def lok (x : Int32) : Prop := x = nI 0 ∨ x = nI 1
theorem lok_next {x : Int32} (h : lok x) (h2 : x + nI 1 < nI 2) : lok (x + nI 1) := by
  rcases h with rfl | rfl
  · exact Or.inr (by decide)
  · exact absurd h2 (by decide)
theorem timers {N f L : Nat} {c : Bool} {T : Int32} (hf : f < N) (hL : L ≤ N) : ∀ (n i : Nat) (S M : SX), i + n = L → EE N c S M → (∀ k, k < L → lok (S 7 (wr N (f + k)))) → EE N c (rtS N f T n i S) (maS N f T n i M) ∧ rtB N f T n i S = !(maB N f T n i M) ∧ (rtB N f T n i S = true → ∀ k, k < L → lok (rtS N f T n i S 7 (wr N (f + k)))) := by
  intro n
  induction n with
  | zero => intro i S M _ h hl; exact ⟨h, rfl, fun _ => hl⟩
  | succ n ih =>
    intro i S M hi h hl
    have hj : wr N (f + i) < N := wr_lt (by omega)
    have hE := run_EE h hj T
    have e6 : S 6 (wr N (f + i)) = M 7 (wr N (f + i)) := h 6 _ rfl (Or.inr (by decide)) hj
    have e7 : S 7 (wr N (f + i)) = M 8 (wr N (f + i)) := h 7 _ rfl (Or.inr (by decide)) hj
    have hlk := hl i (by omega)
    have hc := late_cases hlk
    simp only [rtS, rtB, maS, maB]
    rw [run7]
    by_cases hT : S 6 (wr N (f + i)) + nI 1 = T
    · rw [if_pos hT]
      by_cases h2 : S 7 (wr N (f + i)) + nI 1 < nI 2
      · have hm : ¬ (M 7 (wr N (f + i)) + nI 1 = T ∧ M 8 (wr N (f + i)) + nI 1 = nI 2) := fun hh => (hc.2.mp h2) (by rw [e7]; exact hh.2)
        rw [if_pos h2, if_pos h2, if_neg hm, if_neg hm]
        refine ih (i + 1) _ _ (by omega) hE (fun k hk => ?_)
        by_cases hki : k = i
        · subst hki; rw [run7, if_pos hT]; exact lok_next hlk h2
        · rw [run_j (fun e => hki (wr_inj hf (by omega) (by omega) e))]; exact hl k hk
      · have hm : M 7 (wr N (f + i)) + nI 1 = T ∧ M 8 (wr N (f + i)) + nI 1 = nI 2 := ⟨by rw [← e6]; exact hT, by rw [← e7]; exact Decidable.not_not.mp (mt hc.2.mpr h2)⟩
        rw [if_neg h2, if_neg h2, if_pos hm, if_pos hm]
        exact ⟨hE, rfl, fun q => by cases q⟩
    · rw [if_neg hT]
      have hm : ¬ (M 7 (wr N (f + i)) + nI 1 = T ∧ M 8 (wr N (f + i)) + nI 1 = nI 2) := fun hh => hT (by rw [e6]; exact hh.1)
      rw [if_pos hc.1, if_pos hc.1, if_neg hm, if_neg hm]
      refine ih (i + 1) _ _ (by omega) hE (fun k hk => ?_)
      by_cases hki : k = i
      · subst hki; rw [run7, if_neg hT]; exact hlk
      · rw [run_j (fun e => hki (wr_inj hf (by omega) (by omega) e))]; exact hl k hk
theorem rtS_Fr {N f L : Nat} {T : Int32} : ∀ (n i : Nat) (S : SX), i + n ≤ L → FrX N f L S (rtS N f T n i S) := by
  intro n i S hn
  refine ⟨fun g i a b c => rtS_o (by omega) (by omega) (by omega) _ _ _, fun g i a => rtS_o (by omega) (by omega) (by omega) _ _ _, fun g a b => rtS_o (by omega) (by omega) (by omega) _ _ _, fun j hj hm => ⟨rtS_j _ _ _ (fun k h1 h2 e => hm ⟨k, by omega, e⟩), rtS_o (by omega) (by omega) (by omega) _ _ _, rtS_o (by omega) (by omega) (by omega) _ _ _⟩⟩
theorem maS_Fr {N f L : Nat} {T : Int32} (n i : Nat) (M : SX) : FrM N f L M (maS N f T n i M) :=
  ⟨fun g i a b c d => maS_o (by omega) (by omega) (by omega) _ _ _, fun g i a => maS_o (by omega) (by omega) (by omega) _ _ _, ⟨maS_o (by omega) (by omega) (by omega) _ _ _, maS_o (by omega) (by omega) (by omega) _ _ _⟩, fun j hj hm => maS_o (by omega) (by omega) (by omega) _ _ _⟩
