/-! the two states side by side: which field answers which -/
def mpf (f : Nat) : Nat := match f with
  | 2 => 1 | 40 => 2 | 4 => 5 | 5 => 6 | 6 => 7 | 7 => 8 | 8 => 9 | 9 => 10 | 10 => 11 | 11 => 13 | 12 => 14 | 14 => 15 | 15 => 16 | 16 => 17 | 17 => 18 | 18 => 19 | 41 => 21 | 42 => 22 | 43 => 23 | 44 => 24 | 21 => 25 | 22 => 27 | 23 => 28 | 45 => 3 | 46 => 4 | 3 => 34
  | _ => 100
def isE (f : Nat) : Bool := !(mpf f == 100)
theorem mpf_big {f : Nat} (h : 47 ≤ f) : mpf f = 100 := by
  unfold mpf
  split <;> first | rfl | omega
theorem isE_lt {f : Nat} (h : isE f = true) : f < 47 := by
  rcases Nat.lt_or_ge f 47 with h1 | h1
  · exact h1
  · unfold isE at h
    rw [mpf_big h1] at h
    exact absurd h (by decide)
theorem mpf_tab : ∀ f : Fin 47, ∀ g : Fin 47, isE f.val = true → isE g.val = true → mpf f.val = mpf g.val → f.val = g.val := by decide +kernel
theorem mpf_inj {f g : Nat} (hf : isE f = true) (hg : isE g = true) (h : mpf f = mpf g) : f = g := mpf_tab ⟨f, isE_lt hf⟩ ⟨g, isE_lt hg⟩ hf hg h
def noI (m : Nat) : Bool := (List.range 47).all (fun g => !(isE g) || !(mpf g == m))
theorem noI_ne {m g : Nat} (h : noI m = true) (hg : isE g = true) : mpf g ≠ m := by
  have := List.all_eq_true.mp h g (List.mem_range.mpr (isE_lt hg))
  rw [hg] at this
  simpa using this
def dm (N f i : Nat) : Prop := if f = 41 then i < 2 * N else if f = 42 ∨ f = 43 ∨ f = 44 then i < 10 * N else if f = 45 ∨ f = 46 then i = 0 else i < N
def EE (N : Nat) (c : Bool) (S M : SX) : Prop := ∀ f i, isE f = true → (c = true ∨ f ≠ 3) → dm N f i → S f i = M (mpf f) i
section EEs
variable {N : Nat} {c : Bool} {S M : SX}
theorem EE.up (h : EE N c S M) {f i : Nat} {v : Int32} (hf : isE f = true) : EE N c (up2 S f i v) (up2 M (mpf f) i v) := by
  intro g j hg hc hd
  by_cases e : g = f
  · subst e
    by_cases ej : j = i
    · subst ej; rw [up2_eq, up2_eq]
    · rw [up2_i ej, up2_i ej]; exact h g j hg hc hd
  · rw [up2_f e, up2_f (fun q => e (mpf_inj hg hf q))]; exact h g j hg hc hd
theorem EE.x (h : EE N c S M) {f i : Nat} {v : Int32} (hf : isE f = false) : EE N c (up2 S f i v) M := by
  intro g j hg hc hd
  rw [up2_f (fun e => by rw [e, hf] at hg; cases hg)]
  exact h g j hg hc hd
theorem EE.m (h : EE N c S M) {m i : Nat} {v : Int32} (hm : noI m = true) : EE N c S (up2 M m i v) := by
  intro g j hg hc hd
  rw [up2_f (noI_ne hm hg)]
  exact h g j hg hc hd
theorem EE.x3 (h : EE N false S M) {i : Nat} {v : Int32} : EE N false (up2 S 3 i v) M := by
  intro g j hg hc hd
  rw [up2_f (hc.resolve_left (by decide))]
  exact h g j hg hc hd
theorem EE.m34 (h : EE N false S M) {i : Nat} {v : Int32} : EE N false S (up2 M 34 i v) := by
  intro g j hg hc hd
  rw [up2_f (f := 34) (fun e => hc.resolve_left (by decide) (mpf_inj hg (g := 3) rfl e))]
  exact h g j hg hc hd
theorem EE.off (h : EE N c S M) : EE N false S M := fun g j hg hc hd => h g j hg (Or.inr (hc.resolve_left (by decide))) hd
/-- a value that is written only in one of the two -/
theorem EE.same (h : EE N c S M) {f i : Nat} {v : Int32} (hf : isE f = true) (hv : v = M (mpf f) i) : EE N c (up2 S f i v) M := by
  intro g j hg hc hd
  by_cases e : g = f ∧ j = i
  · obtain ⟨rfl, rfl⟩ := e
    rw [up2_eq]; exact hv
  · simp only [up2, if_neg e]; exact h g j hg hc hd
end EEs
theorem up2_self {S : SX} {f i : Nat} : up2 S f i (S f i) = S := by
  funext g k
  simp only [up2]
  split
  · next h => rw [h.1, h.2]
  · rfl
theorem i_pos {x : Int32} (h : 0 < x) : ∃ k : Nat, k + 1 < 2 ^ 31 ∧ x = nI (k + 1) := by
  obtain ⟨j, hj, rfl⟩ := nI_of (x := x) (fun h2 => by
    rw [Int32.lt_iff_toInt_lt] at h h2
    have e0 : (0 : Int32).toInt = 0 := by decide
    omega)
  cases j with
  | zero => exact absurd h (by decide)
  | succ k => exact ⟨k, hj, rfl⟩
theorem i_dec {x : Int32} (h : 0 < x) : x - nI 1 = 0 ∨ (¬ x - nI 1 = 0 ∧ 0 < x - nI 1) := by
  obtain ⟨k, hk, rfl⟩ := i_pos h
  have e : nI (k + 1) - nI 1 = nI k := nI_pred k
  rw [e]
  cases k with
  | zero => exact Or.inl rfl
  | succ k => exact Or.inr ⟨nI_ne0 (by omega) (by omega), nI_lt (a := 0) (by omega) (by omega)⟩
theorem i_le0 {x : Int32} : ¬ x ≤ 0 ↔ 0 < x := by
  rw [Int32.le_iff_toInt_le, Int32.lt_iff_toInt_lt]
  omega
theorem i_lt0 {x : Int32} : ¬ 0 < x ↔ x ≤ 0 := by
  rw [Int32.le_iff_toInt_le, Int32.lt_iff_toInt_lt]
  omega
theorem wr_inj {N f k k2 : Nat} (hf : f < N) (hk : k < N) (hk2 : k2 < N) (h : wr N (f + k) = wr N (f + k2)) : k = k2 := by
  unfold wr at h
  split at h <;> split at h <;> omega
theorem late_cases {x : Int32} (h : x = nI 0 ∨ x = nI 1) : x < nI 2 ∧ (x + nI 1 < nI 2 ↔ ¬ x + nI 1 = nI 2) := by
  rcases h with rfl | rfl <;> decide
