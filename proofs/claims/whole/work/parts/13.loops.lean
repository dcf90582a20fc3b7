def shf (S : SX) (q i : Nat) : SX := fun f k => if (42 ≤ f ∧ f ≤ 44) ∧ 5 * q ≤ k ∧ k < 5 * q + i then S f (k + 1) else S f k
theorem shf_0 (S : SX) (q : Nat) : shf S q 0 = S := by
  funext f k
  simp only [shf]
  rw [if_neg (by omega)]
theorem shf_hi {S : SX} {q i f k : Nat} (h : 5 * q + i ≤ k) : shf S q i f k = S f k := by
  simp only [shf]
  rw [if_neg (by omega)]
theorem shf_o {S : SX} {q i f k : Nat} (h : f < 42 ∨ 44 < f) : shf S q i f k = S f k := by
  simp only [shf]
  rw [if_neg (by omega)]
theorem shf_step (S : SX) (q i : Nat) : shf S q (i + 1) = up2 (up2 (up2 (shf S q i) 42 (5 * q + i) (shf S q i 42 (5 * q + i + 1))) 43 (5 * q + i) (shf S q i 43 (5 * q + i + 1))) 44 (5 * q + i) (shf S q i 44 (5 * q + i + 1)) := by
  have e2 : ∀ f, shf S q i f (5 * q + i + 1) = S f (5 * q + i + 1) := fun f => shf_hi (by omega)
  funext f k
  rw [e2, e2, e2]
  by_cases hk : k = 5 * q + i
  · subst hk
    by_cases h1 : f = 44
    · subst h1
      rw [up2_eq]
      exact if_pos (by omega)
    · rw [up2_f h1]
      by_cases h2 : f = 43
      · subst h2
        rw [up2_eq]
        exact if_pos (by omega)
      · rw [up2_f h2]
        by_cases h3 : f = 42
        · subst h3
          rw [up2_eq]
          exact if_pos (by omega)
        · rw [up2_f h3, shf_o (by omega), shf_o (by omega)]
  · rw [up2_i hk, up2_i hk, up2_i hk]
    by_cases h : (42 ≤ f ∧ f ≤ 44) ∧ 5 * q ≤ k ∧ k < 5 * q + i
    · exact (if_pos (by omega)).trans (if_pos h).symm
    · exact (if_neg (by omega)).trans (if_neg h).symm
def s_rem (S : SX) (q z : Nat) : SX := if z = 0 then S else shf (up2 S 41 q (nI (z - 1))) q (z - 1)
theorem s_rem_o {S : SX} {q z f k : Nat} (h : f < 41 ∨ 44 < f) : s_rem S q z f k = S f k := by
  unfold s_rem
  split
  · rfl
  · rw [shf_o (by omega), up2_f (by omega)]
set_option maxHeartbeats 4000000 in
set_option maxRecDepth 100000 in
theorem k_X0_removeFirst (l : Launch) (g : GX) (b N : Nat) (S : SX) (Fl : FX) (hN : N ≤ 6) (q z : Nat) (hq : q < 2 * N) (hz : z ≤ 5) (h41 : S 41 q = nI z) : MR l yX0_removeFirst (.code yX0_removeFirst cX0_removeFirst 2 none :: tb) (rmk 0 0) g (RepX g b N S Fl) (RepX g b N (s_rem S q z) Fl) (AX b N) [.ref (aQ b q)] none := by
  refine MR.start RX0 (by decide) rfl (Nat.le_of_ble_eq_true rfl) (fun zp ze zs zm zb zt zc ls C hr hlk hR hS hl => ?_)
  have hl : lv_has ls 2 [(0, .ref (aQ b q))] := hl
  refine lv_aload_n C.1 C.2.1 dX0_removeFirst_0 rfl (lv_at hl 0 rfl) ?_
  refine xQ_get (q := q) C hR (by omega) 3 (by decide) rfl fl_X0_21 (v := .int (S 41 q)) rfl dX0_removeFirst_1 ?_
  refine lv_re (y := nI z) (by rw [h41]) ?_
  refine lv_if_ne (tgt := 8) C.1 C.2.1 dX0_removeFirst_4 (by decide) (fun c4 => ?_) (fun c4 => ?_)
  · skip
    have c4 : ¬ (z = 0) := mt (nI_eq (a := z) (b := 0) (by omega) (by omega)).mpr c4
    refine lv_aload_n C.1 C.2.1 dX0_removeFirst_8 rfl (lv_at hl 0 rfl) ?_
    refine lv_dup C.1 C.2.1 dX0_removeFirst_9 rfl ?_
    refine xQ_get (q := q) C hR (by omega) 3 (by decide) rfl fl_X0_21 (v := .int (S 41 q)) rfl dX0_removeFirst_10 ?_
    refine lv_re (y := nI z) (by rw [h41]) ?_
    refine lv_iconst (v := nI 1) C.1 C.2.1 dX0_removeFirst_13 (by decide) ?_
    refine n_isub C (by omega) dX0_removeFirst_14 ?_
    refine xQ_put (q := q) C hR hS (by omega) fl_X0_21 dX0_removeFirst_15 (fun S1 H locs eS1 hR hS => ?_)
    refine lv_iconst (v := nI 0) C.1 C.2.1 dX0_removeFirst_18 (by decide) ?_
    refine lv_istore_n (lv' := [(1, .int (nI 0)), (0, .ref (aQ b q))]) C.1 C.2.1 dX0_removeFirst_19 rfl hl (by decide) rfl (fun ls hl => ?_)
    have h0 : shf (up2 S 41 q (nI (z - 1))) q 0 = S1 := by rw [shf_0, eS1]
    rw [← h0] at hR
    have lp : ∀ (n : Nat) (i : Nat) (H : Heap) (locs : List Loc) (ls : Array Slot), z - 1 - i < n → i ≤ z - 1 → RepX g b N (shf (up2 S 41 q (nI (z - 1))) q i) Fl H → va_S (AX b N) zs.heap H locs → lv_has ls 2 [(1, .int (nI i)), (0, .ref (aQ b q))] → W zp l ze (rmk 0 0) zs zm ([.ref (aQ b q)] : List Value).toArray zb zt zc H locs 0 0 (MQ zb (QR (RepX g b N (s_rem S q z) Fl) (AX b N) none) ([.ref (aQ b q)] : List Value).toArray zs 0 0 (AX b N)) (F0 zm 20 ls []) := by
      intro n
      induction n with
      | zero => intro i H locs ls hm; exact absurd hm (Nat.not_lt_zero _)
      | succ n ih =>
        intro i H locs ls hm hi hR hS hl
        obtain ⟨S2, eS2⟩ : ∃ y, y = shf (up2 S 41 q (nI (z - 1))) q i := ⟨_, rfl⟩
        rw [← eS2] at hR
        have hs41 : S2 41 q = nI (z - 1) := by rw [eS2, shf_o (by omega), up2_eq]
        refine lv_iload_n C.1 C.2.1 dX0_removeFirst_20 rfl (lv_at hl 0 rfl) ?_
        refine lv_aload_n C.1 C.2.1 dX0_removeFirst_21 rfl (lv_at hl 1 rfl) ?_
        refine xQ_get (q := q) C hR (by omega) 3 (by decide) rfl fl_X0_21 (v := .int (S2 41 q)) rfl dX0_removeFirst_22 ?_
        refine lv_re (y := nI (z - 1)) (by rw [hs41]) ?_
        refine lv_icmp_ge (tgt := 76) C.1 C.2.1 dX0_removeFirst_25 (by decide) (fun c25 => ?_) (fun c25 => ?_)
        · skip
          have c25 : z - 1 ≤ i := (nI_leI (a := z - 1) (b := i) (by omega) (by omega)).mp c25
          have hi2 : i = z - 1 := by omega
          have hs : s_rem S q z = S2 := (if_neg c4).trans (by rw [eS2, hi2])
          rw [hs]
          exact endv C hr hlk hR hS dX0_removeFirst_76
        · skip
          have c25 : ¬ (z - 1 ≤ i) := mt (nI_leI (a := z - 1) (b := i) (by omega) (by omega)).mpr c25
          refine lv_aload_n C.1 C.2.1 dX0_removeFirst_28 rfl (lv_at hl 1 rfl) ?_
          refine xQ_get (q := q) C hR (by omega) 0 (by decide) rfl fl_X0_9 (v := .ref (aQA b q 0)) rfl dX0_removeFirst_29 ?_
          refine lv_iload_n C.1 C.2.1 dX0_removeFirst_32 rfl (lv_at hl 0 rfl) ?_
          refine lv_aload_n C.1 C.2.1 dX0_removeFirst_33 rfl (lv_at hl 1 rfl) ?_
          refine xQ_get (q := q) C hR (by omega) 0 (by decide) rfl fl_X0_9 (v := .ref (aQA b q 0)) rfl dX0_removeFirst_34 ?_
          refine lv_iload_n C.1 C.2.1 dX0_removeFirst_37 rfl (lv_at hl 0 rfl) ?_
          refine lv_iconst (v := nI 1) C.1 C.2.1 dX0_removeFirst_38 (by decide) ?_
          refine n_iadd (z := i + 1) C dX0_removeFirst_39 (by omega) ?_
          refine xA_ld (q := q) (i := 0) (k := i + 1) C hR (by omega) (by decide) (by omega) (v := S2 42 (5 * q + i + 1)) rfl dX0_removeFirst_40 ?_
          refine xA_st (q := q) (i := 0) (k := i) C hR hS (by omega) (by decide) (by omega) dX0_removeFirst_41 (fun S3 H locs eS3 hR hS => ?_)
          refine lv_aload_n C.1 C.2.1 dX0_removeFirst_42 rfl (lv_at hl 1 rfl) ?_
          refine xQ_get (q := q) C hR (by omega) 1 (by decide) rfl fl_X0_15 (v := .ref (aQA b q 1)) rfl dX0_removeFirst_43 ?_
          refine lv_iload_n C.1 C.2.1 dX0_removeFirst_46 rfl (lv_at hl 0 rfl) ?_
          refine lv_aload_n C.1 C.2.1 dX0_removeFirst_47 rfl (lv_at hl 1 rfl) ?_
          refine xQ_get (q := q) C hR (by omega) 1 (by decide) rfl fl_X0_15 (v := .ref (aQA b q 1)) rfl dX0_removeFirst_48 ?_
          refine lv_iload_n C.1 C.2.1 dX0_removeFirst_51 rfl (lv_at hl 0 rfl) ?_
          refine lv_iconst (v := nI 1) C.1 C.2.1 dX0_removeFirst_52 (by decide) ?_
          refine n_iadd (z := i + 1) C dX0_removeFirst_53 (by omega) ?_
          refine xA_ld (q := q) (i := 1) (k := i + 1) C hR (by omega) (by decide) (by omega) (v := S3 43 (5 * q + i + 1)) rfl dX0_removeFirst_54 ?_
          refine lv_re (y := S2 43 (5 * q + i + 1)) (by rw [eS3, up2_f (by decide)]) ?_
          refine xA_st (q := q) (i := 1) (k := i) C hR hS (by omega) (by decide) (by omega) dX0_removeFirst_55 (fun S4 H locs eS4 hR hS => ?_)
          refine lv_aload_n C.1 C.2.1 dX0_removeFirst_56 rfl (lv_at hl 1 rfl) ?_
          refine xQ_get (q := q) C hR (by omega) 2 (by decide) rfl fl_X0_18 (v := .ref (aQA b q 2)) rfl dX0_removeFirst_57 ?_
          refine lv_iload_n C.1 C.2.1 dX0_removeFirst_60 rfl (lv_at hl 0 rfl) ?_
          refine lv_aload_n C.1 C.2.1 dX0_removeFirst_61 rfl (lv_at hl 1 rfl) ?_
          refine xQ_get (q := q) C hR (by omega) 2 (by decide) rfl fl_X0_18 (v := .ref (aQA b q 2)) rfl dX0_removeFirst_62 ?_
          refine lv_iload_n C.1 C.2.1 dX0_removeFirst_65 rfl (lv_at hl 0 rfl) ?_
          refine lv_iconst (v := nI 1) C.1 C.2.1 dX0_removeFirst_66 (by decide) ?_
          refine n_iadd (z := i + 1) C dX0_removeFirst_67 (by omega) ?_
          refine xA_ld (q := q) (i := 2) (k := i + 1) C hR (by omega) (by decide) (by omega) (v := S4 44 (5 * q + i + 1)) rfl dX0_removeFirst_68 ?_
          refine lv_re (y := S2 44 (5 * q + i + 1)) (by rw [eS4, up2_f (by decide), eS3, up2_f (by decide)]) ?_
          refine xA_st (q := q) (i := 2) (k := i) C hR hS (by omega) (by decide) (by omega) dX0_removeFirst_69 (fun S5 H locs eS5 hR hS => ?_)
          refine lv_iinc (v := nI (i + 1)) (lv' := [(1, .int (nI (i + 1))), (0, .ref (aQ b q))]) C.1 C.2.1 dX0_removeFirst_70 hl (k := 0) rfl (nI_add _ _) (by decide) rfl (fun ls hl => ?_)
          refine lv_goto (tgt := 20) C.1 C.2.1 dX0_removeFirst_73 (by decide) ?_
          have hb : shf (up2 S 41 q (nI (z - 1))) q (i + 1) = S5 := by rw [eS5, eS4, eS3, eS2, shf_step]
          rw [← hb] at hR
          exact ih (i + 1) H locs ls (by omega) (by omega) hR hS (lv_sub hl [0, 1] rfl)
    exact lp _ 0 _ _ ls (Nat.lt_succ_self _) (by omega) hR hS (lv_sub hl [0, 1] rfl)
  · skip
    have c4 : z = 0 := (nI_eq (a := z) (b := 0) (by omega) (by omega)).mp c4
    have hs : s_rem S q z = S := if_pos c4
    rw [hs]
    exact endv C hr hlk hR hS dX0_removeFirst_7

def jn (N : Nat) (S : SX) (j : Nat) : Bool := !(S 2 j == 0) && (!(S 40 j == 0) && !(S 2 (nx N j) == 0))
def bI (x : Bool) : Int32 := if x = true then nI 1 else nI 0
theorem bI_01 (x : Bool) : bI x = 0 ∨ bI x = 1 := by cases x <;> decide
theorem bI_0 {x : Bool} : bI x = 0 ↔ x = false := by cases x <;> decide
theorem bI_n0 {x : Bool} : ¬ bI x = 0 ↔ x = true := by cases x <;> decide
theorem kn_isJoined (l : Launch) (g : GX) (b N : Nat) (S : SX) (Fl : FX) (hN : N ≤ 6) (j : Nat) (hj : j < N) : MR l yX3_isJoinedToNext (.code yX3_isJoinedToNext cX3_isJoinedToNext 2 (some .boolean) :: tb) (rmk 1 21) g (RepX g b N S Fl) (RepX g b N S Fl) (AX b N) [.ref b, .int (nI j)] (some (.int (bI (jn N S j)))) := by
  have h : r_X3_isJoinedToNext S N j = bI (jn N S j) := by
    unfold r_X3_isJoinedToNext jn bI
    by_cases h1 : S 2 j = 0 <;> by_cases h2 : S 40 j = 0 <;> by_cases h3 : S 2 (nx N j) = 0 <;> simp [h1, h2, h3]
  rw [← h]
  exact k_X3_isJoinedToNext l g b N S Fl hN j hj
def allj (N : Nat) (S : SX) : Nat → Bool
  | 0 => true
  | i + 1 => allj N S i && jn N S i
theorem allj_f {N : Nat} {S : SX} {i n : Nat} (h : i < n) (hj : jn N S i = false) : allj N S n = false := by
  induction n with
  | zero => omega
  | succ n ih =>
    simp only [allj]
    by_cases hi : i = n
    · subst hi; simp [hj]
    · rw [ih (by omega)]; rfl
set_option maxHeartbeats 4000000 in
set_option maxRecDepth 100000 in
theorem k_X3_isUnbroken (l : Launch) (g : GX) (b N : Nat) (S : SX) (Fl : FX) (hN : N ≤ 6)  : MR l yX3_isUnbroken (.code yX3_isUnbroken cX3_isUnbroken 2 (some .boolean) :: tb) (rmk 2 42) g (RepX g b N S Fl) (RepX g b N S Fl) (AX b N) [.ref b] (some (.int (bI (allj N S N)))) := by
  refine MR.start RX3 (by decide) rfl (Nat.le_of_ble_eq_true rfl) (fun zp ze zs zm zb zt zc ls C hr hlk hR hS hl => ?_)
  have hl : lv_has ls 2 [(0, .ref b)] := hl
  refine lv_iconst (v := nI 0) C.1 C.2.1 dX3_isUnbroken_0 (by decide) ?_
  refine lv_istore_n (lv' := [(1, .int (nI 0)), (0, .ref b)]) C.1 C.2.1 dX3_isUnbroken_1 rfl hl (by decide) rfl (fun ls hl => ?_)
  have lp : ∀ (n : Nat) (i : Nat) (H : Heap) (locs : List Loc) (ls : Array Slot), N - i < n → i ≤ N → allj N S i = true → RepX g b N S Fl H → va_S (AX b N) zs.heap H locs → lv_has ls 2 [(1, .int (nI i)), (0, .ref b)] → W zp l ze (rmk 2 42) zs zm ([.ref b] : List Value).toArray zb zt zc H locs 0 0 (MQ zb (QR (RepX g b N S Fl) (AX b N) (some (.int (bI (allj N S N))))) ([.ref b] : List Value).toArray zs 0 0 (AX b N)) (F0 zm 2 ls []) := by
    intro n
    induction n with
    | zero => intro i H locs ls hm; exact absurd hm (Nat.not_lt_zero _)
    | succ n ih =>
      intro i H locs ls hm hi ha hR hS hl
      refine lv_iload_n C.1 C.2.1 dX3_isUnbroken_2 rfl (lv_at hl 0 rfl) ?_
      refine lv_aload_n C.1 C.2.1 dX3_isUnbroken_3 rfl (lv_at hl 1 rfl) ?_
      refine xO_get C hR 0 (by decide) rfl fl_X3_9 (v := .int (nI N)) rfl dX3_isUnbroken_4 ?_
      refine lv_icmp_ge (tgt := 26) C.1 C.2.1 dX3_isUnbroken_7 (by decide) (fun c7 => ?_) (fun c7 => ?_)
      · skip
        have c7 : N ≤ i := (nI_leI (a := N) (b := i) (by omega) (by omega)).mp c7
        refine lv_iconst (v := nI 1) C.1 C.2.1 dX3_isUnbroken_26 (by decide) ?_
        have hi2 : i = N := by omega
        subst hi2
        have hv : bI (allj i S i) = nI 1 := by rw [ha]; rfl
        rw [hv]
        exact endz C hr hlk (Or.inr rfl) hR hS dX3_isUnbroken_27
      · skip
        have c7 : ¬ (N ≤ i) := mt (nI_leI (a := N) (b := i) (by omega) (by omega)).mpr c7
        refine lv_aload_n C.1 C.2.1 dX3_isUnbroken_10 rfl (lv_at hl 1 rfl) ?_
        refine lv_iload_n C.1 C.2.1 dX3_isUnbroken_11 rfl (lv_at hl 0 rfl) ?_
        refine cxV (b := b) (As := [.int (nI i)]) (rest := []) (ci := 3) (q := (RX3, TX3, 6)) C (kn_isJoined l g b N S Fl hN (i) (by omega)) cf_X3_isJoinedToNext ml_X3_163 ⟨by decide, by decide⟩ ⟨rfl, rfl⟩ rfl (hR.1) rfl hl.1 rfl (Nat.le_of_ble_eq_true rfl) dX3_isUnbroken_12 hR ⟨Nat.zero_le _, Nat.zero_le _⟩ hS (fun _ h => h) (fun H locs hR hS _ _ => ?_)
        simp only [Option.toList, List.cons_append, List.nil_append]
        refine lv_if_ne (tgt := 20) C.1 C.2.1 dX3_isUnbroken_15 (by decide) (fun c15 => ?_) (fun c15 => ?_)
        · skip
          refine lv_iinc (v := nI (i + 1)) (lv' := [(1, .int (nI (i + 1))), (0, .ref b)]) C.1 C.2.1 dX3_isUnbroken_20 hl (k := 0) rfl (nI_add _ _) (by decide) rfl (fun ls hl => ?_)
          refine lv_goto (tgt := 2) C.1 C.2.1 dX3_isUnbroken_23 (by decide) ?_
          exact ih (i + 1) H locs ls (by omega) (by omega) (by simp only [allj, ha, Bool.true_and]; exact bI_n0.mp c15) hR hS (lv_sub hl [0, 1] rfl)
        · skip
          refine lv_iconst (v := nI 0) C.1 C.2.1 dX3_isUnbroken_18 (by decide) ?_
          have hv : bI (allj N S N) = nI 0 := by rw [allj_f (show i < N by omega) (bI_0.mp c15)]; rfl
          rw [hv]
          exact endz C hr hlk (Or.inl rfl) hR hS dX3_isUnbroken_19
  exact lp _ 0 _ _ ls (Nat.lt_succ_self _) (by omega) rfl hR hS (lv_sub hl [0, 1] rfl)

def rowN (N : Nat) (S : SX) : Nat → Nat → Nat → Nat
  | 0, L, _ => L
  | n + 1, L, x => if L < N ∧ jn N S x = true then rowN N S n (L + 1) (nx N x) else L
def rowL (N : Nat) (S : SX) (f : Nat) : Nat := if S 2 f = 0 then 0 else if jn N S (pv N f) = true then 0 else rowN N S 6 1 f
theorem rowN_le {N : Nat} {S : SX} : ∀ (n L x : Nat), L ≤ N → rowN N S n L x ≤ N ∧ L ≤ rowN N S n L x := by
  intro n
  induction n with
  | zero => intro L x h; exact ⟨h, Nat.le_refl _⟩
  | succ n ih =>
    intro L x h
    simp only [rowN]
    split
    · next hc => have := ih (L + 1) (nx N x) (by omega); omega
    · omega
theorem rowN_stop {N : Nat} {S : SX} {k L x : Nat} (h : ¬ (L < N ∧ jn N S x = true)) : rowN N S k L x = L := by
  cases k with
  | zero => rfl
  | succ k => exact if_neg h
theorem rowL_le {N : Nat} {S : SX} {f : Nat} (h : 1 ≤ N) : rowL N S f ≤ N := by
  unfold rowL
  split
  · omega
  · split
    · omega
    · exact (rowN_le 6 1 f h).1
set_option maxHeartbeats 4000000 in
set_option maxRecDepth 100000 in
theorem k_X3_rowLength (l : Launch) (g : GX) (b N : Nat) (S : SX) (Fl : FX) (hN : N ≤ 6) (f : Nat) (hf : f < N) : MR l yX3_rowLength (.code yX3_rowLength cX3_rowLength 4 (some .int) :: tb) (rmk 2 42) g (RepX g b N S Fl) (RepX g b N S Fl) (AX b N) [.ref b, .int (nI f)] (some (.int (nI (rowL N S f)))) := by
  refine MR.start RX3 (by decide) rfl (Nat.le_of_ble_eq_true rfl) (fun zp ze zs zm zb zt zc ls C hr hlk hR hS hl => ?_)
  have hl : lv_has ls 4 [(0, .ref b), (1, .int (nI f))] := hl
  refine lv_aload_n C.1 C.2.1 dX3_rowLength_0 rfl (lv_at hl 0 rfl) ?_
  refine xO_get C hR 1 (by decide) rfl fl_X3_15 (v := .ref (b + 1)) rfl dX3_rowLength_1 ?_
  refine lv_iload_n C.1 C.2.1 dX3_rowLength_4 rfl (lv_at hl 1 rfl) ?_
  refine xS_ald (j := f) C hR (by omega) hN dX3_rowLength_5 ?_
  refine xS_get (j := f) C hR (by omega) 2 (by decide) rfl fl_X3_56 (v := .int (S 2 f)) rfl dX3_rowLength_6 ?_
  refine lv_if_eq (tgt := 24) C.1 C.2.1 dX3_rowLength_9 (by decide) (fun c9 => ?_) (fun c9 => ?_)
  · skip
    refine lv_iconst (v := nI 0) C.1 C.2.1 dX3_rowLength_24 (by decide) ?_
    have hv : rowL N S f = 0 := if_pos c9
    rw [hv]
    exact endi C hr hlk hR hS dX3_rowLength_25
  · skip
    refine lv_aload_n C.1 C.2.1 dX3_rowLength_12 rfl (lv_at hl 0 rfl) ?_
    refine lv_aload_n C.1 C.2.1 dX3_rowLength_13 rfl (lv_at hl 0 rfl) ?_
    refine lv_iload_n C.1 C.2.1 dX3_rowLength_14 rfl (lv_at hl 1 rfl) ?_
    refine cxV (b := b) (As := [.int (nI f)]) (rest := [.ref b]) (ci := 3) (q := (RX3, TX3, 6)) C (kn_numberBefore l g b N S Fl hN (f) (by omega)) cf_X3_numberBefore ml_X3_169 ⟨by decide, by decide⟩ ⟨rfl, rfl⟩ rfl (hR.1) rfl hl.1 rfl (Nat.le_of_ble_eq_true rfl) dX3_rowLength_15 hR ⟨Nat.zero_le _, Nat.zero_le _⟩ hS (fun _ h => h) (fun H locs hR hS _ _ => ?_)
    simp only [Option.toList, List.cons_append, List.nil_append]
    have hw14 := pv_lt (N := N) (j := f) (by omega)
    refine cxV (b := b) (As := [.int (nI (pv N f))]) (rest := []) (ci := 3) (q := (RX3, TX3, 6)) C (kn_isJoined l g b N S Fl hN (pv N f) (by omega)) cf_X3_isJoinedToNext ml_X3_163 ⟨by decide, by decide⟩ ⟨rfl, rfl⟩ rfl (hR.1) rfl hl.1 rfl (Nat.le_of_ble_eq_true rfl) dX3_rowLength_18 hR ⟨Nat.zero_le _, Nat.zero_le _⟩ hS (fun _ h => h) (fun H locs hR hS _ _ => ?_)
    simp only [Option.toList, List.cons_append, List.nil_append]
    refine lv_if_eq (tgt := 26) C.1 C.2.1 dX3_rowLength_21 (by decide) (fun c21 => ?_) (fun c21 => ?_)
    · skip
      refine lv_iconst (v := nI 1) C.1 C.2.1 dX3_rowLength_26 (by decide) ?_
      refine lv_istore_n (lv' := [(2, .int (nI 1)), (0, .ref b), (1, .int (nI f))]) C.1 C.2.1 dX3_rowLength_27 rfl hl (by decide) rfl (fun ls hl => ?_)
      refine lv_iload_n C.1 C.2.1 dX3_rowLength_28 rfl (lv_at hl 2 rfl) ?_
      refine lv_istore_n (lv' := [(3, .int (nI f)), (2, .int (nI 1)), (0, .ref b), (1, .int (nI f))]) C.1 C.2.1 dX3_rowLength_29 rfl hl (by decide) rfl (fun ls hl => ?_)
      have lp : ∀ (n : Nat) (k : Nat) (L : Nat) (x : Nat) (H : Heap) (locs : List Loc) (ls : Array Slot), k < n → N ≤ L + k → 1 ≤ L → L ≤ N → x < N → rowL N S f = rowN N S k L x → RepX g b N S Fl H → va_S (AX b N) zs.heap H locs → lv_has ls 4 [(3, .int (nI x)), (2, .int (nI L)), (0, .ref b), (1, .int (nI f))] → W zp l ze (rmk 2 42) zs zm ([.ref b, .int (nI f)] : List Value).toArray zb zt zc H locs 0 0 (MQ zb (QR (RepX g b N S Fl) (AX b N) (some (.int (nI (rowL N S f))))) ([.ref b, .int (nI f)] : List Value).toArray zs 0 0 (AX b N)) (F0 zm 30 ls []) := by
        intro n
        induction n with
        | zero => intro k L x H locs ls hm; exact absurd hm (Nat.not_lt_zero _)
        | succ n ih =>
          intro k L x H locs ls hm hk hL hLN hxN hr2 hR hS hl
          refine lv_iload_n C.1 C.2.1 dX3_rowLength_30 rfl (lv_at hl 1 rfl) ?_
          refine lv_aload_n C.1 C.2.1 dX3_rowLength_31 rfl (lv_at hl 2 rfl) ?_
          refine xO_get C hR 0 (by decide) rfl fl_X3_9 (v := .int (nI N)) rfl dX3_rowLength_32 ?_
          refine lv_icmp_ge (tgt := 58) C.1 C.2.1 dX3_rowLength_35 (by decide) (fun c35 => ?_) (fun c35 => ?_)
          · skip
            have c35 : N ≤ L := (nI_leI (a := N) (b := L) (by omega) (by omega)).mp c35
            refine lv_iload_n C.1 C.2.1 dX3_rowLength_58 rfl (lv_at hl 1 rfl) ?_
            have hv : rowL N S f = L := hr2.trans (rowN_stop (fun h => by omega))
            rw [hv]
            exact endi C hr hlk hR hS dX3_rowLength_59
          · skip
            have c35 : ¬ (N ≤ L) := mt (nI_leI (a := N) (b := L) (by omega) (by omega)).mpr c35
            refine lv_aload_n C.1 C.2.1 dX3_rowLength_38 rfl (lv_at hl 2 rfl) ?_
            refine lv_iload_n C.1 C.2.1 dX3_rowLength_39 rfl (lv_at hl 0 rfl) ?_
            refine cxV (b := b) (As := [.int (nI x)]) (rest := []) (ci := 3) (q := (RX3, TX3, 6)) C (kn_isJoined l g b N S Fl hN (x) (by omega)) cf_X3_isJoinedToNext ml_X3_163 ⟨by decide, by decide⟩ ⟨rfl, rfl⟩ rfl (hR.1) rfl hl.1 rfl (Nat.le_of_ble_eq_true rfl) dX3_rowLength_40 hR ⟨Nat.zero_le _, Nat.zero_le _⟩ hS (fun _ h => h) (fun H locs hR hS _ _ => ?_)
            simp only [Option.toList, List.cons_append, List.nil_append]
            refine lv_if_eq (tgt := 58) C.1 C.2.1 dX3_rowLength_43 (by decide) (fun c43 => ?_) (fun c43 => ?_)
            · skip
              refine lv_iload_n C.1 C.2.1 dX3_rowLength_58 rfl (lv_at hl 1 rfl) ?_
              have hv : rowL N S f = L := hr2.trans (rowN_stop (fun h => by rw [bI_0.mp c43] at h; exact absurd h.2 (by decide)))
              rw [hv]
              exact endi C hr hlk hR hS dX3_rowLength_59
            · skip
              refine lv_aload_n C.1 C.2.1 dX3_rowLength_46 rfl (lv_at hl 2 rfl) ?_
              refine lv_iload_n C.1 C.2.1 dX3_rowLength_47 rfl (lv_at hl 0 rfl) ?_
              refine cxV (b := b) (As := [.int (nI x)]) (rest := []) (ci := 3) (q := (RX3, TX3, 6)) C (kn_numberAfter l g b N S Fl hN (x) (by omega)) cf_X3_numberAfter ml_X3_166 ⟨by decide, by decide⟩ ⟨rfl, rfl⟩ rfl (hR.1) rfl hl.1 rfl (Nat.le_of_ble_eq_true rfl) dX3_rowLength_48 hR ⟨Nat.zero_le _, Nat.zero_le _⟩ hS (fun _ h => h) (fun H locs hR hS _ _ => ?_)
              simp only [Option.toList, List.cons_append, List.nil_append]
              have hw54 := nx_lt (N := N) (j := x) (by omega)
              refine lv_istore_n (lv' := [(3, .int (nI (nx N x))), (2, .int (nI L)), (0, .ref b), (1, .int (nI f))]) C.1 C.2.1 dX3_rowLength_51 rfl hl (by decide) rfl (fun ls hl => ?_)
              refine lv_iinc (v := nI (L + 1)) (lv' := [(2, .int (nI (L + 1))), (3, .int (nI (nx N x))), (0, .ref b), (1, .int (nI f))]) C.1 C.2.1 dX3_rowLength_52 hl (k := 1) rfl (nI_add _ _) (by decide) rfl (fun ls hl => ?_)
              refine lv_goto (tgt := 30) C.1 C.2.1 dX3_rowLength_55 (by decide) ?_
              obtain ⟨k, rfl⟩ : ∃ k2, k = k2 + 1 := ⟨k - 1, by omega⟩
              have hb : rowN N S (k + 1) L x = rowN N S k (L + 1) (nx N x) := if_pos ⟨by omega, bI_n0.mp c43⟩
              exact ih k (L + 1) (nx N x) H locs ls (by omega) (by omega) (by omega) (by omega) (by omega) (hr2.trans hb) hR hS (lv_sub hl [1, 0, 2, 3] rfl)
      exact lp _ 6 1 f _ _ ls (Nat.lt_succ_self _) (by omega) (by omega) (by omega) (by omega) ((if_neg c9).trans (if_neg (fun h => absurd c21 (bI_n0.mpr h)))) hR hS (lv_sub hl [0, 1, 2, 3] rfl)
    · skip
      refine lv_iconst (v := nI 0) C.1 C.2.1 dX3_rowLength_24 (by decide) ?_
      have hv : rowL N S f = 0 := (if_neg c9).trans (if_pos (bI_n0.mp c21))
      rw [hv]
      exact endi C hr hlk hR hS dX3_rowLength_25

def s_X3_loseFrameBeingSent (S : SX) (N : Nat) (f p z : Nat) : SX := if S 27 f ≤ 0 then S else (up2 (up2 (s_rem S (qof (wr N (f + p)) (S 28 f)) z) 18 (wr N (f + p)) (S 18 (wr N (f + p)) + (nI 1))) 27 f (nI 0))
set_option maxHeartbeats 4000000 in
set_option maxRecDepth 100000 in
theorem k_X3_loseFrameBeingSent (l : Launch) (g : GX) (b N : Nat) (S : SX) (Fl : FX) (hN : N ≤ 6) (f p z : Nat) (hf : f < N) (hp : p < N) (hz : z ≤ 5) (h20 : S 20 f = nI f) (h25 : S 25 f = nI p) (h41 : S 41 (qof (wr N (f + p)) (S 28 f)) = nI z)  : MR l yX3_loseFrameBeingSent (.code yX3_loseFrameBeingSent cX3_loseFrameBeingSent 3 none :: tb) (rmk 2 45) g (RepX g b N S Fl) (RepX g b N (s_X3_loseFrameBeingSent S N f p z) Fl) (AX b N) [.ref b, .ref (aRg b f)] none := by
  refine MR.start RX3 (by decide) rfl (Nat.le_of_ble_eq_true rfl) (fun zp ze zs zm zb zt zc ls C hr hlk hR hS hl => ?_)
  have hl : lv_has ls 3 [(0, .ref b), (1, .ref (aRg b f))] := hl
  refine lv_aload_n C.1 C.2.1 dX3_loseFrameBeingSent_0 rfl (lv_at hl 1 rfl) ?_
  refine xR_get (j := f) C hR (by omega) 7 (by decide) rfl fl_X3_91 (v := .int (S 27 f)) rfl dX3_loseFrameBeingSent_1 ?_
  refine lv_if_le (tgt := 43) C.1 C.2.1 dX3_loseFrameBeingSent_4 (by decide) (fun c4 => ?_) (fun c4 => ?_)
  · skip
    have hs : s_X3_loseFrameBeingSent S N f p z = S := (if_pos c4).trans (rfl)
    rw [hs]
    exact endv C hr hlk hR hS dX3_loseFrameBeingSent_43
  · skip
    refine lv_aload_n C.1 C.2.1 dX3_loseFrameBeingSent_7 rfl (lv_at hl 0 rfl) ?_
    refine lv_aload_n C.1 C.2.1 dX3_loseFrameBeingSent_8 rfl (lv_at hl 1 rfl) ?_
    refine lv_aload_n C.1 C.2.1 dX3_loseFrameBeingSent_9 rfl (lv_at hl 1 rfl) ?_
    refine xR_get (j := f) C hR (by omega) 5 (by decide) rfl fl_X3_84 (v := .int (S 25 f)) rfl dX3_loseFrameBeingSent_10 ?_
    refine lv_re (y := nI p) (by rw [h25]) ?_
    refine cxV (b := b) (As := [.ref (aRg b f), .int (nI p)]) (rest := []) (ci := 3) (q := (RX3, TX3, 6)) C (k_X3_stationAt l g b N S Fl hN (f) (p) (by omega) (by omega) (by rw [h20])) cf_X3_stationAt ml_X3_178 ⟨by decide, by decide⟩ ⟨rfl, rfl⟩ rfl (hR.1) rfl hl.1 rfl (Nat.le_of_ble_eq_true rfl) dX3_loseFrameBeingSent_13 hR ⟨Nat.zero_le _, Nat.zero_le _⟩ hS (fun _ h => h) (fun H locs hR hS _ _ => ?_)
    simp only [Option.toList, List.cons_append, List.nil_append]
    have hw12 := wr_lt (N := N) (i := f + p) (by omega)
    refine lv_astore_n (lv' := [(2, .ref (aSt b (wr N (f + p)))), (0, .ref b), (1, .ref (aRg b f))]) C.1 C.2.1 dX3_loseFrameBeingSent_16 rfl hl (by decide) rfl (fun ls hl => ?_)
    refine lv_aload_n C.1 C.2.1 dX3_loseFrameBeingSent_17 rfl (lv_at hl 0 rfl) ?_
    refine lv_aload_n C.1 C.2.1 dX3_loseFrameBeingSent_18 rfl (lv_at hl 2 rfl) ?_
    refine xR_get (j := f) C hR (by omega) 8 (by decide) rfl fl_X3_182 (v := .int (S 28 f)) rfl dX3_loseFrameBeingSent_19 ?_
    refine cxV (b := aSt b (wr N (f + p))) (As := [.int (S 28 f)]) (rest := []) (ci := 2) (q := (RX2, TX2, 19)) C (kq_X2_queueFor l g b N S Fl hN (wr N (f + p)) (by omega) (S 28 f)) cf_X2_queueFor ml_X3_46 ⟨by decide, by decide⟩ ⟨rfl, rfl⟩ rfl (hR.2.2.2.2.1 _ (by omega)) rfl hl.1 rfl (Nat.le_of_ble_eq_true rfl) dX3_loseFrameBeingSent_22 hR ⟨Nat.zero_le _, Nat.zero_le _⟩ hS (fun _ h => h) (fun H locs hR hS _ _ => ?_)
    simp only [Option.toList, List.cons_append, List.nil_append]
    have hw19 := qof_lt (N := N) (j := wr N (f + p)) (x := S 28 f) (by omega)
    refine cxV (b := aQ b (qof (wr N (f + p)) (S 28 f))) (As := []) (rest := []) (ci := 0) (q := (RX0, TX0, 4)) C (k_X0_removeFirst l g b N S Fl hN (qof (wr N (f + p)) (S 28 f)) z (by omega) (by omega) h41) cf_X0_removeFirst ml_X3_185 ⟨by decide, by decide⟩ ⟨rfl, rfl⟩ rfl (hR.2.2.2.2.2.2.1 _ (by omega)) rfl hl.1 rfl (Nat.le_of_ble_eq_true rfl) dX3_loseFrameBeingSent_25 hR ⟨Nat.zero_le _, Nat.zero_le _⟩ hS (fun _ h => h) (fun H locs hR hS _ _ => ?_)
    obtain ⟨S1, eS1⟩ : ∃ y, y = s_rem S (qof (wr N (f + p)) (S 28 f)) z := ⟨_, rfl⟩
    rw [← eS1] at hR
    simp only [Option.toList, List.nil_append]
    refine lv_aload_n C.1 C.2.1 dX3_loseFrameBeingSent_28 rfl (lv_at hl 0 rfl) ?_
    refine lv_dup C.1 C.2.1 dX3_loseFrameBeingSent_29 rfl ?_
    refine xS_get (j := wr N (f + p)) C hR (by omega) 18 (by decide) rfl fl_X3_134 (v := .int (S1 18 (wr N (f + p)))) rfl dX3_loseFrameBeingSent_30 ?_
    refine lv_re (y := S 18 (wr N (f + p))) (by rw [eS1, s_rem_o (by decide)]) ?_
    refine lv_iconst (v := nI 1) C.1 C.2.1 dX3_loseFrameBeingSent_33 (by decide) ?_
    refine lv_iadd C.1 C.2.1 dX3_loseFrameBeingSent_34 ?_
    refine xS_put (j := wr N (f + p)) C hR hS (by omega) 18 (by decide) rfl rfl fl_X3_134 rfl rfl stS_18 dX3_loseFrameBeingSent_35 (fun S2 H locs eS2 hR hS => ?_)
    refine lv_aload_n C.1 C.2.1 dX3_loseFrameBeingSent_38 rfl (lv_at hl 2 rfl) ?_
    refine lv_iconst (v := nI 0) C.1 C.2.1 dX3_loseFrameBeingSent_39 (by decide) ?_
    refine xR_put (j := f) C hR hS (by omega) 7 (by decide) rfl rfl fl_X3_91 rfl rfl rgS_7 dX3_loseFrameBeingSent_40 (fun S3 H locs eS3 hR hS => ?_)
    have hs : s_X3_loseFrameBeingSent S N f p z = S3 := (if_neg c4).trans (by rw [eS3, eS2, eS1])
    rw [hs]
    exact endv C hr hlk hR hS dX3_loseFrameBeingSent_43

theorem lose_o {S : SX} {N f p z g k : Nat} (h : g < 41 ∨ 44 < g) (h1 : g ≠ 18) (h2 : g ≠ 27) : s_X3_loseFrameBeingSent S N f p z g k = S g k := by
  unfold s_X3_loseFrameBeingSent
  split
  · rfl
  · rw [up2_f h2, up2_f h1, s_rem_o h]
def sfr (N : Nat) (S : SX) (f : Nat) : Nat → SX
  | 0 => S
  | i + 1 => up2 (sfr N S f i) 3 (wr N (f + i)) (nI f)
theorem sfr_o {N : Nat} {S : SX} {f i g k : Nat} (h : g ≠ 3) : sfr N S f i g k = S g k := by
  induction i with
  | zero => rfl
  | succ i ih => simp only [sfr]; rw [up2_f h, ih]
def ref0 (S : SX) (N f p z L : Nat) (cl : Int32) : SX := up2 (up2 (up2 (s_X3_loseFrameBeingSent S N f p z) 21 f (nI L)) 22 f cl) 23 f (nI (2 * L))
def s_X3_claim (S : SX) (N : Nat) (f p z L : Nat) : SX := up2 (s_X3_loseFrameBeingSent S N f p z) 23 f (nI (2 * L))
set_option maxHeartbeats 4000000 in
set_option maxRecDepth 100000 in
theorem k_X3_claim (l : Launch) (g : GX) (b N : Nat) (S : SX) (Fl : FX) (hN : N ≤ 6) (f p z : Nat) (hf : f < N) (hp : p < N) (hz : z ≤ 5) (h20 : S 20 f = nI f) (h25 : S 25 f = nI p) (h41 : S 41 (qof (wr N (f + p)) (S 28 f)) = nI z) (L : Nat) (hL : L ≤ N) (h21 : S 21 f = nI L)  : MR l yX3_claim (.code yX3_claim cX3_claim 2 none :: tb) (rmk 3 67) g (RepX g b N S Fl) (RepX g b N (s_X3_claim S N f p z L) Fl) (AX b N) [.ref b, .ref (aRg b f)] none := by
  refine MR.start RX3 (by decide) rfl (Nat.le_of_ble_eq_true rfl) (fun zp ze zs zm zb zt zc ls C hr hlk hR hS hl => ?_)
  have hl : lv_has ls 2 [(0, .ref b), (1, .ref (aRg b f))] := hl
  refine lv_aload_n C.1 C.2.1 dX3_claim_0 rfl (lv_at hl 0 rfl) ?_
  refine lv_aload_n C.1 C.2.1 dX3_claim_1 rfl (lv_at hl 1 rfl) ?_
  refine cxV (b := b) (As := [.ref (aRg b f)]) (rest := []) (ci := 3) (q := (RX3, TX3, 6)) C (k_X3_loseFrameBeingSent l g b N S Fl hN f p z (by omega) (by omega) (by omega) h20 h25 h41) cf_X3_loseFrameBeingSent ml_X3_172 ⟨by decide, by decide⟩ ⟨rfl, rfl⟩ rfl (hR.1) rfl hl.1 rfl (Nat.le_of_ble_eq_true rfl) dX3_claim_2 hR ⟨Nat.zero_le _, Nat.zero_le _⟩ hS (fun _ h => h) (fun H locs hR hS _ _ => ?_)
  obtain ⟨S1, eS1⟩ : ∃ y, y = s_X3_loseFrameBeingSent S N f p z := ⟨_, rfl⟩
  rw [← eS1] at hR
  simp only [Option.toList, List.nil_append]
  refine lv_aload_n C.1 C.2.1 dX3_claim_5 rfl (lv_at hl 1 rfl) ?_
  refine lv_iconst (v := nI 2) C.1 C.2.1 dX3_claim_6 (by decide) ?_
  refine lv_aload_n C.1 C.2.1 dX3_claim_7 rfl (lv_at hl 1 rfl) ?_
  refine xR_get (j := f) C hR (by omega) 1 (by decide) rfl fl_X3_153 (v := .int (S1 21 f)) rfl dX3_claim_8 ?_
  refine lv_re (y := nI L) (by rw [eS1, lose_o (by decide) (by decide) (by decide), h21]) ?_
  refine n_imul (z := 2 * L) C dX3_claim_11 (by omega) ?_
  refine xR_put (j := f) C hR hS (by omega) 3 (by decide) rfl rfl fl_X3_175 rfl rfl rgS_3 dX3_claim_12 (fun S2 H locs eS2 hR hS => ?_)
  have hs : s_X3_claim S N f p z L = S2 := (show _ = up2 (s_X3_loseFrameBeingSent S N f p z) 23 f (nI (2 * L)) from rfl).trans (by rw [eS2, eS1])
  rw [hs]
  exact endv C hr hlk hR hS dX3_claim_15

set_option maxHeartbeats 4000000 in
set_option maxRecDepth 100000 in
theorem k_X3_reform (l : Launch) (g : GX) (b N : Nat) (S : SX) (Fl : FX) (hN : N ≤ 6) (f p z : Nat) (hf : f < N) (hp : p < N) (hz : z ≤ 5) (h20 : S 20 f = nI f) (h25 : S 25 f = nI p) (h41 : S 41 (qof (wr N (f + p)) (S 28 f)) = nI z) (L : Nat) (hL : L ≤ N) (cl : Int32) (hcl : cl = 0 ∨ cl = 1) : MR l yX3_reform (.code yX3_reform cX3_reform 5 none :: tb) (rmk 3 67) g (RepX g b N S Fl) (RepX g b N (sfr N (ref0 S N f p z L cl) f L) Fl) (AX b N) [.ref b, .ref (aRg b f), .int (nI L), .int cl] none := by
  refine MR.start RX3 (by decide) rfl (Nat.le_of_ble_eq_true rfl) (fun zp ze zs zm zb zt zc ls C hr hlk hR hS hl => ?_)
  have hl : lv_has ls 5 [(0, .ref b), (1, .ref (aRg b f)), (2, .int (nI L)), (3, .int cl)] := hl
  refine lv_aload_n C.1 C.2.1 dX3_reform_0 rfl (lv_at hl 0 rfl) ?_
  refine lv_aload_n C.1 C.2.1 dX3_reform_1 rfl (lv_at hl 1 rfl) ?_
  refine cxV (b := b) (As := [.ref (aRg b f)]) (rest := []) (ci := 3) (q := (RX3, TX3, 6)) C (k_X3_loseFrameBeingSent l g b N S Fl hN f p z (by omega) (by omega) (by omega) h20 h25 h41) cf_X3_loseFrameBeingSent ml_X3_172 ⟨by decide, by decide⟩ ⟨rfl, rfl⟩ rfl (hR.1) rfl hl.1 rfl (Nat.le_of_ble_eq_true rfl) dX3_reform_2 hR ⟨Nat.zero_le _, Nat.zero_le _⟩ hS (fun _ h => h) (fun H locs hR hS _ _ => ?_)
  obtain ⟨S1, eS1⟩ : ∃ y, y = s_X3_loseFrameBeingSent S N f p z := ⟨_, rfl⟩
  rw [← eS1] at hR
  simp only [Option.toList, List.nil_append]
  refine lv_aload_n C.1 C.2.1 dX3_reform_5 rfl (lv_at hl 1 rfl) ?_
  refine lv_iload_n C.1 C.2.1 dX3_reform_6 rfl (lv_at hl 2 rfl) ?_
  refine xR_put (j := f) C hR hS (by omega) 1 (by decide) rfl rfl fl_X3_153 rfl rfl rgS_1 dX3_reform_7 (fun S2 H locs eS2 hR hS => ?_)
  refine lv_aload_n C.1 C.2.1 dX3_reform_10 rfl (lv_at hl 1 rfl) ?_
  refine lv_iload_n C.1 C.2.1 dX3_reform_11 rfl (lv_at hl 3 rfl) ?_
  refine xR_put (j := f) C hR hS (by omega) 2 (by decide) rfl rfl fl_X3_156 (nz_n hcl) (nz_f hcl) rgS_2 dX3_reform_12 (fun S3 H locs eS3 hR hS => ?_)
  refine lv_aload_n C.1 C.2.1 dX3_reform_15 rfl (lv_at hl 1 rfl) ?_
  refine lv_iconst (v := nI 2) C.1 C.2.1 dX3_reform_16 (by decide) ?_
  refine lv_iload_n C.1 C.2.1 dX3_reform_17 rfl (lv_at hl 2 rfl) ?_
  refine n_imul (z := 2 * L) C dX3_reform_18 (by omega) ?_
  refine xR_put (j := f) C hR hS (by omega) 3 (by decide) rfl rfl fl_X3_175 rfl rfl rgS_3 dX3_reform_19 (fun S4 H locs eS4 hR hS => ?_)
  refine lv_iconst (v := nI 0) C.1 C.2.1 dX3_reform_22 (by decide) ?_
  refine lv_istore (lv' := [(4, .int (nI 0)), (0, .ref b), (1, .ref (aRg b f)), (2, .int (nI L)), (3, .int cl)]) C.1 C.2.1 dX3_reform_23 hl (by decide) rfl (fun ls hl => ?_)
  have h0 : sfr N (ref0 S N f p z L cl) f 0 = S4 := by rw [eS4, eS3, eS2, eS1]; rfl
  rw [← h0] at hR
  have lp : ∀ (n : Nat) (i : Nat) (H : Heap) (locs : List Loc) (ls : Array Slot), L - i < n → i ≤ L → RepX g b N (sfr N (ref0 S N f p z L cl) f i) Fl H → va_S (AX b N) zs.heap H locs → lv_has ls 5 [(4, .int (nI i)), (0, .ref b), (1, .ref (aRg b f)), (2, .int (nI L)), (3, .int cl)] → W zp l ze (rmk 3 67) zs zm ([.ref b, .ref (aRg b f), .int (nI L), .int cl] : List Value).toArray zb zt zc H locs 0 0 (MQ zb (QR (RepX g b N (sfr N (ref0 S N f p z L cl) f L) Fl) (AX b N) none) ([.ref b, .ref (aRg b f), .int (nI L), .int cl] : List Value).toArray zs 0 0 (AX b N)) (F0 zm 25 ls []) := by
    intro n
    induction n with
    | zero => intro i H locs ls hm; exact absurd hm (Nat.not_lt_zero _)
    | succ n ih =>
      intro i H locs ls hm hi hR hS hl
      obtain ⟨S5, eS5⟩ : ∃ y, y = sfr N (ref0 S N f p z L cl) f i := ⟨_, rfl⟩
      rw [← eS5] at hR
      have g20 : S5 20 f = nI f := by rw [eS5, sfr_o (by decide)]; unfold ref0; rw [up2_f (by decide), up2_f (by decide), up2_f (by decide), lose_o (by decide) (by decide) (by decide), h20]
      refine lv_iload C.1 C.2.1 dX3_reform_25 (lv_at hl 0 rfl) ?_
      refine lv_iload_n C.1 C.2.1 dX3_reform_27 rfl (lv_at hl 3 rfl) ?_
      refine lv_icmp_ge (tgt := 51) C.1 C.2.1 dX3_reform_28 (by decide) (fun c28 => ?_) (fun c28 => ?_)
      · skip
        have c28 : L ≤ i := (nI_leI (a := L) (b := i) (by omega) (by omega)).mp c28
        have hi2 : i = L := by omega
        have hs : sfr N (ref0 S N f p z L cl) f L = S5 := by rw [eS5, hi2]
        rw [hs]
        exact endv C hr hlk hR hS dX3_reform_51
      · skip
        have c28 : ¬ (L ≤ i) := mt (nI_leI (a := L) (b := i) (by omega) (by omega)).mpr c28
        refine lv_aload_n C.1 C.2.1 dX3_reform_31 rfl (lv_at hl 1 rfl) ?_
        refine lv_aload_n C.1 C.2.1 dX3_reform_32 rfl (lv_at hl 2 rfl) ?_
        refine lv_iload C.1 C.2.1 dX3_reform_33 (lv_at hl 0 rfl) ?_
        refine cxV (b := b) (As := [.ref (aRg b f), .int (nI i)]) (rest := []) (ci := 3) (q := (RX3, TX3, 6)) C (k_X3_stationAt l g b N S5 Fl hN (f) (i) (by omega) (by omega) (by rw [g20])) cf_X3_stationAt ml_X3_178 ⟨by decide, by decide⟩ ⟨rfl, rfl⟩ rfl (hR.1) rfl hl.1 rfl (Nat.le_of_ble_eq_true rfl) dX3_reform_35 hR ⟨Nat.zero_le _, Nat.zero_le _⟩ hS (fun _ h => h) (fun H locs hR hS _ _ => ?_)
        simp only [Option.toList, List.cons_append, List.nil_append]
        have hw42 := wr_lt (N := N) (i := f + i) (by omega)
        refine lv_aload_n C.1 C.2.1 dX3_reform_38 rfl (lv_at hl 2 rfl) ?_
        refine xR_get (j := f) C hR (by omega) 0 (by decide) rfl fl_X3_144 (v := .int (S5 20 f)) rfl dX3_reform_39 ?_
        refine lv_re (y := nI f) (by rw [g20]) ?_
        refine xS_put (j := wr N (f + i)) C hR hS (by omega) 3 (by decide) rfl rfl fl_X3_70 rfl rfl stS_3 dX3_reform_42 (fun S6 H locs eS6 hR hS => ?_)
        refine lv_iinc (v := nI (i + 1)) (lv' := [(4, .int (nI (i + 1))), (0, .ref b), (1, .ref (aRg b f)), (2, .int (nI L)), (3, .int cl)]) C.1 C.2.1 dX3_reform_45 hl (k := 0) rfl (nI_add _ _) (by decide) rfl (fun ls hl => ?_)
        refine lv_goto (tgt := 25) C.1 C.2.1 dX3_reform_48 (by decide) ?_
        have hb : sfr N (ref0 S N f p z L cl) f (i + 1) = S6 := by rw [eS6, eS5]; rfl
        rw [← hb] at hR
        exact ih (i + 1) H locs ls (by omega) (by omega) hR hS (lv_sub hl [0, 1, 2, 3, 4] rfl)
  exact lp _ 0 _ _ ls (Nat.lt_succ_self _) (by omega) hR hS (lv_sub hl [0, 1, 2, 3, 4] rfl)

