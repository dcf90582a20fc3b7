def wins (N : Nat) (S : SX) (f : Nat) : Nat → Nat → Nat → Nat
  | 0, _, w => w
  | n + 1, i, w => wins N S f n (i + 1) (if S 4 (wr N (f + i)) < S 4 (wr N (f + w)) ∨ (S 4 (wr N (f + i)) = S 4 (wr N (f + w)) ∧ wr N (f + w) < wr N (f + i)) then i else w)
theorem wins_lt {N : Nat} {S : SX} {f : Nat} : ∀ (n i w : Nat), w < i → wins N S f n i w < i + n := by
  intro n
  induction n with
  | zero => intro i w h; exact h
  | succ n ih =>
    intro i w h
    simp only [wins]
    have := ih (i + 1) (if S 4 (wr N (f + i)) < S 4 (wr N (f + w)) ∨ (S 4 (wr N (f + i)) = S 4 (wr N (f + w)) ∧ wr N (f + w) < wr N (f + i)) then i else w) (by split <;> omega)
    omega
set_option maxHeartbeats 4000000 in
set_option maxRecDepth 100000 in
theorem k_X3_winningPlace (l : Launch) (g : GX) (b N : Nat) (S : SX) (Fl : FX) (hN : N ≤ 6) (f p L : Nat) (hf : f < N) (hp : p < N) (hL : L ≤ N) (hL1 : 1 ≤ L) (h20 : S 20 f = nI f) (h25 : S 25 f = nI p) (h21 : S 21 f = nI L) : MR l yX3_winningPlace (.code yX3_winningPlace cX3_winningPlace 7 (some .int) :: tb) (rmk 2 45) g (RepX g b N S Fl) (RepX g b N S Fl) (AX b N) [.ref b, .ref (aRg b f)] (some (.int (nI (wins N S f (L - 1) 1 0)))) := by
  refine MR.start RX3 (by decide) rfl (Nat.le_of_ble_eq_true rfl) (fun zp ze zs zm zb zt zc ls C hr hlk hR hS hl => ?_)
  have hl : lv_has ls 7 [(0, .ref b), (1, .ref (aRg b f))] := hl
  refine lv_iconst (v := nI 0) C.1 C.2.1 dX3_winningPlace_0 (by decide) ?_
  refine lv_istore_n (lv' := [(2, .int (nI 0)), (0, .ref b), (1, .ref (aRg b f))]) C.1 C.2.1 dX3_winningPlace_1 rfl hl (by decide) rfl (fun ls hl => ?_)
  refine lv_iconst (v := nI 1) C.1 C.2.1 dX3_winningPlace_2 (by decide) ?_
  refine lv_istore_n (lv' := [(3, .int (nI 1)), (2, .int (nI 0)), (0, .ref b), (1, .ref (aRg b f))]) C.1 C.2.1 dX3_winningPlace_3 rfl hl (by decide) rfl (fun ls hl => ?_)
  have lp : ∀ (n : Nat) (k : Nat) (i : Nat) (w : Nat) (H : Heap) (locs : List Loc) (ls : Array Slot), k < n → i + k = L → 1 ≤ i → w < i → w < L → wins N S f (L - 1) 1 0 = wins N S f k i w → RepX g b N S Fl H → va_S (AX b N) zs.heap H locs → lv_has ls 7 [(3, .int (nI i)), (2, .int (nI w)), (0, .ref b), (1, .ref (aRg b f))] → W zp l ze (rmk 2 45) zs zm ([.ref b, .ref (aRg b f)] : List Value).toArray zb zt zc H locs 0 0 (MQ zb (QR (RepX g b N S Fl) (AX b N) (some (.int (nI (wins N S f (L - 1) 1 0))))) ([.ref b, .ref (aRg b f)] : List Value).toArray zs 0 0 (AX b N)) (F0 zm 4 ls []) := by
    intro n
    induction n with
    | zero => intro k i w H locs ls hm; exact absurd hm (Nat.not_lt_zero _)
    | succ n ih =>
      intro k i w H locs ls hm hk hi1 hw hwL hr2 hR hS hl
      refine lv_iload_n C.1 C.2.1 dX3_winningPlace_4 rfl (lv_at hl 0 rfl) ?_
      refine lv_aload_n C.1 C.2.1 dX3_winningPlace_5 rfl (lv_at hl 3 rfl) ?_
      refine xR_get (j := f) C hR (by omega) 1 (by decide) rfl fl_X3_153 (v := .int (S 21 f)) rfl dX3_winningPlace_6 ?_
      refine lv_re (y := nI L) (by rw [h21]) ?_
      refine lv_icmp_ge (tgt := 83) C.1 C.2.1 dX3_winningPlace_9 (by decide) (fun c9 => ?_) (fun c9 => ?_)
      · skip
        have c9 : L ≤ i := (nI_leI (a := L) (b := i) (by omega) (by omega)).mp c9
        refine lv_iload_n C.1 C.2.1 dX3_winningPlace_83 rfl (lv_at hl 1 rfl) ?_
        have hv : wins N S f (L - 1) 1 0 = w := hr2.trans (by rw [show k = 0 by omega]; rfl)
        rw [hv]
        exact endi C hr hlk hR hS dX3_winningPlace_84
      · skip
        have c9 : ¬ (L ≤ i) := mt (nI_leI (a := L) (b := i) (by omega) (by omega)).mpr c9
        refine lv_aload_n C.1 C.2.1 dX3_winningPlace_12 rfl (lv_at hl 2 rfl) ?_
        refine lv_aload_n C.1 C.2.1 dX3_winningPlace_13 rfl (lv_at hl 3 rfl) ?_
        refine lv_iload_n C.1 C.2.1 dX3_winningPlace_14 rfl (lv_at hl 0 rfl) ?_
        refine cxV (b := b) (As := [.ref (aRg b f), .int (nI i)]) (rest := []) (ci := 3) (q := (RX3, TX3, 6)) C (k_X3_stationAt l g b N S Fl hN (f) (i) (by omega) (by omega) (by rw [h20])) cf_X3_stationAt ml_X3_178 ⟨by decide, by decide⟩ ⟨rfl, rfl⟩ rfl (hR.1) rfl hl.1 rfl (Nat.le_of_ble_eq_true rfl) dX3_winningPlace_15 hR ⟨Nat.zero_le _, Nat.zero_le _⟩ hS (fun _ h => h) (fun H locs hR hS _ _ => ?_)
        simp only [Option.toList, List.cons_append, List.nil_append]
        have hw25 := wr_lt (N := N) (i := f + i) (by omega)
        refine xS_get (j := wr N (f + i)) C hR (by omega) 4 (by decide) rfl fl_X3_40 (v := .int (S 4 (wr N (f + i)))) rfl dX3_winningPlace_18 ?_
        refine lv_istore (lv' := [(4, .int (S 4 (wr N (f + i)))), (3, .int (nI i)), (2, .int (nI w)), (0, .ref b), (1, .ref (aRg b f))]) C.1 C.2.1 dX3_winningPlace_21 hl (by decide) rfl (fun ls hl => ?_)
        refine lv_aload_n C.1 C.2.1 dX3_winningPlace_23 rfl (lv_at hl 3 rfl) ?_
        refine lv_aload_n C.1 C.2.1 dX3_winningPlace_24 rfl (lv_at hl 4 rfl) ?_
        refine lv_iload_n C.1 C.2.1 dX3_winningPlace_25 rfl (lv_at hl 2 rfl) ?_
        refine cxV (b := b) (As := [.ref (aRg b f), .int (nI w)]) (rest := []) (ci := 3) (q := (RX3, TX3, 6)) C (k_X3_stationAt l g b N S Fl hN (f) (w) (by omega) (by omega) (by rw [h20])) cf_X3_stationAt ml_X3_178 ⟨by decide, by decide⟩ ⟨rfl, rfl⟩ rfl (hR.1) rfl hl.1 rfl (Nat.le_of_ble_eq_true rfl) dX3_winningPlace_26 hR ⟨Nat.zero_le _, Nat.zero_le _⟩ hS (fun _ h => h) (fun H locs hR hS _ _ => ?_)
        simp only [Option.toList, List.cons_append, List.nil_append]
        have hw33 := wr_lt (N := N) (i := f + w) (by omega)
        refine xS_get (j := wr N (f + w)) C hR (by omega) 4 (by decide) rfl fl_X3_40 (v := .int (S 4 (wr N (f + w)))) rfl dX3_winningPlace_29 ?_
        refine lv_istore (lv' := [(5, .int (S 4 (wr N (f + w)))), (4, .int (S 4 (wr N (f + i)))), (3, .int (nI i)), (2, .int (nI w)), (0, .ref b), (1, .ref (aRg b f))]) C.1 C.2.1 dX3_winningPlace_32 hl (by decide) rfl (fun ls hl => ?_)
        refine lv_aload_n C.1 C.2.1 dX3_winningPlace_34 rfl (lv_at hl 4 rfl) ?_
        refine lv_aload_n C.1 C.2.1 dX3_winningPlace_35 rfl (lv_at hl 5 rfl) ?_
        refine lv_iload_n C.1 C.2.1 dX3_winningPlace_36 rfl (lv_at hl 2 rfl) ?_
        refine cxV (b := b) (As := [.ref (aRg b f), .int (nI i)]) (rest := []) (ci := 3) (q := (RX3, TX3, 6)) C (kn_numberAt l g b N S Fl hN (f) (i) (by omega) (by omega) (by rw [h20])) cf_X3_numberAt ml_X3_87 ⟨by decide, by decide⟩ ⟨rfl, rfl⟩ rfl (hR.1) rfl hl.1 rfl (Nat.le_of_ble_eq_true rfl) dX3_winningPlace_37 hR ⟨Nat.zero_le _, Nat.zero_le _⟩ hS (fun _ h => h) (fun H locs hR hS _ _ => ?_)
        simp only [Option.toList, List.cons_append, List.nil_append]
        have hw41 := wr_lt (N := N) (i := f + i) (by omega)
        refine lv_aload_n C.1 C.2.1 dX3_winningPlace_40 rfl (lv_at hl 4 rfl) ?_
        refine lv_aload_n C.1 C.2.1 dX3_winningPlace_41 rfl (lv_at hl 5 rfl) ?_
        refine lv_iload_n C.1 C.2.1 dX3_winningPlace_42 rfl (lv_at hl 3 rfl) ?_
        refine cxV (b := b) (As := [.ref (aRg b f), .int (nI w)]) (rest := [.int (nI (wr N (f + i)))]) (ci := 3) (q := (RX3, TX3, 6)) C (kn_numberAt l g b N S Fl hN (f) (w) (by omega) (by omega) (by rw [h20])) cf_X3_numberAt ml_X3_87 ⟨by decide, by decide⟩ ⟨rfl, rfl⟩ rfl (hR.1) rfl hl.1 rfl (Nat.le_of_ble_eq_true rfl) dX3_winningPlace_43 hR ⟨Nat.zero_le _, Nat.zero_le _⟩ hS (fun _ h => h) (fun H locs hR hS _ _ => ?_)
        simp only [Option.toList, List.cons_append, List.nil_append]
        have hw47 := wr_lt (N := N) (i := f + w) (by omega)
        refine lv_icmp_le (tgt := 53) C.1 C.2.1 dX3_winningPlace_46 (by decide) (fun c46 => ?_) (fun c46 => ?_)
        · skip
          have c46 : wr N (f + i) ≤ wr N (f + w) := (nI_leI (a := wr N (f + i)) (b := wr N (f + w)) (by omega) (by omega)).mp c46
          refine lv_iconst (v := nI 0) C.1 C.2.1 dX3_winningPlace_53 (by decide) ?_
          refine lv_istore (lv' := [(6, .int (nI 0)), (5, .int (S 4 (wr N (f + w)))), (4, .int (S 4 (wr N (f + i)))), (3, .int (nI i)), (2, .int (nI w)), (0, .ref b), (1, .ref (aRg b f))]) C.1 C.2.1 dX3_winningPlace_54 hl (by decide) rfl (fun ls hl => ?_)
          refine lv_iload C.1 C.2.1 dX3_winningPlace_56 (lv_at hl 2 rfl) ?_
          refine lv_iload C.1 C.2.1 dX3_winningPlace_58 (lv_at hl 1 rfl) ?_
          refine lv_icmp_lt (tgt := 75) C.1 C.2.1 dX3_winningPlace_60 (by decide) (fun c60 => ?_) (fun c60 => ?_)
          · skip
            refine lv_iload_n C.1 C.2.1 dX3_winningPlace_75 rfl (lv_at hl 3 rfl) ?_
            refine lv_istore_n (lv' := [(2, .int (nI i)), (6, .int (nI 0)), (5, .int (S 4 (wr N (f + w)))), (4, .int (S 4 (wr N (f + i)))), (3, .int (nI i)), (0, .ref b), (1, .ref (aRg b f))]) C.1 C.2.1 dX3_winningPlace_76 rfl hl (by decide) rfl (fun ls hl => ?_)
            refine lv_iinc (v := nI (i + 1)) (lv' := [(3, .int (nI (i + 1))), (2, .int (nI i)), (6, .int (nI 0)), (5, .int (S 4 (wr N (f + w)))), (4, .int (S 4 (wr N (f + i)))), (0, .ref b), (1, .ref (aRg b f))]) C.1 C.2.1 dX3_winningPlace_77 hl (k := 4) rfl (nI_add _ _) (by decide) rfl (fun ls hl => ?_)
            refine lv_goto (tgt := 4) C.1 C.2.1 dX3_winningPlace_80 (by decide) ?_
            obtain ⟨k, rfl⟩ : ∃ k2, k = k2 + 1 := ⟨k - 1, by omega⟩
            have hb : wins N S f (k + 1) i w = wins N S f k (i + 1) i := congrArg (wins N S f k (i + 1)) (if_pos (by first | exact Or.inl c60 | exact Or.inr ⟨c67, by omega⟩))
            exact ih k (i + 1) i H locs ls (by omega) (by omega) (by omega) (by omega) (by omega) (hr2.trans hb) hR hS (lv_sub hl [0, 1, 5, 6] rfl)
          · skip
            refine lv_iload C.1 C.2.1 dX3_winningPlace_63 (lv_at hl 2 rfl) ?_
            refine lv_iload C.1 C.2.1 dX3_winningPlace_65 (lv_at hl 1 rfl) ?_
            refine lv_icmp_ne (tgt := 77) C.1 C.2.1 dX3_winningPlace_67 (by decide) (fun c67 => ?_) (fun c67 => ?_)
            · skip
              refine lv_iinc (v := nI (i + 1)) (lv' := [(3, .int (nI (i + 1))), (6, .int (nI 0)), (5, .int (S 4 (wr N (f + w)))), (4, .int (S 4 (wr N (f + i)))), (2, .int (nI w)), (0, .ref b), (1, .ref (aRg b f))]) C.1 C.2.1 dX3_winningPlace_77 hl (k := 3) rfl (nI_add _ _) (by decide) rfl (fun ls hl => ?_)
              refine lv_goto (tgt := 4) C.1 C.2.1 dX3_winningPlace_80 (by decide) ?_
              obtain ⟨k, rfl⟩ : ∃ k2, k = k2 + 1 := ⟨k - 1, by omega⟩
              have hb : wins N S f (k + 1) i w = wins N S f k (i + 1) w := congrArg (wins N S f k (i + 1)) (if_neg (by intro h; rcases h with h | ⟨h1, h2⟩; exact c60 h; first | exact c67 h1 | omega))
              exact ih k (i + 1) w H locs ls (by omega) (by omega) (by omega) (by omega) (by omega) (hr2.trans hb) hR hS (lv_sub hl [0, 4, 5, 6] rfl)
            · skip
              refine lv_iload C.1 C.2.1 dX3_winningPlace_70 (lv_at hl 0 rfl) ?_
              refine lv_if_eq (tgt := 77) C.1 C.2.1 dX3_winningPlace_72 (by decide) (fun c72 => ?_) (fun c72 => ?_)
              · skip
                refine lv_iinc (v := nI (i + 1)) (lv' := [(3, .int (nI (i + 1))), (6, .int (nI 0)), (5, .int (S 4 (wr N (f + w)))), (4, .int (S 4 (wr N (f + i)))), (2, .int (nI w)), (0, .ref b), (1, .ref (aRg b f))]) C.1 C.2.1 dX3_winningPlace_77 hl (k := 3) rfl (nI_add _ _) (by decide) rfl (fun ls hl => ?_)
                refine lv_goto (tgt := 4) C.1 C.2.1 dX3_winningPlace_80 (by decide) ?_
                obtain ⟨k, rfl⟩ : ∃ k2, k = k2 + 1 := ⟨k - 1, by omega⟩
                have hb : wins N S f (k + 1) i w = wins N S f k (i + 1) w := congrArg (wins N S f k (i + 1)) (if_neg (by intro h; rcases h with h | ⟨h1, h2⟩; exact c60 h; first | exact c67 h1 | omega))
                exact ih k (i + 1) w H locs ls (by omega) (by omega) (by omega) (by omega) (by omega) (hr2.trans hb) hR hS (lv_sub hl [0, 4, 5, 6] rfl)
              · skip
                exact absurd c72 (by decide)
        · skip
          have c46 : ¬ (wr N (f + i) ≤ wr N (f + w)) := mt (nI_leI (a := wr N (f + i)) (b := wr N (f + w)) (by omega) (by omega)).mpr c46
          refine lv_iconst (v := nI 1) C.1 C.2.1 dX3_winningPlace_49 (by decide) ?_
          refine lv_goto (tgt := 54) C.1 C.2.1 dX3_winningPlace_50 (by decide) ?_
          refine lv_istore (lv' := [(6, .int (nI 1)), (5, .int (S 4 (wr N (f + w)))), (4, .int (S 4 (wr N (f + i)))), (3, .int (nI i)), (2, .int (nI w)), (0, .ref b), (1, .ref (aRg b f))]) C.1 C.2.1 dX3_winningPlace_54 hl (by decide) rfl (fun ls hl => ?_)
          refine lv_iload C.1 C.2.1 dX3_winningPlace_56 (lv_at hl 2 rfl) ?_
          refine lv_iload C.1 C.2.1 dX3_winningPlace_58 (lv_at hl 1 rfl) ?_
          refine lv_icmp_lt (tgt := 75) C.1 C.2.1 dX3_winningPlace_60 (by decide) (fun c60 => ?_) (fun c60 => ?_)
          · skip
            refine lv_iload_n C.1 C.2.1 dX3_winningPlace_75 rfl (lv_at hl 3 rfl) ?_
            refine lv_istore_n (lv' := [(2, .int (nI i)), (6, .int (nI 1)), (5, .int (S 4 (wr N (f + w)))), (4, .int (S 4 (wr N (f + i)))), (3, .int (nI i)), (0, .ref b), (1, .ref (aRg b f))]) C.1 C.2.1 dX3_winningPlace_76 rfl hl (by decide) rfl (fun ls hl => ?_)
            refine lv_iinc (v := nI (i + 1)) (lv' := [(3, .int (nI (i + 1))), (2, .int (nI i)), (6, .int (nI 1)), (5, .int (S 4 (wr N (f + w)))), (4, .int (S 4 (wr N (f + i)))), (0, .ref b), (1, .ref (aRg b f))]) C.1 C.2.1 dX3_winningPlace_77 hl (k := 4) rfl (nI_add _ _) (by decide) rfl (fun ls hl => ?_)
            refine lv_goto (tgt := 4) C.1 C.2.1 dX3_winningPlace_80 (by decide) ?_
            obtain ⟨k, rfl⟩ : ∃ k2, k = k2 + 1 := ⟨k - 1, by omega⟩
            have hb : wins N S f (k + 1) i w = wins N S f k (i + 1) i := congrArg (wins N S f k (i + 1)) (if_pos (by first | exact Or.inl c60 | exact Or.inr ⟨c67, by omega⟩))
            exact ih k (i + 1) i H locs ls (by omega) (by omega) (by omega) (by omega) (by omega) (hr2.trans hb) hR hS (lv_sub hl [0, 1, 5, 6] rfl)
          · skip
            refine lv_iload C.1 C.2.1 dX3_winningPlace_63 (lv_at hl 2 rfl) ?_
            refine lv_iload C.1 C.2.1 dX3_winningPlace_65 (lv_at hl 1 rfl) ?_
            refine lv_icmp_ne (tgt := 77) C.1 C.2.1 dX3_winningPlace_67 (by decide) (fun c67 => ?_) (fun c67 => ?_)
            · skip
              refine lv_iinc (v := nI (i + 1)) (lv' := [(3, .int (nI (i + 1))), (6, .int (nI 1)), (5, .int (S 4 (wr N (f + w)))), (4, .int (S 4 (wr N (f + i)))), (2, .int (nI w)), (0, .ref b), (1, .ref (aRg b f))]) C.1 C.2.1 dX3_winningPlace_77 hl (k := 3) rfl (nI_add _ _) (by decide) rfl (fun ls hl => ?_)
              refine lv_goto (tgt := 4) C.1 C.2.1 dX3_winningPlace_80 (by decide) ?_
              obtain ⟨k, rfl⟩ : ∃ k2, k = k2 + 1 := ⟨k - 1, by omega⟩
              have hb : wins N S f (k + 1) i w = wins N S f k (i + 1) w := congrArg (wins N S f k (i + 1)) (if_neg (by intro h; rcases h with h | ⟨h1, h2⟩; exact c60 h; first | exact c67 h1 | omega))
              exact ih k (i + 1) w H locs ls (by omega) (by omega) (by omega) (by omega) (by omega) (hr2.trans hb) hR hS (lv_sub hl [0, 4, 5, 6] rfl)
            · skip
              refine lv_iload C.1 C.2.1 dX3_winningPlace_70 (lv_at hl 0 rfl) ?_
              refine lv_if_eq (tgt := 77) C.1 C.2.1 dX3_winningPlace_72 (by decide) (fun c72 => ?_) (fun c72 => ?_)
              · skip
                exact absurd c72 (by decide)
              · skip
                refine lv_iload_n C.1 C.2.1 dX3_winningPlace_75 rfl (lv_at hl 3 rfl) ?_
                refine lv_istore_n (lv' := [(2, .int (nI i)), (6, .int (nI 1)), (5, .int (S 4 (wr N (f + w)))), (4, .int (S 4 (wr N (f + i)))), (3, .int (nI i)), (0, .ref b), (1, .ref (aRg b f))]) C.1 C.2.1 dX3_winningPlace_76 rfl hl (by decide) rfl (fun ls hl => ?_)
                refine lv_iinc (v := nI (i + 1)) (lv' := [(3, .int (nI (i + 1))), (2, .int (nI i)), (6, .int (nI 1)), (5, .int (S 4 (wr N (f + w)))), (4, .int (S 4 (wr N (f + i)))), (0, .ref b), (1, .ref (aRg b f))]) C.1 C.2.1 dX3_winningPlace_77 hl (k := 4) rfl (nI_add _ _) (by decide) rfl (fun ls hl => ?_)
                refine lv_goto (tgt := 4) C.1 C.2.1 dX3_winningPlace_80 (by decide) ?_
                obtain ⟨k, rfl⟩ : ∃ k2, k = k2 + 1 := ⟨k - 1, by omega⟩
                have hb : wins N S f (k + 1) i w = wins N S f k (i + 1) i := congrArg (wins N S f k (i + 1)) (if_pos (by first | exact Or.inl c60 | exact Or.inr ⟨c67, by omega⟩))
                exact ih k (i + 1) i H locs ls (by omega) (by omega) (by omega) (by omega) (by omega) (hr2.trans hb) hR hS (lv_sub hl [0, 1, 5, 6] rfl)
  exact lp _ (L - 1) 1 0 _ _ ls (Nat.lt_succ_self _) (by omega) (by omega) (by omega) (by omega) rfl hR hS (lv_sub hl [0, 1, 2, 3] rfl)

theorem reset_o {S : SX} {j g k : Nat} (h : g < 6 ∨ 11 < g) : s_X2_resetTimers S j g k = S g k := by
  unfold s_X2_resetTimers
  rw [up2_f (by omega), up2_f (by omega), up2_f (by omega), up2_f (by omega), up2_f (by omega), up2_f (by omega)]
def rst (N : Nat) (S : SX) (f : Nat) : Nat → SX
  | 0 => S
  | i + 1 => s_X2_resetTimers (rst N S f i) (wr N (f + i))
theorem rst_o {N : Nat} {S : SX} {f i g k : Nat} (h : g < 6 ∨ 11 < g) : rst N S f i g k = S g k := by
  induction i with
  | zero => rfl
  | succ i ih => simp only [rst]; rw [reset_o h, ih]
def opr (N : Nat) (S : SX) (f L : Nat) : SX := up2 (up2 (rst N S f L) 24 f (rst N S f L 4 (wr N (f + wins N S f (L - 1) 1 0)))) 25 f (nI (wins N S f (L - 1) 1 0))
theorem opr_o {N : Nat} {S : SX} {f L g k : Nat} (h : g < 6 ∨ 11 < g) (h1 : g ≠ 24) (h2 : g ≠ 25) : opr N S f L g k = S g k := by
  unfold opr
  rw [up2_f h2, up2_f h1, rst_o h]
set_option maxHeartbeats 4000000 in
set_option maxRecDepth 100000 in
theorem k_X3_operate (l : Launch) (g : GX) (b N : Nat) (S : SX) (Fl : FX) (hN : N ≤ 6) (f p L : Nat) (hf : f < N) (hp : p < N) (hL : L ≤ N) (hL1 : 1 ≤ L) (h20 : S 20 f = nI f) (h25 : S 25 f = nI p) (h21 : S 21 f = nI L) : MR l yX3_operate (.code yX3_operate cX3_operate 4 none :: tb) (rmk 3 71) g (RepX g b N S Fl) (RepX g b N (s_X3_leave (opr N S f L) f (wins N S f (L - 1) 1 0) L) Fl) (AX b N) [.ref b, .ref (aRg b f)] none := by
  refine MR.start RX3 (by decide) rfl (Nat.le_of_ble_eq_true rfl) (fun zp ze zs zm zb zt zc ls C hr hlk hR hS hl => ?_)
  have hl : lv_has ls 4 [(0, .ref b), (1, .ref (aRg b f))] := hl
  refine lv_aload_n C.1 C.2.1 dX3_operate_0 rfl (lv_at hl 0 rfl) ?_
  refine lv_aload_n C.1 C.2.1 dX3_operate_1 rfl (lv_at hl 1 rfl) ?_
  refine cxV (b := b) (As := [.ref (aRg b f)]) (rest := []) (ci := 3) (q := (RX3, TX3, 6)) C (k_X3_winningPlace l g b N S Fl hN f p L (by omega) (by omega) (by omega) (by omega) h20 h25 h21) cf_X3_winningPlace ml_X3_204 ⟨by decide, by decide⟩ ⟨rfl, rfl⟩ rfl (hR.1) rfl hl.1 rfl (Nat.le_of_ble_eq_true rfl) dX3_operate_2 hR ⟨Nat.zero_le _, Nat.zero_le _⟩ hS (fun _ h => h) (fun H locs hR hS _ _ => ?_)
  simp only [Option.toList, List.cons_append, List.nil_append]
  have hwin : wins N S f (L - 1) 1 0 < 1 + (L - 1) := wins_lt (L - 1) 1 0 (by omega)
  refine lv_istore_n (lv' := [(2, .int (nI (wins N S f (L - 1) 1 0))), (0, .ref b), (1, .ref (aRg b f))]) C.1 C.2.1 dX3_operate_5 rfl hl (by decide) rfl (fun ls hl => ?_)
  refine lv_iconst (v := nI 0) C.1 C.2.1 dX3_operate_6 (by decide) ?_
  refine lv_istore_n (lv' := [(3, .int (nI 0)), (2, .int (nI (wins N S f (L - 1) 1 0))), (0, .ref b), (1, .ref (aRg b f))]) C.1 C.2.1 dX3_operate_7 rfl hl (by decide) rfl (fun ls hl => ?_)
  have lp : ∀ (n : Nat) (i : Nat) (H : Heap) (locs : List Loc) (ls : Array Slot), L - i < n → i ≤ L → RepX g b N (rst N S f i) Fl H → va_S (AX b N) zs.heap H locs → lv_has ls 4 [(3, .int (nI i)), (2, .int (nI (wins N S f (L - 1) 1 0))), (0, .ref b), (1, .ref (aRg b f))] → W zp l ze (rmk 3 71) zs zm ([.ref b, .ref (aRg b f)] : List Value).toArray zb zt zc H locs 0 0 (MQ zb (QR (RepX g b N (s_X3_leave (opr N S f L) f (wins N S f (L - 1) 1 0) L) Fl) (AX b N) none) ([.ref b, .ref (aRg b f)] : List Value).toArray zs 0 0 (AX b N)) (F0 zm 8 ls []) := by
    intro n
    induction n with
    | zero => intro i H locs ls hm; exact absurd hm (Nat.not_lt_zero _)
    | succ n ih =>
      intro i H locs ls hm hi hR hS hl
      obtain ⟨S1, eS1⟩ : ∃ y, y = rst N S f i := ⟨_, rfl⟩
      rw [← eS1] at hR
      have g20 : S1 20 f = nI f := by rw [eS1, rst_o (by decide), h20]
      have g21 : S1 21 f = nI L := by rw [eS1, rst_o (by decide), h21]
      refine lv_iload_n C.1 C.2.1 dX3_operate_8 rfl (lv_at hl 0 rfl) ?_
      refine lv_aload_n C.1 C.2.1 dX3_operate_9 rfl (lv_at hl 3 rfl) ?_
      refine xR_get (j := f) C hR (by omega) 1 (by decide) rfl fl_X3_153 (v := .int (S1 21 f)) rfl dX3_operate_10 ?_
      refine lv_re (y := nI L) (by rw [g21]) ?_
      refine lv_icmp_ge (tgt := 31) C.1 C.2.1 dX3_operate_13 (by decide) (fun c13 => ?_) (fun c13 => ?_)
      · skip
        have c13 : L ≤ i := (nI_leI (a := L) (b := i) (by omega) (by omega)).mp c13
        refine lv_aload_n C.1 C.2.1 dX3_operate_31 rfl (lv_at hl 3 rfl) ?_
        refine lv_aload_n C.1 C.2.1 dX3_operate_32 rfl (lv_at hl 2 rfl) ?_
        refine lv_aload_n C.1 C.2.1 dX3_operate_33 rfl (lv_at hl 3 rfl) ?_
        refine lv_iload_n C.1 C.2.1 dX3_operate_34 rfl (lv_at hl 1 rfl) ?_
        refine cxV (b := b) (As := [.ref (aRg b f), .int (nI (wins N S f (L - 1) 1 0))]) (rest := [.ref (aRg b f)]) (ci := 3) (q := (RX3, TX3, 6)) C (k_X3_stationAt l g b N S1 Fl hN (f) (wins N S f (L - 1) 1 0) (by omega) (by omega) (by rw [g20])) cf_X3_stationAt ml_X3_178 ⟨by decide, by decide⟩ ⟨rfl, rfl⟩ rfl (hR.1) rfl hl.1 rfl (Nat.le_of_ble_eq_true rfl) dX3_operate_35 hR ⟨Nat.zero_le _, Nat.zero_le _⟩ hS (fun _ h => h) (fun H locs hR hS _ _ => ?_)
        simp only [Option.toList, List.cons_append, List.nil_append]
        have hw29 := wr_lt (N := N) (i := f + (wins N S f (L - 1) 1 0)) (by omega)
        refine xS_get (j := wr N (f + (wins N S f (L - 1) 1 0))) C hR (by omega) 4 (by decide) rfl fl_X3_40 (v := .int (S1 4 (wr N (f + (wins N S f (L - 1) 1 0))))) rfl dX3_operate_38 ?_
        refine xR_put (j := f) C hR hS (by omega) 4 (by decide) rfl rfl fl_X3_94 rfl rfl rgS_4 dX3_operate_41 (fun S2 H locs eS2 hR hS => ?_)
        refine lv_aload_n C.1 C.2.1 dX3_operate_44 rfl (lv_at hl 3 rfl) ?_
        refine lv_iload_n C.1 C.2.1 dX3_operate_45 rfl (lv_at hl 1 rfl) ?_
        refine xR_put (j := f) C hR hS (by omega) 5 (by decide) rfl rfl fl_X3_84 rfl rfl rgS_5 dX3_operate_46 (fun S3 H locs eS3 hR hS => ?_)
        refine lv_aload_n C.1 C.2.1 dX3_operate_49 rfl (lv_at hl 2 rfl) ?_
        refine lv_aload_n C.1 C.2.1 dX3_operate_50 rfl (lv_at hl 3 rfl) ?_
        refine cxV (b := b) (As := [.ref (aRg b f)]) (rest := []) (ci := 3) (q := (RX3, TX3, 6)) C (k_X3_leave l g b N S3 Fl hN f (wins N S f (L - 1) 1 0) L (by omega) (by omega) (by omega) (by omega) (by rw [eS3, up2_eq]) (by rw [eS3, up2_f (by decide), eS2, up2_f (by decide), g21])) cf_X3_leave ml_X3_211 ⟨by decide, by decide⟩ ⟨rfl, rfl⟩ rfl (hR.1) rfl hl.1 rfl (Nat.le_of_ble_eq_true rfl) dX3_operate_51 hR ⟨Nat.zero_le _, Nat.zero_le _⟩ hS (fun _ h => h) (fun H locs hR hS _ _ => ?_)
        obtain ⟨S4, eS4⟩ : ∃ y, y = s_X3_leave S3 f (wins N S f (L - 1) 1 0) L := ⟨_, rfl⟩
        rw [← eS4] at hR
        simp only [Option.toList, List.nil_append]
        have hi2 : i = L := by omega
        have hs : s_X3_leave (opr N S f L) f (wins N S f (L - 1) 1 0) L = S4 := by rw [eS4, eS3, eS2, eS1, hi2]; rfl
        rw [hs]
        exact endv C hr hlk hR hS dX3_operate_54
      · skip
        have c13 : ¬ (L ≤ i) := mt (nI_leI (a := L) (b := i) (by omega) (by omega)).mpr c13
        refine lv_aload_n C.1 C.2.1 dX3_operate_16 rfl (lv_at hl 2 rfl) ?_
        refine lv_aload_n C.1 C.2.1 dX3_operate_17 rfl (lv_at hl 3 rfl) ?_
        refine lv_iload_n C.1 C.2.1 dX3_operate_18 rfl (lv_at hl 0 rfl) ?_
        refine cxV (b := b) (As := [.ref (aRg b f), .int (nI i)]) (rest := []) (ci := 3) (q := (RX3, TX3, 6)) C (k_X3_stationAt l g b N S1 Fl hN (f) (i) (by omega) (by omega) (by rw [g20])) cf_X3_stationAt ml_X3_178 ⟨by decide, by decide⟩ ⟨rfl, rfl⟩ rfl (hR.1) rfl hl.1 rfl (Nat.le_of_ble_eq_true rfl) dX3_operate_19 hR ⟨Nat.zero_le _, Nat.zero_le _⟩ hS (fun _ h => h) (fun H locs hR hS _ _ => ?_)
        simp only [Option.toList, List.cons_append, List.nil_append]
        have hw50 := wr_lt (N := N) (i := f + i) (by omega)
        refine cxV (b := aSt b (wr N (f + i))) (As := []) (rest := []) (ci := 2) (q := (RX2, TX2, 19)) C (k_X2_resetTimers l g b N S1 Fl hN (wr N (f + i)) (by omega)) cf_X2_resetTimers ml_X3_208 ⟨by decide, by decide⟩ ⟨rfl, rfl⟩ rfl (hR.2.2.2.2.1 _ (by omega)) rfl hl.1 rfl (Nat.le_of_ble_eq_true rfl) dX3_operate_22 hR ⟨Nat.zero_le _, Nat.zero_le _⟩ hS (fun _ h => h) (fun H locs hR hS _ _ => ?_)
        obtain ⟨S5, eS5⟩ : ∃ y, y = s_X2_resetTimers S1 (wr N (f + i)) := ⟨_, rfl⟩
        rw [← eS5] at hR
        simp only [Option.toList, List.nil_append]
        refine lv_iinc (v := nI (i + 1)) (lv' := [(3, .int (nI (i + 1))), (2, .int (nI (wins N S f (L - 1) 1 0))), (0, .ref b), (1, .ref (aRg b f))]) C.1 C.2.1 dX3_operate_25 hl (k := 0) rfl (nI_add _ _) (by decide) rfl (fun ls hl => ?_)
        refine lv_goto (tgt := 8) C.1 C.2.1 dX3_operate_28 (by decide) ?_
        have hb : rst N S f (i + 1) = S5 := by rw [eS5, eS1]; rfl
        rw [← hb] at hR
        exact ih (i + 1) H locs ls (by omega) (by omega) hR hS (lv_sub hl [0, 1, 2, 3] rfl)
  exact lp _ 0 _ _ ls (Nat.lt_succ_self _) (by omega) hR hS (lv_sub hl [0, 1, 2, 3] rfl)

theorem run_o {S : SX} {j g k : Nat} {T : Int32} (h : g ≠ 6) (h1 : g ≠ 7) (h2 : g ≠ 10) : s_X2_runTimer S j T g k = S g k := by
  unfold s_X2_runTimer
  split
  · rw [up2_f h1, up2_f h, up2_f h, up2_f h2]
  · rw [up2_f h, up2_f h2]
def rtS (N f : Nat) (T : Int32) : Nat → Nat → SX → SX
  | 0, _, S => S
  | n + 1, i, S => if s_X2_runTimer S (wr N (f + i)) T 7 (wr N (f + i)) < nI 2 then rtS N f T n (i + 1) (s_X2_runTimer S (wr N (f + i)) T) else s_X2_runTimer S (wr N (f + i)) T
def rtB (N f : Nat) (T : Int32) : Nat → Nat → SX → Bool
  | 0, _, _ => true
  | n + 1, i, S => if s_X2_runTimer S (wr N (f + i)) T 7 (wr N (f + i)) < nI 2 then rtB N f T n (i + 1) (s_X2_runTimer S (wr N (f + i)) T) else false
theorem rtS_o {N f : Nat} {T : Int32} {g k : Nat} (h : g ≠ 6) (h1 : g ≠ 7) (h2 : g ≠ 10) : ∀ (n i : Nat) (S : SX), rtS N f T n i S g k = S g k := by
  intro n
  induction n with
  | zero => intro i S; rfl
  | succ n ih =>
    intro i S
    simp only [rtS]
    split
    · rw [ih, run_o h h1 h2]
    · exact run_o h h1 h2
set_option maxHeartbeats 4000000 in
set_option maxRecDepth 100000 in
theorem k_X3_runTimers (l : Launch) (g : GX) (b N : Nat) (S : SX) (Fl : FX) (hN : N ≤ 6) (f p L : Nat) (hf : f < N) (hp : p < N) (hL : L ≤ N) (hL1 : 1 ≤ L) (h20 : S 20 f = nI f) (h25 : S 25 f = nI p) (h21 : S 21 f = nI L) : MR l yX3_runTimers (.code yX3_runTimers cX3_runTimers 4 (some .boolean) :: tb) (rmk 2 45) g (RepX g b N S Fl) (RepX g b N (rtS N f (S 24 f) L 0 S) Fl) (AX b N) [.ref b, .ref (aRg b f)] (some (.int (bI (rtB N f (S 24 f) L 0 S)))) := by
  refine MR.start RX3 (by decide) rfl (Nat.le_of_ble_eq_true rfl) (fun zp ze zs zm zb zt zc ls C hr hlk hR hS hl => ?_)
  have hl : lv_has ls 4 [(0, .ref b), (1, .ref (aRg b f))] := hl
  refine lv_iconst (v := nI 0) C.1 C.2.1 dX3_runTimers_0 (by decide) ?_
  refine lv_istore_n (lv' := [(2, .int (nI 0)), (0, .ref b), (1, .ref (aRg b f))]) C.1 C.2.1 dX3_runTimers_1 rfl hl (by decide) rfl (fun ls hl => ?_)
  have lp : ∀ (n : Nat) (k : Nat) (i : Nat) (U : SX) (H : Heap) (locs : List Loc) (ls : Array Slot), k < n → i + k = L → rtS N f (S 24 f) L 0 S = rtS N f (S 24 f) k i U → rtB N f (S 24 f) L 0 S = rtB N f (S 24 f) k i U → U 20 f = nI f → U 21 f = nI L → U 24 f = S 24 f → RepX g b N U Fl H → va_S (AX b N) zs.heap H locs → lv_has ls 4 [(2, .int (nI i)), (0, .ref b), (1, .ref (aRg b f))] → W zp l ze (rmk 2 45) zs zm ([.ref b, .ref (aRg b f)] : List Value).toArray zb zt zc H locs 0 0 (MQ zb (QR (RepX g b N (rtS N f (S 24 f) L 0 S) Fl) (AX b N) (some (.int (bI (rtB N f (S 24 f) L 0 S))))) ([.ref b, .ref (aRg b f)] : List Value).toArray zs 0 0 (AX b N)) (F0 zm 2 ls []) := by
    intro n
    induction n with
    | zero => intro k i U H locs ls hm; exact absurd hm (Nat.not_lt_zero _)
    | succ n ih =>
      intro k i U H locs ls hm hk hr1 hr2 u20 u21 u24 hR hS hl
      obtain ⟨S1, eS1⟩ : ∃ y, y = U := ⟨_, rfl⟩
      rw [← eS1] at hR
      have g20 : S1 20 f = nI f := by rw [eS1]; exact u20
      have g21 : S1 21 f = nI L := by rw [eS1]; exact u21
      have g24 : S1 24 f = S 24 f := by rw [eS1]; exact u24
      refine lv_iload_n C.1 C.2.1 dX3_runTimers_2 rfl (lv_at hl 0 rfl) ?_
      refine lv_aload_n C.1 C.2.1 dX3_runTimers_3 rfl (lv_at hl 2 rfl) ?_
      refine xR_get (j := f) C hR (by omega) 1 (by decide) rfl fl_X3_153 (v := .int (S1 21 f)) rfl dX3_runTimers_4 ?_
      refine lv_re (y := nI L) (by rw [g21]) ?_
      refine lv_icmp_ge (tgt := 41) C.1 C.2.1 dX3_runTimers_7 (by decide) (fun c7 => ?_) (fun c7 => ?_)
      · skip
        have c7 : L ≤ i := (nI_leI (a := L) (b := i) (by omega) (by omega)).mp c7
        refine lv_iconst (v := nI 1) C.1 C.2.1 dX3_runTimers_41 (by decide) ?_
        have hk0 : k = 0 := by omega
        subst hk0
        have hs : rtS N f (S 24 f) L 0 S = S1 := hr1.trans eS1.symm
        rw [hs]
        have hv : bI (rtB N f (S 24 f) L 0 S) = nI 1 := by rw [hr2]; rfl
        rw [hv]
        exact endz C hr hlk (Or.inr rfl) hR hS dX3_runTimers_42
      · skip
        have c7 : ¬ (L ≤ i) := mt (nI_leI (a := L) (b := i) (by omega) (by omega)).mpr c7
        refine lv_aload_n C.1 C.2.1 dX3_runTimers_10 rfl (lv_at hl 1 rfl) ?_
        refine lv_aload_n C.1 C.2.1 dX3_runTimers_11 rfl (lv_at hl 2 rfl) ?_
        refine lv_iload_n C.1 C.2.1 dX3_runTimers_12 rfl (lv_at hl 0 rfl) ?_
        refine cxV (b := b) (As := [.ref (aRg b f), .int (nI i)]) (rest := []) (ci := 3) (q := (RX3, TX3, 6)) C (k_X3_stationAt l g b N S1 Fl hN (f) (i) (by omega) (by omega) (by rw [g20])) cf_X3_stationAt ml_X3_178 ⟨by decide, by decide⟩ ⟨rfl, rfl⟩ rfl (hR.1) rfl hl.1 rfl (Nat.le_of_ble_eq_true rfl) dX3_runTimers_13 hR ⟨Nat.zero_le _, Nat.zero_le _⟩ hS (fun _ h => h) (fun H locs hR hS _ _ => ?_)
        simp only [Option.toList, List.cons_append, List.nil_append]
        have hw28 := wr_lt (N := N) (i := f + i) (by omega)
        refine lv_astore_n (lv' := [(3, .ref (aSt b (wr N (f + i)))), (2, .int (nI i)), (0, .ref b), (1, .ref (aRg b f))]) C.1 C.2.1 dX3_runTimers_16 rfl hl (by decide) rfl (fun ls hl => ?_)
        refine lv_aload_n C.1 C.2.1 dX3_runTimers_17 rfl (lv_at hl 0 rfl) ?_
        refine lv_aload_n C.1 C.2.1 dX3_runTimers_18 rfl (lv_at hl 3 rfl) ?_
        refine xR_get (j := f) C hR (by omega) 4 (by decide) rfl fl_X3_94 (v := .int (S1 24 f)) rfl dX3_runTimers_19 ?_
        refine lv_re (y := S 24 f) (by rw [g24]) ?_
        refine cxV (b := aSt b (wr N (f + i))) (As := [.int (S 24 f)]) (rest := []) (ci := 2) (q := (RX2, TX2, 19)) C (k_X2_runTimer l g b N S1 Fl hN (wr N (f + i)) (by omega) (S 24 f)) cf_X2_runTimer ml_X3_214 ⟨by decide, by decide⟩ ⟨rfl, rfl⟩ rfl (hR.2.2.2.2.1 _ (by omega)) rfl hl.1 rfl (Nat.le_of_ble_eq_true rfl) dX3_runTimers_22 hR ⟨Nat.zero_le _, Nat.zero_le _⟩ hS (fun _ h => h) (fun H locs hR hS _ _ => ?_)
        obtain ⟨S2, eS2⟩ : ∃ y, y = s_X2_runTimer S1 (wr N (f + i)) (S 24 f) := ⟨_, rfl⟩
        rw [← eS2] at hR
        simp only [Option.toList, List.nil_append]
        refine lv_aload_n C.1 C.2.1 dX3_runTimers_25 rfl (lv_at hl 0 rfl) ?_
        refine xS_get (j := wr N (f + i)) C hR (by omega) 7 (by decide) rfl fl_X3_100 (v := .int (S2 7 (wr N (f + i)))) rfl dX3_runTimers_26 ?_
        refine lv_iconst (v := nI 2) C.1 C.2.1 dX3_runTimers_29 (by decide) ?_
        refine lv_icmp_lt (tgt := 35) C.1 C.2.1 dX3_runTimers_30 (by decide) (fun c30 => ?_) (fun c30 => ?_)
        · skip
          rw [eS2] at c30
          refine lv_iinc (v := nI (i + 1)) (lv' := [(2, .int (nI (i + 1))), (3, .ref (aSt b (wr N (f + i)))), (0, .ref b), (1, .ref (aRg b f))]) C.1 C.2.1 dX3_runTimers_35 hl (k := 1) rfl (nI_add _ _) (by decide) rfl (fun ls hl => ?_)
          refine lv_goto (tgt := 2) C.1 C.2.1 dX3_runTimers_38 (by decide) ?_
          obtain ⟨k, rfl⟩ : ∃ k2, k = k2 + 1 := ⟨k - 1, by omega⟩
          rw [eS1] at c30
          have hb1 : rtS N f (S 24 f) (k + 1) i U = rtS N f (S 24 f) k (i + 1) S2 := (if_pos c30).trans (by rw [eS2, eS1])
          have hb2 : rtB N f (S 24 f) (k + 1) i U = rtB N f (S 24 f) k (i + 1) S2 := (if_pos c30).trans (by rw [eS2, eS1])
          exact ih k (i + 1) S2 H locs ls (by omega) (by omega) (hr1.trans hb1) (hr2.trans hb2) (by rw [eS2, eS1, run_o (by decide) (by decide) (by decide)]; exact u20) (by rw [eS2, eS1, run_o (by decide) (by decide) (by decide)]; exact u21) (by rw [eS2, eS1, run_o (by decide) (by decide) (by decide)]; exact u24) hR hS (lv_sub hl [0, 2, 3] rfl)
        · skip
          rw [eS2] at c30
          refine lv_iconst (v := nI 0) C.1 C.2.1 dX3_runTimers_33 (by decide) ?_
          obtain ⟨k, rfl⟩ : ∃ k2, k = k2 + 1 := ⟨k - 1, by omega⟩
          rw [eS1] at c30
          have hs : rtS N f (S 24 f) L 0 S = S2 := hr1.trans ((if_neg c30).trans (by rw [eS2, eS1]))
          rw [hs]
          have hv : bI (rtB N f (S 24 f) L 0 S) = nI 0 := by rw [hr2.trans (if_neg c30)]; rfl
          rw [hv]
          exact endz C hr hlk (Or.inl rfl) hR hS dX3_runTimers_34
  exact lp _ L 0 S _ _ ls (Nat.lt_succ_self _) (by omega) rfl rfl h20 h21 rfl hR hS (lv_sub hl [0, 1, 2] rfl)

def s_X2_takeToken (S : SX) (j : Nat) (bf T : Int32) : SX := if S 7 j = 0 then (up2 (up2 (up2 (up2 (up2 (up2 S 12 j bf) 10 j (nI 0)) 11 j (nI 1)) 8 j (T - (S 6 j))) 6 j (nI 0)) 9 j (S 5 j)) else (up2 (up2 (up2 (up2 (up2 (up2 S 12 j bf) 10 j (nI 0)) 11 j (nI 1)) 8 j (nI 0)) 7 j (nI 0)) 9 j (S 5 j))
def f_X2_takeToken (S : SX) (Fl : FX) (j : Nat) (bf T : Int32) : FX := va_up Fl j (FP.fadd (Fl j) (FP.fmul (FP.fsub (FP.i2f (S 10 j)) (Fl j)) 1048576000))
set_option maxHeartbeats 4000000 in
set_option maxRecDepth 100000 in
theorem k_X2_takeToken (l : Launch) (g : GX) (b N : Nat) (S : SX) (Fl : FX) (hN : N ≤ 6) (j : Nat) (hj : j < N) (bf T : Int32) (hF : fOK (Fl j))  : MR l yX2_takeToken (.code yX2_takeToken cX2_takeToken 3 none :: tb) (rmk 0 0) g (RepX g b N S Fl) (RepX g b N (s_X2_takeToken S j bf T) (f_X2_takeToken S Fl j bf T)) (AX b N) [.ref (aSt b j), .int bf, .int T] none := by
  refine MR.start RX2 (by decide) rfl (Nat.le_of_ble_eq_true rfl) (fun zp ze zs zm zb zt zc ls C hr hlk hR hS hl => ?_)
  have hl : lv_has ls 3 [(0, .ref (aSt b j)), (1, .int bf), (2, .int T)] := hl
  refine lv_aload_n C.1 C.2.1 dX2_takeToken_0 rfl (lv_at hl 0 rfl) ?_
  refine lv_iload_n C.1 C.2.1 dX2_takeToken_1 rfl (lv_at hl 1 rfl) ?_
  refine xS_put (j := j) C hR hS (by omega) 12 (by decide) rfl rfl fl_X2_32 rfl rfl stS_12 dX2_takeToken_2 (fun S1 H locs eS1 hR hS => ?_)
  refine lv_aload_n C.1 C.2.1 dX2_takeToken_5 rfl (lv_at hl 0 rfl) ?_
  refine lv_aload_n C.1 C.2.1 dX2_takeToken_6 rfl (lv_at hl 0 rfl) ?_
  refine xS_get (j := j) C hR (by omega) 13 (by decide) rfl fl_X2_59 (v := .float (Fl j)) rfl dX2_takeToken_7 ?_
  refine lv_aload_n C.1 C.2.1 dX2_takeToken_10 rfl (lv_at hl 0 rfl) ?_
  refine xS_get (j := j) C hR (by omega) 10 (by decide) rfl fl_X2_53 (v := .int (S1 10 j)) rfl dX2_takeToken_11 ?_
  refine lv_re (y := S 10 j) (by rw [eS1, up2_f (by decide)]) ?_
  refine lv_i2f C.1 C.2.1 dX2_takeToken_14 ?_
  refine lv_aload_n C.1 C.2.1 dX2_takeToken_15 rfl (lv_at hl 0 rfl) ?_
  refine xS_get (j := j) C hR (by omega) 13 (by decide) rfl fl_X2_59 (v := .float (Fl j)) rfl dX2_takeToken_16 ?_
  refine lv_fsub C.1 C.2.1 dX2_takeToken_19 ((fOK_step hF (S 10 j)).1) ?_
  refine lv_ldcf C.1 C.2.1 C.2.2.2.1 (C.2.2.2.2.1 _ kf_X2_63) dX2_takeToken_20 ?_
  refine lv_fmul C.1 C.2.1 dX2_takeToken_22 ((fOK_step hF (S 10 j)).2.1) ?_
  refine lv_fadd C.1 C.2.1 dX2_takeToken_23 ((fOK_step hF (S 10 j)).2.2.1) ?_
  refine xF_put (j := j) C hR hS (by omega) fl_X2_59 dX2_takeToken_24 (fun F2 H locs eF2 hR hS => ?_)
  refine lv_aload_n C.1 C.2.1 dX2_takeToken_27 rfl (lv_at hl 0 rfl) ?_
  refine lv_iconst (v := nI 0) C.1 C.2.1 dX2_takeToken_28 (by decide) ?_
  refine xS_put (j := j) C hR hS (by omega) 10 (by decide) rfl rfl fl_X2_53 rfl rfl stS_10 dX2_takeToken_29 (fun S3 H locs eS3 hR hS => ?_)
  refine lv_aload_n C.1 C.2.1 dX2_takeToken_32 rfl (lv_at hl 0 rfl) ?_
  refine lv_iconst (v := nI 1) C.1 C.2.1 dX2_takeToken_33 (by decide) ?_
  refine xS_put (j := j) C hR hS (by omega) 11 (by decide) rfl rfl fl_X2_56 (nz_n (Or.inr rfl)) (nz_f (Or.inr rfl)) stS_11 dX2_takeToken_34 (fun S4 H locs eS4 hR hS => ?_)
  refine lv_aload_n C.1 C.2.1 dX2_takeToken_37 rfl (lv_at hl 0 rfl) ?_
  refine xS_get (j := j) C hR (by omega) 7 (by decide) rfl fl_X2_44 (v := .int (S4 7 j)) rfl dX2_takeToken_38 ?_
  refine lv_re (y := S 7 j) (by rw [eS4, up2_f (by decide), eS3, up2_f (by decide), eS1, up2_f (by decide)]) ?_
  refine lv_if_ne (tgt := 62) C.1 C.2.1 dX2_takeToken_41 (by decide) (fun c41 => ?_) (fun c41 => ?_)
  · skip
    refine lv_aload_n C.1 C.2.1 dX2_takeToken_62 rfl (lv_at hl 0 rfl) ?_
    refine lv_iconst (v := nI 0) C.1 C.2.1 dX2_takeToken_63 (by decide) ?_
    refine xS_put (j := j) C hR hS (by omega) 8 (by decide) rfl rfl fl_X2_47 rfl rfl stS_8 dX2_takeToken_64 (fun S5 H locs eS5 hR hS => ?_)
    refine lv_aload_n C.1 C.2.1 dX2_takeToken_67 rfl (lv_at hl 0 rfl) ?_
    refine lv_iconst (v := nI 0) C.1 C.2.1 dX2_takeToken_68 (by decide) ?_
    refine xS_put (j := j) C hR hS (by omega) 7 (by decide) rfl rfl fl_X2_44 rfl rfl stS_7 dX2_takeToken_69 (fun S6 H locs eS6 hR hS => ?_)
    refine lv_aload_n C.1 C.2.1 dX2_takeToken_72 rfl (lv_at hl 0 rfl) ?_
    refine lv_aload_n C.1 C.2.1 dX2_takeToken_73 rfl (lv_at hl 0 rfl) ?_
    refine xS_get (j := j) C hR (by omega) 5 (by decide) rfl fl_X2_64 (v := .int (S6 5 j)) rfl dX2_takeToken_74 ?_
    refine lv_re (y := S 5 j) (by rw [eS6, up2_f (by decide), eS5, up2_f (by decide), eS4, up2_f (by decide), eS3, up2_f (by decide), eS1, up2_f (by decide)]) ?_
    refine xS_put (j := j) C hR hS (by omega) 9 (by decide) rfl rfl fl_X2_50 rfl rfl stS_9 dX2_takeToken_77 (fun S7 H locs eS7 hR hS => ?_)
    have hs : s_X2_takeToken S j bf T = S7 := (if_neg c41).trans (by rw [eS7, eS6, eS5, eS4, eS3, eS1])
    rw [hs]
    have hf : f_X2_takeToken S Fl j bf T = F2 := (show _ = va_up Fl j (FP.fadd (Fl j) (FP.fmul (FP.fsub (FP.i2f (S 10 j)) (Fl j)) 1048576000)) from rfl).trans (by rw [eF2]; try simp only [eS7, eS6, eS5, eS4, eS3, eS1, true_and])
    rw [hf]
    exact endv C hr hlk hR hS dX2_takeToken_80
  · skip
    refine lv_aload_n C.1 C.2.1 dX2_takeToken_44 rfl (lv_at hl 0 rfl) ?_
    refine lv_iload_n C.1 C.2.1 dX2_takeToken_45 rfl (lv_at hl 2 rfl) ?_
    refine lv_aload_n C.1 C.2.1 dX2_takeToken_46 rfl (lv_at hl 0 rfl) ?_
    refine xS_get (j := j) C hR (by omega) 6 (by decide) rfl fl_X2_41 (v := .int (S4 6 j)) rfl dX2_takeToken_47 ?_
    refine lv_re (y := S 6 j) (by rw [eS4, up2_f (by decide), eS3, up2_f (by decide), eS1, up2_f (by decide)]) ?_
    refine lv_isub C.1 C.2.1 dX2_takeToken_50 ?_
    refine xS_put (j := j) C hR hS (by omega) 8 (by decide) rfl rfl fl_X2_47 rfl rfl stS_8 dX2_takeToken_51 (fun S8 H locs eS8 hR hS => ?_)
    refine lv_aload_n C.1 C.2.1 dX2_takeToken_54 rfl (lv_at hl 0 rfl) ?_
    refine lv_iconst (v := nI 0) C.1 C.2.1 dX2_takeToken_55 (by decide) ?_
    refine xS_put (j := j) C hR hS (by omega) 6 (by decide) rfl rfl fl_X2_41 rfl rfl stS_6 dX2_takeToken_56 (fun S9 H locs eS9 hR hS => ?_)
    refine lv_goto (tgt := 72) C.1 C.2.1 dX2_takeToken_59 (by decide) ?_
    refine lv_aload_n C.1 C.2.1 dX2_takeToken_72 rfl (lv_at hl 0 rfl) ?_
    refine lv_aload_n C.1 C.2.1 dX2_takeToken_73 rfl (lv_at hl 0 rfl) ?_
    refine xS_get (j := j) C hR (by omega) 5 (by decide) rfl fl_X2_64 (v := .int (S9 5 j)) rfl dX2_takeToken_74 ?_
    refine lv_re (y := S 5 j) (by rw [eS9, up2_f (by decide), eS8, up2_f (by decide), eS4, up2_f (by decide), eS3, up2_f (by decide), eS1, up2_f (by decide)]) ?_
    refine xS_put (j := j) C hR hS (by omega) 9 (by decide) rfl rfl fl_X2_50 rfl rfl stS_9 dX2_takeToken_77 (fun S10 H locs eS10 hR hS => ?_)
    have hs : s_X2_takeToken S j bf T = S10 := (if_pos c41).trans (by rw [eS10, eS9, eS8, eS4, eS3, eS1])
    rw [hs]
    have hf : f_X2_takeToken S Fl j bf T = F2 := (show _ = va_up Fl j (FP.fadd (Fl j) (FP.fmul (FP.fsub (FP.i2f (S 10 j)) (Fl j)) 1048576000)) from rfl).trans (by rw [eF2]; try simp only [eS10, eS9, eS8, eS4, eS3, eS1, true_and])
    rw [hf]
    exact endv C hr hlk hR hS dX2_takeToken_80

def s_X3_arrive (S : SX) (N : Nat) (f p L : Nat) : SX := if S 11 (wr N (f + p)) = 0 then (if p = 0 then (up2 (s_X2_takeToken S (wr N (f + p)) (nI (wr N (f + (L - 1)))) (S 24 f)) 29 f (nI 0)) else (up2 (s_X2_takeToken S (wr N (f + p)) (nI (wr N (f + (p - 1)))) (S 24 f)) 29 f (nI 0))) else (if S 10 (wr N (f + p)) ≤ S 46 0 then (if p = 0 then (up2 (s_X2_takeToken S (wr N (f + p)) (nI (wr N (f + (L - 1)))) (S 24 f)) 29 f (nI 0)) else (up2 (s_X2_takeToken S (wr N (f + p)) (nI (wr N (f + (p - 1)))) (S 24 f)) 29 f (nI 0))) else (if p = 0 then (up2 (s_X2_takeToken (up2 S 46 0 (S 10 (wr N (f + p)))) (wr N (f + p)) (nI (wr N (f + (L - 1)))) (S 24 f)) 29 f (nI 0)) else (up2 (s_X2_takeToken (up2 S 46 0 (S 10 (wr N (f + p)))) (wr N (f + p)) (nI (wr N (f + (p - 1)))) (S 24 f)) 29 f (nI 0))))
def f_X3_arrive (S : SX) (Fl : FX) (N : Nat) (f p L : Nat) : FX := if S 11 (wr N (f + p)) = 0 then (if p = 0 then (f_X2_takeToken S Fl (wr N (f + p)) (nI (wr N (f + (L - 1)))) (S 24 f)) else (f_X2_takeToken S Fl (wr N (f + p)) (nI (wr N (f + (p - 1)))) (S 24 f))) else (if S 10 (wr N (f + p)) ≤ S 46 0 then (if p = 0 then (f_X2_takeToken S Fl (wr N (f + p)) (nI (wr N (f + (L - 1)))) (S 24 f)) else (f_X2_takeToken S Fl (wr N (f + p)) (nI (wr N (f + (p - 1)))) (S 24 f))) else (if p = 0 then (f_X2_takeToken (up2 S 46 0 (S 10 (wr N (f + p)))) Fl (wr N (f + p)) (nI (wr N (f + (L - 1)))) (S 24 f)) else (f_X2_takeToken (up2 S 46 0 (S 10 (wr N (f + p)))) Fl (wr N (f + p)) (nI (wr N (f + (p - 1)))) (S 24 f))))
set_option maxHeartbeats 4000000 in
set_option maxRecDepth 100000 in
theorem k_X3_arrive (l : Launch) (g : GX) (b N : Nat) (S : SX) (Fl : FX) (hN : N ≤ 6) (f p L : Nat) (hf : f < N) (hp : p < N) (hL : L ≤ N) (hL1 : 1 ≤ L) (h20 : S 20 f = nI f) (h25 : S 25 f = nI p) (h21 : S 21 f = nI L) (hF : fOK (Fl (wr N (f + p))))  : MR l yX3_arrive (.code yX3_arrive cX3_arrive 4 none :: tb) (rmk 2 45) g (RepX g b N S Fl) (RepX g b N (s_X3_arrive S N f p L) (f_X3_arrive S Fl N f p L)) (AX b N) [.ref b, .ref (aRg b f)] none := by
  refine MR.start RX3 (by decide) rfl (Nat.le_of_ble_eq_true rfl) (fun zp ze zs zm zb zt zc ls C hr hlk hR hS hl => ?_)
  have hl : lv_has ls 4 [(0, .ref b), (1, .ref (aRg b f))] := hl
  refine lv_aload_n C.1 C.2.1 dX3_arrive_0 rfl (lv_at hl 0 rfl) ?_
  refine lv_aload_n C.1 C.2.1 dX3_arrive_1 rfl (lv_at hl 1 rfl) ?_
  refine lv_aload_n C.1 C.2.1 dX3_arrive_2 rfl (lv_at hl 1 rfl) ?_
  refine xR_get (j := f) C hR (by omega) 5 (by decide) rfl fl_X3_84 (v := .int (S 25 f)) rfl dX3_arrive_3 ?_
  refine lv_re (y := nI p) (by rw [h25]) ?_
  refine cxV (b := b) (As := [.ref (aRg b f), .int (nI p)]) (rest := []) (ci := 3) (q := (RX3, TX3, 6)) C (k_X3_stationAt l g b N S Fl hN (f) (p) (by omega) (by omega) (by rw [h20])) cf_X3_stationAt ml_X3_178 ⟨by decide, by decide⟩ ⟨rfl, rfl⟩ rfl (hR.1) rfl hl.1 rfl (Nat.le_of_ble_eq_true rfl) dX3_arrive_6 hR ⟨Nat.zero_le _, Nat.zero_le _⟩ hS (fun _ h => h) (fun H locs hR hS _ _ => ?_)
  simp only [Option.toList, List.cons_append, List.nil_append]
  have hw5 := wr_lt (N := N) (i := f + p) (by omega)
  refine lv_astore_n (lv' := [(2, .ref (aSt b (wr N (f + p)))), (0, .ref b), (1, .ref (aRg b f))]) C.1 C.2.1 dX3_arrive_9 rfl hl (by decide) rfl (fun ls hl => ?_)
  refine lv_aload_n C.1 C.2.1 dX3_arrive_10 rfl (lv_at hl 0 rfl) ?_
  refine xS_get (j := wr N (f + p)) C hR (by omega) 11 (by decide) rfl fl_X3_226 (v := .int (S 11 (wr N (f + p)))) rfl dX3_arrive_11 ?_
  refine lv_if_eq (tgt := 36) C.1 C.2.1 dX3_arrive_14 (by decide) (fun c14 => ?_) (fun c14 => ?_)
  · skip
    refine lv_aload_n C.1 C.2.1 dX3_arrive_36 rfl (lv_at hl 2 rfl) ?_
    refine xR_get (j := f) C hR (by omega) 5 (by decide) rfl fl_X3_84 (v := .int (S 25 f)) rfl dX3_arrive_37 ?_
    refine lv_re (y := nI p) (by rw [h25]) ?_
    refine lv_if_ne (tgt := 52) C.1 C.2.1 dX3_arrive_40 (by decide) (fun c40 => ?_) (fun c40 => ?_)
    · skip
      have c40 : ¬ (p = 0) := mt (nI_eq (a := p) (b := 0) (by omega) (by omega)).mpr c40
      refine lv_aload_n C.1 C.2.1 dX3_arrive_52 rfl (lv_at hl 2 rfl) ?_
      refine xR_get (j := f) C hR (by omega) 5 (by decide) rfl fl_X3_84 (v := .int (S 25 f)) rfl dX3_arrive_53 ?_
      refine lv_re (y := nI p) (by rw [h25]) ?_
      refine lv_iconst (v := nI 1) C.1 C.2.1 dX3_arrive_56 (by decide) ?_
      refine n_isub C (by omega) dX3_arrive_57 ?_
      refine lv_istore_n (lv' := [(3, .int (nI (p - 1))), (2, .ref (aSt b (wr N (f + p)))), (0, .ref b), (1, .ref (aRg b f))]) C.1 C.2.1 dX3_arrive_58 rfl hl (by decide) rfl (fun ls hl => ?_)
      refine lv_aload_n C.1 C.2.1 dX3_arrive_59 rfl (lv_at hl 1 rfl) ?_
      refine lv_aload_n C.1 C.2.1 dX3_arrive_60 rfl (lv_at hl 2 rfl) ?_
      refine lv_aload_n C.1 C.2.1 dX3_arrive_61 rfl (lv_at hl 3 rfl) ?_
      refine lv_iload_n C.1 C.2.1 dX3_arrive_62 rfl (lv_at hl 0 rfl) ?_
      refine cxV (b := b) (As := [.ref (aRg b f), .int (nI (p - 1))]) (rest := [.ref (aSt b (wr N (f + p)))]) (ci := 3) (q := (RX3, TX3, 6)) C (kn_numberAt l g b N S Fl hN (f) (p - 1) (by omega) (by omega) (by rw [h20])) cf_X3_numberAt ml_X3_87 ⟨by decide, by decide⟩ ⟨rfl, rfl⟩ rfl (hR.1) rfl hl.1 rfl (Nat.le_of_ble_eq_true rfl) dX3_arrive_63 hR ⟨Nat.zero_le _, Nat.zero_le _⟩ hS (fun _ h => h) (fun H locs hR hS _ _ => ?_)
      simp only [Option.toList, List.cons_append, List.nil_append]
      have hw29 := wr_lt (N := N) (i := f + (p - 1)) (by omega)
      refine lv_aload_n C.1 C.2.1 dX3_arrive_66 rfl (lv_at hl 3 rfl) ?_
      refine xR_get (j := f) C hR (by omega) 4 (by decide) rfl fl_X3_94 (v := .int (S 24 f)) rfl dX3_arrive_67 ?_
      refine cxV (b := aSt b (wr N (f + p))) (As := [.int (nI (wr N (f + (p - 1)))), .int (S 24 f)]) (rest := []) (ci := 2) (q := (RX2, TX2, 19)) C (k_X2_takeToken l g b N S Fl hN (wr N (f + p)) (by omega) (nI (wr N (f + (p - 1)))) (S 24 f) hF) cf_X2_takeToken ml_X3_232 ⟨by decide, by decide⟩ ⟨rfl, rfl⟩ rfl (hR.2.2.2.2.1 _ (by omega)) rfl hl.1 rfl (Nat.le_of_ble_eq_true rfl) dX3_arrive_70 hR ⟨Nat.zero_le _, Nat.zero_le _⟩ hS (fun _ h => h) (fun H locs hR hS _ _ => ?_)
      obtain ⟨S1, eS1⟩ : ∃ y, y = s_X2_takeToken S (wr N (f + p)) (nI (wr N (f + (p - 1)))) (S 24 f) := ⟨_, rfl⟩
      rw [← eS1] at hR
      obtain ⟨F2, eF2⟩ : ∃ y, y = f_X2_takeToken S Fl (wr N (f + p)) (nI (wr N (f + (p - 1)))) (S 24 f) := ⟨_, rfl⟩
      rw [← eF2] at hR
      simp only [Option.toList, List.nil_append]
      refine lv_aload_n C.1 C.2.1 dX3_arrive_73 rfl (lv_at hl 3 rfl) ?_
      refine lv_iconst (v := nI 0) C.1 C.2.1 dX3_arrive_74 (by decide) ?_
      refine xR_put (j := f) C hR hS (by omega) 9 (by decide) rfl rfl fl_X3_236 (nz_n (Or.inl rfl)) (nz_f (Or.inl rfl)) rgS_9 dX3_arrive_75 (fun S3 H locs eS3 hR hS => ?_)
      have hs : s_X3_arrive S N f p L = S3 := (if_pos c14).trans ((if_neg c40).trans (by rw [eS3, eS1]))
      rw [hs]
      have hf : f_X3_arrive S Fl N f p L = F2 := (if_pos c14).trans ((if_neg c40).trans (by rw [eF2]; try simp only [eS3, eS1, true_and]))
      rw [hf]
      exact endv C hr hlk hR hS dX3_arrive_78
    · skip
      have c40 : p = 0 := (nI_eq (a := p) (b := 0) (by omega) (by omega)).mp c40
      refine lv_aload_n C.1 C.2.1 dX3_arrive_43 rfl (lv_at hl 2 rfl) ?_
      refine xR_get (j := f) C hR (by omega) 1 (by decide) rfl fl_X3_153 (v := .int (S 21 f)) rfl dX3_arrive_44 ?_
      refine lv_re (y := nI L) (by rw [h21]) ?_
      refine lv_iconst (v := nI 1) C.1 C.2.1 dX3_arrive_47 (by decide) ?_
      refine n_isub C (by omega) dX3_arrive_48 ?_
      refine lv_goto (tgt := 58) C.1 C.2.1 dX3_arrive_49 (by decide) ?_
      refine lv_istore_n (lv' := [(3, .int (nI (L - 1))), (2, .ref (aSt b (wr N (f + p)))), (0, .ref b), (1, .ref (aRg b f))]) C.1 C.2.1 dX3_arrive_58 rfl hl (by decide) rfl (fun ls hl => ?_)
      refine lv_aload_n C.1 C.2.1 dX3_arrive_59 rfl (lv_at hl 1 rfl) ?_
      refine lv_aload_n C.1 C.2.1 dX3_arrive_60 rfl (lv_at hl 2 rfl) ?_
      refine lv_aload_n C.1 C.2.1 dX3_arrive_61 rfl (lv_at hl 3 rfl) ?_
      refine lv_iload_n C.1 C.2.1 dX3_arrive_62 rfl (lv_at hl 0 rfl) ?_
      refine cxV (b := b) (As := [.ref (aRg b f), .int (nI (L - 1))]) (rest := [.ref (aSt b (wr N (f + p)))]) (ci := 3) (q := (RX3, TX3, 6)) C (kn_numberAt l g b N S Fl hN (f) (L - 1) (by omega) (by omega) (by rw [h20])) cf_X3_numberAt ml_X3_87 ⟨by decide, by decide⟩ ⟨rfl, rfl⟩ rfl (hR.1) rfl hl.1 rfl (Nat.le_of_ble_eq_true rfl) dX3_arrive_63 hR ⟨Nat.zero_le _, Nat.zero_le _⟩ hS (fun _ h => h) (fun H locs hR hS _ _ => ?_)
      simp only [Option.toList, List.cons_append, List.nil_append]
      have hw58 := wr_lt (N := N) (i := f + (L - 1)) (by omega)
      refine lv_aload_n C.1 C.2.1 dX3_arrive_66 rfl (lv_at hl 3 rfl) ?_
      refine xR_get (j := f) C hR (by omega) 4 (by decide) rfl fl_X3_94 (v := .int (S 24 f)) rfl dX3_arrive_67 ?_
      refine cxV (b := aSt b (wr N (f + p))) (As := [.int (nI (wr N (f + (L - 1)))), .int (S 24 f)]) (rest := []) (ci := 2) (q := (RX2, TX2, 19)) C (k_X2_takeToken l g b N S Fl hN (wr N (f + p)) (by omega) (nI (wr N (f + (L - 1)))) (S 24 f) hF) cf_X2_takeToken ml_X3_232 ⟨by decide, by decide⟩ ⟨rfl, rfl⟩ rfl (hR.2.2.2.2.1 _ (by omega)) rfl hl.1 rfl (Nat.le_of_ble_eq_true rfl) dX3_arrive_70 hR ⟨Nat.zero_le _, Nat.zero_le _⟩ hS (fun _ h => h) (fun H locs hR hS _ _ => ?_)
      obtain ⟨S4, eS4⟩ : ∃ y, y = s_X2_takeToken S (wr N (f + p)) (nI (wr N (f + (L - 1)))) (S 24 f) := ⟨_, rfl⟩
      rw [← eS4] at hR
      obtain ⟨F5, eF5⟩ : ∃ y, y = f_X2_takeToken S Fl (wr N (f + p)) (nI (wr N (f + (L - 1)))) (S 24 f) := ⟨_, rfl⟩
      rw [← eF5] at hR
      simp only [Option.toList, List.nil_append]
      refine lv_aload_n C.1 C.2.1 dX3_arrive_73 rfl (lv_at hl 3 rfl) ?_
      refine lv_iconst (v := nI 0) C.1 C.2.1 dX3_arrive_74 (by decide) ?_
      refine xR_put (j := f) C hR hS (by omega) 9 (by decide) rfl rfl fl_X3_236 (nz_n (Or.inl rfl)) (nz_f (Or.inl rfl)) rgS_9 dX3_arrive_75 (fun S6 H locs eS6 hR hS => ?_)
      have hs : s_X3_arrive S N f p L = S6 := (if_pos c14).trans ((if_pos c40).trans (by rw [eS6, eS4]))
      rw [hs]
      have hf : f_X3_arrive S Fl N f p L = F5 := (if_pos c14).trans ((if_pos c40).trans (by rw [eF5]; try simp only [eS6, eS4, true_and]))
      rw [hf]
      exact endv C hr hlk hR hS dX3_arrive_78
  · skip
    refine lv_aload_n C.1 C.2.1 dX3_arrive_17 rfl (lv_at hl 0 rfl) ?_
    refine xS_get (j := wr N (f + p)) C hR (by omega) 10 (by decide) rfl fl_X3_229 (v := .int (S 10 (wr N (f + p)))) rfl dX3_arrive_18 ?_
    refine lv_aload_n C.1 C.2.1 dX3_arrive_21 rfl (lv_at hl 1 rfl) ?_
    refine xO_get C hR 5 (by decide) rfl fl_X3_141 (v := .int (S 46 0)) rfl dX3_arrive_22 ?_
    refine lv_icmp_le (tgt := 36) C.1 C.2.1 dX3_arrive_25 (by decide) (fun c25 => ?_) (fun c25 => ?_)
    · skip
      refine lv_aload_n C.1 C.2.1 dX3_arrive_36 rfl (lv_at hl 2 rfl) ?_
      refine xR_get (j := f) C hR (by omega) 5 (by decide) rfl fl_X3_84 (v := .int (S 25 f)) rfl dX3_arrive_37 ?_
      refine lv_re (y := nI p) (by rw [h25]) ?_
      refine lv_if_ne (tgt := 52) C.1 C.2.1 dX3_arrive_40 (by decide) (fun c40 => ?_) (fun c40 => ?_)
      · skip
        have c40 : ¬ (p = 0) := mt (nI_eq (a := p) (b := 0) (by omega) (by omega)).mpr c40
        refine lv_aload_n C.1 C.2.1 dX3_arrive_52 rfl (lv_at hl 2 rfl) ?_
        refine xR_get (j := f) C hR (by omega) 5 (by decide) rfl fl_X3_84 (v := .int (S 25 f)) rfl dX3_arrive_53 ?_
        refine lv_re (y := nI p) (by rw [h25]) ?_
        refine lv_iconst (v := nI 1) C.1 C.2.1 dX3_arrive_56 (by decide) ?_
        refine n_isub C (by omega) dX3_arrive_57 ?_
        refine lv_istore_n (lv' := [(3, .int (nI (p - 1))), (2, .ref (aSt b (wr N (f + p)))), (0, .ref b), (1, .ref (aRg b f))]) C.1 C.2.1 dX3_arrive_58 rfl hl (by decide) rfl (fun ls hl => ?_)
        refine lv_aload_n C.1 C.2.1 dX3_arrive_59 rfl (lv_at hl 1 rfl) ?_
        refine lv_aload_n C.1 C.2.1 dX3_arrive_60 rfl (lv_at hl 2 rfl) ?_
        refine lv_aload_n C.1 C.2.1 dX3_arrive_61 rfl (lv_at hl 3 rfl) ?_
        refine lv_iload_n C.1 C.2.1 dX3_arrive_62 rfl (lv_at hl 0 rfl) ?_
        refine cxV (b := b) (As := [.ref (aRg b f), .int (nI (p - 1))]) (rest := [.ref (aSt b (wr N (f + p)))]) (ci := 3) (q := (RX3, TX3, 6)) C (kn_numberAt l g b N S Fl hN (f) (p - 1) (by omega) (by omega) (by rw [h20])) cf_X3_numberAt ml_X3_87 ⟨by decide, by decide⟩ ⟨rfl, rfl⟩ rfl (hR.1) rfl hl.1 rfl (Nat.le_of_ble_eq_true rfl) dX3_arrive_63 hR ⟨Nat.zero_le _, Nat.zero_le _⟩ hS (fun _ h => h) (fun H locs hR hS _ _ => ?_)
        simp only [Option.toList, List.cons_append, List.nil_append]
        have hw97 := wr_lt (N := N) (i := f + (p - 1)) (by omega)
        refine lv_aload_n C.1 C.2.1 dX3_arrive_66 rfl (lv_at hl 3 rfl) ?_
        refine xR_get (j := f) C hR (by omega) 4 (by decide) rfl fl_X3_94 (v := .int (S 24 f)) rfl dX3_arrive_67 ?_
        refine cxV (b := aSt b (wr N (f + p))) (As := [.int (nI (wr N (f + (p - 1)))), .int (S 24 f)]) (rest := []) (ci := 2) (q := (RX2, TX2, 19)) C (k_X2_takeToken l g b N S Fl hN (wr N (f + p)) (by omega) (nI (wr N (f + (p - 1)))) (S 24 f) hF) cf_X2_takeToken ml_X3_232 ⟨by decide, by decide⟩ ⟨rfl, rfl⟩ rfl (hR.2.2.2.2.1 _ (by omega)) rfl hl.1 rfl (Nat.le_of_ble_eq_true rfl) dX3_arrive_70 hR ⟨Nat.zero_le _, Nat.zero_le _⟩ hS (fun _ h => h) (fun H locs hR hS _ _ => ?_)
        obtain ⟨S7, eS7⟩ : ∃ y, y = s_X2_takeToken S (wr N (f + p)) (nI (wr N (f + (p - 1)))) (S 24 f) := ⟨_, rfl⟩
        rw [← eS7] at hR
        obtain ⟨F8, eF8⟩ : ∃ y, y = f_X2_takeToken S Fl (wr N (f + p)) (nI (wr N (f + (p - 1)))) (S 24 f) := ⟨_, rfl⟩
        rw [← eF8] at hR
        simp only [Option.toList, List.nil_append]
        refine lv_aload_n C.1 C.2.1 dX3_arrive_73 rfl (lv_at hl 3 rfl) ?_
        refine lv_iconst (v := nI 0) C.1 C.2.1 dX3_arrive_74 (by decide) ?_
        refine xR_put (j := f) C hR hS (by omega) 9 (by decide) rfl rfl fl_X3_236 (nz_n (Or.inl rfl)) (nz_f (Or.inl rfl)) rgS_9 dX3_arrive_75 (fun S9 H locs eS9 hR hS => ?_)
        have hs : s_X3_arrive S N f p L = S9 := (if_neg c14).trans ((if_pos c25).trans ((if_neg c40).trans (by rw [eS9, eS7])))
        rw [hs]
        have hf : f_X3_arrive S Fl N f p L = F8 := (if_neg c14).trans ((if_pos c25).trans ((if_neg c40).trans (by rw [eF8]; try simp only [eS9, eS7, true_and])))
        rw [hf]
        exact endv C hr hlk hR hS dX3_arrive_78
      · skip
        have c40 : p = 0 := (nI_eq (a := p) (b := 0) (by omega) (by omega)).mp c40
        refine lv_aload_n C.1 C.2.1 dX3_arrive_43 rfl (lv_at hl 2 rfl) ?_
        refine xR_get (j := f) C hR (by omega) 1 (by decide) rfl fl_X3_153 (v := .int (S 21 f)) rfl dX3_arrive_44 ?_
        refine lv_re (y := nI L) (by rw [h21]) ?_
        refine lv_iconst (v := nI 1) C.1 C.2.1 dX3_arrive_47 (by decide) ?_
        refine n_isub C (by omega) dX3_arrive_48 ?_
        refine lv_goto (tgt := 58) C.1 C.2.1 dX3_arrive_49 (by decide) ?_
        refine lv_istore_n (lv' := [(3, .int (nI (L - 1))), (2, .ref (aSt b (wr N (f + p)))), (0, .ref b), (1, .ref (aRg b f))]) C.1 C.2.1 dX3_arrive_58 rfl hl (by decide) rfl (fun ls hl => ?_)
        refine lv_aload_n C.1 C.2.1 dX3_arrive_59 rfl (lv_at hl 1 rfl) ?_
        refine lv_aload_n C.1 C.2.1 dX3_arrive_60 rfl (lv_at hl 2 rfl) ?_
        refine lv_aload_n C.1 C.2.1 dX3_arrive_61 rfl (lv_at hl 3 rfl) ?_
        refine lv_iload_n C.1 C.2.1 dX3_arrive_62 rfl (lv_at hl 0 rfl) ?_
        refine cxV (b := b) (As := [.ref (aRg b f), .int (nI (L - 1))]) (rest := [.ref (aSt b (wr N (f + p)))]) (ci := 3) (q := (RX3, TX3, 6)) C (kn_numberAt l g b N S Fl hN (f) (L - 1) (by omega) (by omega) (by rw [h20])) cf_X3_numberAt ml_X3_87 ⟨by decide, by decide⟩ ⟨rfl, rfl⟩ rfl (hR.1) rfl hl.1 rfl (Nat.le_of_ble_eq_true rfl) dX3_arrive_63 hR ⟨Nat.zero_le _, Nat.zero_le _⟩ hS (fun _ h => h) (fun H locs hR hS _ _ => ?_)
        simp only [Option.toList, List.cons_append, List.nil_append]
        have hw126 := wr_lt (N := N) (i := f + (L - 1)) (by omega)
        refine lv_aload_n C.1 C.2.1 dX3_arrive_66 rfl (lv_at hl 3 rfl) ?_
        refine xR_get (j := f) C hR (by omega) 4 (by decide) rfl fl_X3_94 (v := .int (S 24 f)) rfl dX3_arrive_67 ?_
        refine cxV (b := aSt b (wr N (f + p))) (As := [.int (nI (wr N (f + (L - 1)))), .int (S 24 f)]) (rest := []) (ci := 2) (q := (RX2, TX2, 19)) C (k_X2_takeToken l g b N S Fl hN (wr N (f + p)) (by omega) (nI (wr N (f + (L - 1)))) (S 24 f) hF) cf_X2_takeToken ml_X3_232 ⟨by decide, by decide⟩ ⟨rfl, rfl⟩ rfl (hR.2.2.2.2.1 _ (by omega)) rfl hl.1 rfl (Nat.le_of_ble_eq_true rfl) dX3_arrive_70 hR ⟨Nat.zero_le _, Nat.zero_le _⟩ hS (fun _ h => h) (fun H locs hR hS _ _ => ?_)
        obtain ⟨S10, eS10⟩ : ∃ y, y = s_X2_takeToken S (wr N (f + p)) (nI (wr N (f + (L - 1)))) (S 24 f) := ⟨_, rfl⟩
        rw [← eS10] at hR
        obtain ⟨F11, eF11⟩ : ∃ y, y = f_X2_takeToken S Fl (wr N (f + p)) (nI (wr N (f + (L - 1)))) (S 24 f) := ⟨_, rfl⟩
        rw [← eF11] at hR
        simp only [Option.toList, List.nil_append]
        refine lv_aload_n C.1 C.2.1 dX3_arrive_73 rfl (lv_at hl 3 rfl) ?_
        refine lv_iconst (v := nI 0) C.1 C.2.1 dX3_arrive_74 (by decide) ?_
        refine xR_put (j := f) C hR hS (by omega) 9 (by decide) rfl rfl fl_X3_236 (nz_n (Or.inl rfl)) (nz_f (Or.inl rfl)) rgS_9 dX3_arrive_75 (fun S12 H locs eS12 hR hS => ?_)
        have hs : s_X3_arrive S N f p L = S12 := (if_neg c14).trans ((if_pos c25).trans ((if_pos c40).trans (by rw [eS12, eS10])))
        rw [hs]
        have hf : f_X3_arrive S Fl N f p L = F11 := (if_neg c14).trans ((if_pos c25).trans ((if_pos c40).trans (by rw [eF11]; try simp only [eS12, eS10, true_and])))
        rw [hf]
        exact endv C hr hlk hR hS dX3_arrive_78
    · skip
      refine lv_aload_n C.1 C.2.1 dX3_arrive_28 rfl (lv_at hl 1 rfl) ?_
      refine lv_aload_n C.1 C.2.1 dX3_arrive_29 rfl (lv_at hl 0 rfl) ?_
      refine xS_get (j := wr N (f + p)) C hR (by omega) 10 (by decide) rfl fl_X3_229 (v := .int (S 10 (wr N (f + p)))) rfl dX3_arrive_30 ?_
      refine xO_put C hR hS 5 (by decide) fl_X3_141 dX3_arrive_33 (fun S13 H locs eS13 hR hS => ?_)
      refine lv_aload_n C.1 C.2.1 dX3_arrive_36 rfl (lv_at hl 2 rfl) ?_
      refine xR_get (j := f) C hR (by omega) 5 (by decide) rfl fl_X3_84 (v := .int (S13 25 f)) rfl dX3_arrive_37 ?_
      refine lv_re (y := nI p) (by rw [eS13, up2_f (by decide), h25]) ?_
      refine lv_if_ne (tgt := 52) C.1 C.2.1 dX3_arrive_40 (by decide) (fun c40 => ?_) (fun c40 => ?_)
      · skip
        have c40 : ¬ (p = 0) := mt (nI_eq (a := p) (b := 0) (by omega) (by omega)).mpr c40
        refine lv_aload_n C.1 C.2.1 dX3_arrive_52 rfl (lv_at hl 2 rfl) ?_
        refine xR_get (j := f) C hR (by omega) 5 (by decide) rfl fl_X3_84 (v := .int (S13 25 f)) rfl dX3_arrive_53 ?_
        refine lv_re (y := nI p) (by rw [eS13, up2_f (by decide), h25]) ?_
        refine lv_iconst (v := nI 1) C.1 C.2.1 dX3_arrive_56 (by decide) ?_
        refine n_isub C (by omega) dX3_arrive_57 ?_
        refine lv_istore_n (lv' := [(3, .int (nI (p - 1))), (2, .ref (aSt b (wr N (f + p)))), (0, .ref b), (1, .ref (aRg b f))]) C.1 C.2.1 dX3_arrive_58 rfl hl (by decide) rfl (fun ls hl => ?_)
        refine lv_aload_n C.1 C.2.1 dX3_arrive_59 rfl (lv_at hl 1 rfl) ?_
        refine lv_aload_n C.1 C.2.1 dX3_arrive_60 rfl (lv_at hl 2 rfl) ?_
        refine lv_aload_n C.1 C.2.1 dX3_arrive_61 rfl (lv_at hl 3 rfl) ?_
        refine lv_iload_n C.1 C.2.1 dX3_arrive_62 rfl (lv_at hl 0 rfl) ?_
        refine cxV (b := b) (As := [.ref (aRg b f), .int (nI (p - 1))]) (rest := [.ref (aSt b (wr N (f + p)))]) (ci := 3) (q := (RX3, TX3, 6)) C (kn_numberAt l g b N S13 Fl hN (f) (p - 1) (by omega) (by omega) (by rw [eS13, up2_f (by decide), h20])) cf_X3_numberAt ml_X3_87 ⟨by decide, by decide⟩ ⟨rfl, rfl⟩ rfl (hR.1) rfl hl.1 rfl (Nat.le_of_ble_eq_true rfl) dX3_arrive_63 hR ⟨Nat.zero_le _, Nat.zero_le _⟩ hS (fun _ h => h) (fun H locs hR hS _ _ => ?_)
        simp only [Option.toList, List.cons_append, List.nil_append]
        have hw163 := wr_lt (N := N) (i := f + (p - 1)) (by omega)
        refine lv_aload_n C.1 C.2.1 dX3_arrive_66 rfl (lv_at hl 3 rfl) ?_
        refine xR_get (j := f) C hR (by omega) 4 (by decide) rfl fl_X3_94 (v := .int (S13 24 f)) rfl dX3_arrive_67 ?_
        refine lv_re (y := S 24 f) (by rw [eS13, up2_f (by decide)]) ?_
        refine cxV (b := aSt b (wr N (f + p))) (As := [.int (nI (wr N (f + (p - 1)))), .int (S 24 f)]) (rest := []) (ci := 2) (q := (RX2, TX2, 19)) C (k_X2_takeToken l g b N S13 Fl hN (wr N (f + p)) (by omega) (nI (wr N (f + (p - 1)))) (S 24 f) hF) cf_X2_takeToken ml_X3_232 ⟨by decide, by decide⟩ ⟨rfl, rfl⟩ rfl (hR.2.2.2.2.1 _ (by omega)) rfl hl.1 rfl (Nat.le_of_ble_eq_true rfl) dX3_arrive_70 hR ⟨Nat.zero_le _, Nat.zero_le _⟩ hS (fun _ h => h) (fun H locs hR hS _ _ => ?_)
        obtain ⟨S14, eS14⟩ : ∃ y, y = s_X2_takeToken S13 (wr N (f + p)) (nI (wr N (f + (p - 1)))) (S 24 f) := ⟨_, rfl⟩
        rw [← eS14] at hR
        obtain ⟨F15, eF15⟩ : ∃ y, y = f_X2_takeToken S13 Fl (wr N (f + p)) (nI (wr N (f + (p - 1)))) (S 24 f) := ⟨_, rfl⟩
        rw [← eF15] at hR
        simp only [Option.toList, List.nil_append]
        refine lv_aload_n C.1 C.2.1 dX3_arrive_73 rfl (lv_at hl 3 rfl) ?_
        refine lv_iconst (v := nI 0) C.1 C.2.1 dX3_arrive_74 (by decide) ?_
        refine xR_put (j := f) C hR hS (by omega) 9 (by decide) rfl rfl fl_X3_236 (nz_n (Or.inl rfl)) (nz_f (Or.inl rfl)) rgS_9 dX3_arrive_75 (fun S16 H locs eS16 hR hS => ?_)
        have hs : s_X3_arrive S N f p L = S16 := (if_neg c14).trans ((if_neg c25).trans ((if_neg c40).trans (by rw [eS16, eS14, eS13])))
        rw [hs]
        have hf : f_X3_arrive S Fl N f p L = F15 := (if_neg c14).trans ((if_neg c25).trans ((if_neg c40).trans (by rw [eF15]; try simp only [eS16, eS14, eS13, true_and])))
        rw [hf]
        exact endv C hr hlk hR hS dX3_arrive_78
      · skip
        have c40 : p = 0 := (nI_eq (a := p) (b := 0) (by omega) (by omega)).mp c40
        refine lv_aload_n C.1 C.2.1 dX3_arrive_43 rfl (lv_at hl 2 rfl) ?_
        refine xR_get (j := f) C hR (by omega) 1 (by decide) rfl fl_X3_153 (v := .int (S13 21 f)) rfl dX3_arrive_44 ?_
        refine lv_re (y := nI L) (by rw [eS13, up2_f (by decide), h21]) ?_
        refine lv_iconst (v := nI 1) C.1 C.2.1 dX3_arrive_47 (by decide) ?_
        refine n_isub C (by omega) dX3_arrive_48 ?_
        refine lv_goto (tgt := 58) C.1 C.2.1 dX3_arrive_49 (by decide) ?_
        refine lv_istore_n (lv' := [(3, .int (nI (L - 1))), (2, .ref (aSt b (wr N (f + p)))), (0, .ref b), (1, .ref (aRg b f))]) C.1 C.2.1 dX3_arrive_58 rfl hl (by decide) rfl (fun ls hl => ?_)
        refine lv_aload_n C.1 C.2.1 dX3_arrive_59 rfl (lv_at hl 1 rfl) ?_
        refine lv_aload_n C.1 C.2.1 dX3_arrive_60 rfl (lv_at hl 2 rfl) ?_
        refine lv_aload_n C.1 C.2.1 dX3_arrive_61 rfl (lv_at hl 3 rfl) ?_
        refine lv_iload_n C.1 C.2.1 dX3_arrive_62 rfl (lv_at hl 0 rfl) ?_
        refine cxV (b := b) (As := [.ref (aRg b f), .int (nI (L - 1))]) (rest := [.ref (aSt b (wr N (f + p)))]) (ci := 3) (q := (RX3, TX3, 6)) C (kn_numberAt l g b N S13 Fl hN (f) (L - 1) (by omega) (by omega) (by rw [eS13, up2_f (by decide), h20])) cf_X3_numberAt ml_X3_87 ⟨by decide, by decide⟩ ⟨rfl, rfl⟩ rfl (hR.1) rfl hl.1 rfl (Nat.le_of_ble_eq_true rfl) dX3_arrive_63 hR ⟨Nat.zero_le _, Nat.zero_le _⟩ hS (fun _ h => h) (fun H locs hR hS _ _ => ?_)
        simp only [Option.toList, List.cons_append, List.nil_append]
        have hw193 := wr_lt (N := N) (i := f + (L - 1)) (by omega)
        refine lv_aload_n C.1 C.2.1 dX3_arrive_66 rfl (lv_at hl 3 rfl) ?_
        refine xR_get (j := f) C hR (by omega) 4 (by decide) rfl fl_X3_94 (v := .int (S13 24 f)) rfl dX3_arrive_67 ?_
        refine lv_re (y := S 24 f) (by rw [eS13, up2_f (by decide)]) ?_
        refine cxV (b := aSt b (wr N (f + p))) (As := [.int (nI (wr N (f + (L - 1)))), .int (S 24 f)]) (rest := []) (ci := 2) (q := (RX2, TX2, 19)) C (k_X2_takeToken l g b N S13 Fl hN (wr N (f + p)) (by omega) (nI (wr N (f + (L - 1)))) (S 24 f) hF) cf_X2_takeToken ml_X3_232 ⟨by decide, by decide⟩ ⟨rfl, rfl⟩ rfl (hR.2.2.2.2.1 _ (by omega)) rfl hl.1 rfl (Nat.le_of_ble_eq_true rfl) dX3_arrive_70 hR ⟨Nat.zero_le _, Nat.zero_le _⟩ hS (fun _ h => h) (fun H locs hR hS _ _ => ?_)
        obtain ⟨S17, eS17⟩ : ∃ y, y = s_X2_takeToken S13 (wr N (f + p)) (nI (wr N (f + (L - 1)))) (S 24 f) := ⟨_, rfl⟩
        rw [← eS17] at hR
        obtain ⟨F18, eF18⟩ : ∃ y, y = f_X2_takeToken S13 Fl (wr N (f + p)) (nI (wr N (f + (L - 1)))) (S 24 f) := ⟨_, rfl⟩
        rw [← eF18] at hR
        simp only [Option.toList, List.nil_append]
        refine lv_aload_n C.1 C.2.1 dX3_arrive_73 rfl (lv_at hl 3 rfl) ?_
        refine lv_iconst (v := nI 0) C.1 C.2.1 dX3_arrive_74 (by decide) ?_
        refine xR_put (j := f) C hR hS (by omega) 9 (by decide) rfl rfl fl_X3_236 (nz_n (Or.inl rfl)) (nz_f (Or.inl rfl)) rgS_9 dX3_arrive_75 (fun S19 H locs eS19 hR hS => ?_)
        have hs : s_X3_arrive S N f p L = S19 := (if_neg c14).trans ((if_neg c25).trans ((if_pos c40).trans (by rw [eS19, eS17, eS13])))
        rw [hs]
        have hf : f_X3_arrive S Fl N f p L = F18 := (if_neg c14).trans ((if_neg c25).trans ((if_pos c40).trans (by rw [eF18]; try simp only [eS19, eS17, eS13, true_and])))
        rw [hf]
        exact endv C hr hlk hR hS dX3_arrive_78

theorem rcv_o {S : SX} {j g k : Nat} {n sd : Int32} (h : g ≠ 14) (h1 : g ≠ 15) (h2 : g ≠ 16) : s_X2_receive S j n sd g k = S g k := by
  unfold s_X2_receive
  rw [up2_f h2, up2_f h1, up2_f h]
def s_X3_finishFrame (S : SX) (N : Nat) (f p j z t : Nat) : SX := if S 3 t = nI f then (s_rem (up2 (s_X2_receive S (t) (S 43 (5 * (qof j (S 28 f)))) (nI (wr N (f + p)))) 17 j (S 17 j + (S 43 (5 * (qof j (S 28 f)))))) (qof j (S 28 f)) z) else (s_rem (up2 (up2 S 18 j (S 18 j + (nI 1))) 17 j (S 17 j + (S 43 (5 * (qof j (S 28 f)))))) (qof j (S 28 f)) z)
set_option maxHeartbeats 4000000 in
set_option maxRecDepth 100000 in
theorem k_X3_finishFrame (l : Launch) (g : GX) (b N : Nat) (S : SX) (Fl : FX) (hN : N ≤ 6) (f p j : Nat) (hf : f < N) (hp : p < N) (hj : j < N) (h20 : S 20 f = nI f) (h25 : S 25 f = nI p) (z t : Nat) (hz : z ≤ 5) (ht : t < N) (h41 : S 41 (qof j (S 28 f)) = nI z) (h42 : S 42 (5 * qof j (S 28 f)) = nI t)  : MR l yX3_finishFrame (.code yX3_finishFrame cX3_finishFrame 6 none :: tb) (rmk 1 23) g (RepX g b N S Fl) (RepX g b N (s_X3_finishFrame S N f p j z t) Fl) (AX b N) [.ref b, .ref (aRg b f), .ref (aSt b j)] none := by
  refine MR.start RX3 (by decide) rfl (Nat.le_of_ble_eq_true rfl) (fun zp ze zs zm zb zt zc ls C hr hlk hR hS hl => ?_)
  have hl : lv_has ls 6 [(0, .ref b), (1, .ref (aRg b f)), (2, .ref (aSt b j))] := hl
  refine lv_aload_n C.1 C.2.1 dX3_finishFrame_0 rfl (lv_at hl 2 rfl) ?_
  refine lv_aload_n C.1 C.2.1 dX3_finishFrame_1 rfl (lv_at hl 1 rfl) ?_
  refine xR_get (j := f) C hR (by omega) 8 (by decide) rfl fl_X3_182 (v := .int (S 28 f)) rfl dX3_finishFrame_2 ?_
  refine cxV (b := aSt b j) (As := [.int (S 28 f)]) (rest := []) (ci := 2) (q := (RX2, TX2, 19)) C (kq_X2_queueFor l g b N S Fl hN (j) (by omega) (S 28 f)) cf_X2_queueFor ml_X3_46 ⟨by decide, by decide⟩ ⟨rfl, rfl⟩ rfl (hR.2.2.2.2.1 _ (by omega)) rfl hl.1 rfl (Nat.le_of_ble_eq_true rfl) dX3_finishFrame_5 hR ⟨Nat.zero_le _, Nat.zero_le _⟩ hS (fun _ h => h) (fun H locs hR hS _ _ => ?_)
  simp only [Option.toList, List.cons_append, List.nil_append]
  have hw3 := qof_lt (N := N) (j := j) (x := S 28 f) (by omega)
  refine lv_astore_n (lv' := [(3, .ref (aQ b (qof j (S 28 f)))), (0, .ref b), (1, .ref (aRg b f)), (2, .ref (aSt b j))]) C.1 C.2.1 dX3_finishFrame_8 rfl hl (by decide) rfl (fun ls hl => ?_)
  refine lv_aload_n C.1 C.2.1 dX3_finishFrame_9 rfl (lv_at hl 0 rfl) ?_
  refine xQ_get (q := qof j (S 28 f)) C hR (by omega) 1 (by decide) rfl fl_X3_243 (v := .ref (aQA b (qof j (S 28 f)) 1)) rfl dX3_finishFrame_10 ?_
  refine lv_iconst (v := nI 0) C.1 C.2.1 dX3_finishFrame_13 (by decide) ?_
  refine xA_ld (q := qof j (S 28 f)) (i := 1) (k := 0) C hR (by omega) (by decide) (by omega) (v := S 43 (5 * (qof j (S 28 f)))) rfl dX3_finishFrame_14 ?_
  refine lv_istore (lv' := [(4, .int (S 43 (5 * (qof j (S 28 f))))), (3, .ref (aQ b (qof j (S 28 f)))), (0, .ref b), (1, .ref (aRg b f)), (2, .ref (aSt b j))]) C.1 C.2.1 dX3_finishFrame_15 hl (by decide) rfl (fun ls hl => ?_)
  refine lv_aload_n C.1 C.2.1 dX3_finishFrame_17 rfl (lv_at hl 2 rfl) ?_
  refine xO_get C hR 1 (by decide) rfl fl_X3_15 (v := .ref (b + 1)) rfl dX3_finishFrame_18 ?_
  refine lv_aload_n C.1 C.2.1 dX3_finishFrame_21 rfl (lv_at hl 1 rfl) ?_
  refine xQ_get (q := qof j (S 28 f)) C hR (by omega) 0 (by decide) rfl fl_X3_247 (v := .ref (aQA b (qof j (S 28 f)) 0)) rfl dX3_finishFrame_22 ?_
  refine lv_iconst (v := nI 0) C.1 C.2.1 dX3_finishFrame_25 (by decide) ?_
  refine xA_ld (q := qof j (S 28 f)) (i := 0) (k := 0) C hR (by omega) (by decide) (by omega) (v := S 42 (5 * (qof j (S 28 f)))) rfl dX3_finishFrame_26 ?_
  refine lv_re (y := nI t) (by rw [h42]) ?_
  refine xS_ald (j := t) C hR (by omega) hN dX3_finishFrame_27 ?_
  refine lv_astore (lv' := [(5, .ref (aSt b t)), (4, .int (S 43 (5 * (qof j (S 28 f))))), (3, .ref (aQ b (qof j (S 28 f)))), (0, .ref b), (1, .ref (aRg b f)), (2, .ref (aSt b j))]) C.1 C.2.1 dX3_finishFrame_28 hl (by decide) rfl (fun ls hl => ?_)
  refine lv_aload C.1 C.2.1 dX3_finishFrame_30 (lv_at hl 0 rfl) ?_
  refine xS_get (j := t) C hR (by omega) 3 (by decide) rfl fl_X3_70 (v := .int (S 3 t)) rfl dX3_finishFrame_32 ?_
  refine lv_aload_n C.1 C.2.1 dX3_finishFrame_35 rfl (lv_at hl 4 rfl) ?_
  refine xR_get (j := f) C hR (by omega) 0 (by decide) rfl fl_X3_144 (v := .int (S 20 f)) rfl dX3_finishFrame_36 ?_
  refine lv_re (y := nI f) (by rw [h20]) ?_
  refine lv_icmp_ne (tgt := 61) C.1 C.2.1 dX3_finishFrame_39 (by decide) (fun c39 => ?_) (fun c39 => ?_)
  · skip
    refine lv_aload_n C.1 C.2.1 dX3_finishFrame_61 rfl (lv_at hl 5 rfl) ?_
    refine lv_dup C.1 C.2.1 dX3_finishFrame_62 rfl ?_
    refine xS_get (j := j) C hR (by omega) 18 (by decide) rfl fl_X3_134 (v := .int (S 18 j)) rfl dX3_finishFrame_63 ?_
    refine lv_iconst (v := nI 1) C.1 C.2.1 dX3_finishFrame_66 (by decide) ?_
    refine lv_iadd C.1 C.2.1 dX3_finishFrame_67 ?_
    refine xS_put (j := j) C hR hS (by omega) 18 (by decide) rfl rfl fl_X3_134 rfl rfl stS_18 dX3_finishFrame_68 (fun S1 H locs eS1 hR hS => ?_)
    refine lv_aload_n C.1 C.2.1 dX3_finishFrame_71 rfl (lv_at hl 5 rfl) ?_
    refine lv_dup C.1 C.2.1 dX3_finishFrame_72 rfl ?_
    refine xS_get (j := j) C hR (by omega) 17 (by decide) rfl fl_X3_131 (v := .int (S1 17 j)) rfl dX3_finishFrame_73 ?_
    refine lv_re (y := S 17 j) (by rw [eS1, up2_f (by decide)]) ?_
    refine lv_iload C.1 C.2.1 dX3_finishFrame_76 (lv_at hl 1 rfl) ?_
    refine lv_iadd C.1 C.2.1 dX3_finishFrame_78 ?_
    refine xS_put (j := j) C hR hS (by omega) 17 (by decide) rfl rfl fl_X3_131 rfl rfl stS_17 dX3_finishFrame_79 (fun S2 H locs eS2 hR hS => ?_)
    refine lv_aload_n C.1 C.2.1 dX3_finishFrame_82 rfl (lv_at hl 2 rfl) ?_
    refine cxV (b := aQ b (qof j (S 28 f))) (As := []) (rest := []) (ci := 0) (q := (RX0, TX0, 4)) C (k_X0_removeFirst l g b N S2 Fl hN (qof j (S 28 f)) z (by omega) (by omega) (by rw [eS2, up2_f (by decide), eS1, up2_f (by decide), h41])) cf_X0_removeFirst ml_X3_185 ⟨by decide, by decide⟩ ⟨rfl, rfl⟩ rfl (hR.2.2.2.2.2.2.1 _ (by omega)) rfl hl.1 rfl (Nat.le_of_ble_eq_true rfl) dX3_finishFrame_83 hR ⟨Nat.zero_le _, Nat.zero_le _⟩ hS (fun _ h => h) (fun H locs hR hS _ _ => ?_)
    obtain ⟨S3, eS3⟩ : ∃ y, y = s_rem S2 (qof j (S 28 f)) z := ⟨_, rfl⟩
    rw [← eS3] at hR
    simp only [Option.toList, List.nil_append]
    have hs : s_X3_finishFrame S N f p j z t = S3 := (if_neg c39).trans (by rw [eS3, eS2, eS1])
    rw [hs]
    exact endv C hr hlk hR hS dX3_finishFrame_86
  · skip
    refine lv_aload C.1 C.2.1 dX3_finishFrame_42 (lv_at hl 0 rfl) ?_
    refine lv_iload C.1 C.2.1 dX3_finishFrame_44 (lv_at hl 1 rfl) ?_
    refine lv_aload_n C.1 C.2.1 dX3_finishFrame_46 rfl (lv_at hl 3 rfl) ?_
    refine lv_aload_n C.1 C.2.1 dX3_finishFrame_47 rfl (lv_at hl 4 rfl) ?_
    refine lv_aload_n C.1 C.2.1 dX3_finishFrame_48 rfl (lv_at hl 4 rfl) ?_
    refine xR_get (j := f) C hR (by omega) 5 (by decide) rfl fl_X3_84 (v := .int (S 25 f)) rfl dX3_finishFrame_49 ?_
    refine lv_re (y := nI p) (by rw [h25]) ?_
    refine cxV (b := b) (As := [.ref (aRg b f), .int (nI p)]) (rest := [.int (S 43 (5 * (qof j (S 28 f)))), .ref (aSt b t)]) (ci := 3) (q := (RX3, TX3, 6)) C (kn_numberAt l g b N S Fl hN (f) (p) (by omega) (by omega) (by rw [h20])) cf_X3_numberAt ml_X3_87 ⟨by decide, by decide⟩ ⟨rfl, rfl⟩ rfl (hR.1) rfl hl.1 rfl (Nat.le_of_ble_eq_true rfl) dX3_finishFrame_52 hR ⟨Nat.zero_le _, Nat.zero_le _⟩ hS (fun _ h => h) (fun H locs hR hS _ _ => ?_)
    simp only [Option.toList, List.cons_append, List.nil_append]
    have hw56 := wr_lt (N := N) (i := f + p) (by omega)
    refine cxV (b := aSt b t) (As := [.int (S 43 (5 * (qof j (S 28 f)))), .int (nI (wr N (f + p)))]) (rest := []) (ci := 2) (q := (RX2, TX2, 19)) C (k_X2_receive l g b N S Fl hN (t) (by omega) (S 43 (5 * (qof j (S 28 f)))) (nI (wr N (f + p)))) cf_X2_receive ml_X3_250 ⟨by decide, by decide⟩ ⟨rfl, rfl⟩ rfl (hR.2.2.2.2.1 _ (by omega)) rfl hl.1 rfl (Nat.le_of_ble_eq_true rfl) dX3_finishFrame_55 hR ⟨Nat.zero_le _, Nat.zero_le _⟩ hS (fun _ h => h) (fun H locs hR hS _ _ => ?_)
    obtain ⟨S4, eS4⟩ : ∃ y, y = s_X2_receive S (t) (S 43 (5 * (qof j (S 28 f)))) (nI (wr N (f + p))) := ⟨_, rfl⟩
    rw [← eS4] at hR
    simp only [Option.toList, List.nil_append]
    refine lv_goto (tgt := 71) C.1 C.2.1 dX3_finishFrame_58 (by decide) ?_
    refine lv_aload_n C.1 C.2.1 dX3_finishFrame_71 rfl (lv_at hl 5 rfl) ?_
    refine lv_dup C.1 C.2.1 dX3_finishFrame_72 rfl ?_
    refine xS_get (j := j) C hR (by omega) 17 (by decide) rfl fl_X3_131 (v := .int (S4 17 j)) rfl dX3_finishFrame_73 ?_
    refine lv_re (y := S 17 j) (by rw [eS4, rcv_o (by decide) (by decide) (by decide)]) ?_
    refine lv_iload C.1 C.2.1 dX3_finishFrame_76 (lv_at hl 1 rfl) ?_
    refine lv_iadd C.1 C.2.1 dX3_finishFrame_78 ?_
    refine xS_put (j := j) C hR hS (by omega) 17 (by decide) rfl rfl fl_X3_131 rfl rfl stS_17 dX3_finishFrame_79 (fun S5 H locs eS5 hR hS => ?_)
    refine lv_aload_n C.1 C.2.1 dX3_finishFrame_82 rfl (lv_at hl 2 rfl) ?_
    refine cxV (b := aQ b (qof j (S 28 f))) (As := []) (rest := []) (ci := 0) (q := (RX0, TX0, 4)) C (k_X0_removeFirst l g b N S5 Fl hN (qof j (S 28 f)) z (by omega) (by omega) (by rw [eS5, up2_f (by decide), eS4, rcv_o (by decide) (by decide) (by decide), h41])) cf_X0_removeFirst ml_X3_185 ⟨by decide, by decide⟩ ⟨rfl, rfl⟩ rfl (hR.2.2.2.2.2.2.1 _ (by omega)) rfl hl.1 rfl (Nat.le_of_ble_eq_true rfl) dX3_finishFrame_83 hR ⟨Nat.zero_le _, Nat.zero_le _⟩ hS (fun _ h => h) (fun H locs hR hS _ _ => ?_)
    obtain ⟨S6, eS6⟩ : ∃ y, y = s_rem S5 (qof j (S 28 f)) z := ⟨_, rfl⟩
    rw [← eS6] at hR
    simp only [Option.toList, List.nil_append]
    have hs : s_X3_finishFrame S N f p j z t = S6 := (if_pos c39).trans (by rw [eS6, eS5, eS4])
    rw [hs]
    exact endv C hr hlk hR hS dX3_finishFrame_86

def s_X3_passFrame (S : SX) (N : Nat) (f p z t : Nat) : SX := if S 28 f = 0 then (if S 8 (wr N (f + p)) ≤ 0 then (if (S 27 f) - (nI 1) = 0 then (s_X3_finishFrame (up2 S 27 f ((S 27 f) - (nI 1))) N f p (wr N (f + p)) z t) else (up2 S 27 f ((S 27 f) - (nI 1)))) else (if (S 27 f) - (nI 1) = 0 then (s_X3_finishFrame (up2 (up2 S 27 f ((S 27 f) - (nI 1))) 8 (wr N (f + p)) ((S 8 (wr N (f + p))) - (nI 1))) N f p (wr N (f + p)) z t) else (up2 (up2 S 27 f ((S 27 f) - (nI 1))) 8 (wr N (f + p)) ((S 8 (wr N (f + p))) - (nI 1))))) else (if (S 27 f) - (nI 1) = 0 then (s_X3_finishFrame (up2 S 27 f ((S 27 f) - (nI 1))) N f p (wr N (f + p)) z t) else (up2 S 27 f ((S 27 f) - (nI 1))))
set_option maxHeartbeats 4000000 in
set_option maxRecDepth 100000 in
theorem k_X3_passFrame (l : Launch) (g : GX) (b N : Nat) (S : SX) (Fl : FX) (hN : N ≤ 6) (f p L : Nat) (hf : f < N) (hp : p < N) (hL : L ≤ N) (hL1 : 1 ≤ L) (h20 : S 20 f = nI f) (h25 : S 25 f = nI p) (h21 : S 21 f = nI L) (z t : Nat) (hz : z ≤ 5) (ht : t < N) (h41 : S 41 (qof (wr N (f + p)) (S 28 f)) = nI z) (h42 : S 42 (5 * qof (wr N (f + p)) (S 28 f)) = nI t)  : MR l yX3_passFrame (.code yX3_passFrame cX3_passFrame 3 none :: tb) (rmk 2 48) g (RepX g b N S Fl) (RepX g b N (s_X3_passFrame S N f p z t) Fl) (AX b N) [.ref b, .ref (aRg b f)] none := by
  refine MR.start RX3 (by decide) rfl (Nat.le_of_ble_eq_true rfl) (fun zp ze zs zm zb zt zc ls C hr hlk hR hS hl => ?_)
  have hl : lv_has ls 3 [(0, .ref b), (1, .ref (aRg b f))] := hl
  refine lv_aload_n C.1 C.2.1 dX3_passFrame_0 rfl (lv_at hl 0 rfl) ?_
  refine lv_aload_n C.1 C.2.1 dX3_passFrame_1 rfl (lv_at hl 1 rfl) ?_
  refine lv_aload_n C.1 C.2.1 dX3_passFrame_2 rfl (lv_at hl 1 rfl) ?_
  refine xR_get (j := f) C hR (by omega) 5 (by decide) rfl fl_X3_84 (v := .int (S 25 f)) rfl dX3_passFrame_3 ?_
  refine lv_re (y := nI p) (by rw [h25]) ?_
  refine cxV (b := b) (As := [.ref (aRg b f), .int (nI p)]) (rest := []) (ci := 3) (q := (RX3, TX3, 6)) C (k_X3_stationAt l g b N S Fl hN (f) (p) (by omega) (by omega) (by rw [h20])) cf_X3_stationAt ml_X3_178 ⟨by decide, by decide⟩ ⟨rfl, rfl⟩ rfl (hR.1) rfl hl.1 rfl (Nat.le_of_ble_eq_true rfl) dX3_passFrame_6 hR ⟨Nat.zero_le _, Nat.zero_le _⟩ hS (fun _ h => h) (fun H locs hR hS _ _ => ?_)
  simp only [Option.toList, List.cons_append, List.nil_append]
  have hw5 := wr_lt (N := N) (i := f + p) (by omega)
  refine lv_astore_n (lv' := [(2, .ref (aSt b (wr N (f + p)))), (0, .ref b), (1, .ref (aRg b f))]) C.1 C.2.1 dX3_passFrame_9 rfl hl (by decide) rfl (fun ls hl => ?_)
  refine lv_aload_n C.1 C.2.1 dX3_passFrame_10 rfl (lv_at hl 2 rfl) ?_
  refine lv_dup C.1 C.2.1 dX3_passFrame_11 rfl ?_
  refine xR_get (j := f) C hR (by omega) 7 (by decide) rfl fl_X3_91 (v := .int (S 27 f)) rfl dX3_passFrame_12 ?_
  refine lv_iconst (v := nI 1) C.1 C.2.1 dX3_passFrame_15 (by decide) ?_
  refine lv_isub C.1 C.2.1 dX3_passFrame_16 ?_
  refine xR_put (j := f) C hR hS (by omega) 7 (by decide) rfl rfl fl_X3_91 rfl rfl rgS_7 dX3_passFrame_17 (fun S1 H locs eS1 hR hS => ?_)
  refine lv_aload_n C.1 C.2.1 dX3_passFrame_20 rfl (lv_at hl 2 rfl) ?_
  refine xR_get (j := f) C hR (by omega) 8 (by decide) rfl fl_X3_182 (v := .int (S1 28 f)) rfl dX3_passFrame_21 ?_
  refine lv_re (y := S 28 f) (by rw [eS1, up2_f (by decide)]) ?_
  refine lv_if_ne (tgt := 44) C.1 C.2.1 dX3_passFrame_24 (by decide) (fun c24 => ?_) (fun c24 => ?_)
  · skip
    refine lv_aload_n C.1 C.2.1 dX3_passFrame_44 rfl (lv_at hl 2 rfl) ?_
    refine xR_get (j := f) C hR (by omega) 7 (by decide) rfl fl_X3_91 (v := .int (S1 27 f)) rfl dX3_passFrame_45 ?_
    refine lv_re (y := (S 27 f) - (nI 1)) (by rw [eS1, up2_eq]) ?_
    refine lv_if_ne (tgt := 57) C.1 C.2.1 dX3_passFrame_48 (by decide) (fun c48 => ?_) (fun c48 => ?_)
    · skip
      have hs : s_X3_passFrame S N f p z t = S1 := (if_neg c24).trans ((if_neg c48).trans (by rw [eS1]))
      rw [hs]
      exact endv C hr hlk hR hS dX3_passFrame_57
    · skip
      refine lv_aload_n C.1 C.2.1 dX3_passFrame_51 rfl (lv_at hl 1 rfl) ?_
      refine lv_aload_n C.1 C.2.1 dX3_passFrame_52 rfl (lv_at hl 2 rfl) ?_
      refine lv_aload_n C.1 C.2.1 dX3_passFrame_53 rfl (lv_at hl 0 rfl) ?_
      refine cxV (b := b) (As := [.ref (aRg b f), .ref (aSt b (wr N (f + p)))]) (rest := []) (ci := 3) (q := (RX3, TX3, 6)) C (k_X3_finishFrame l g b N S1 Fl hN f p (wr N (f + p)) (by omega) (by omega) (by omega) (by rw [eS1, up2_f (by decide), h20]) (by rw [eS1, up2_f (by decide), h25]) z t hz ht (by rw [show S1 28 f = S 28 f from by rw [eS1, up2_f (by decide)], eS1, up2_f (by decide), h41]) (by rw [show S1 28 f = S 28 f from by rw [eS1, up2_f (by decide)], eS1, up2_f (by decide), h42])) cf_X3_finishFrame ml_X3_239 ⟨by decide, by decide⟩ ⟨rfl, rfl⟩ rfl (hR.1) rfl hl.1 rfl (Nat.le_of_ble_eq_true rfl) dX3_passFrame_54 hR ⟨Nat.zero_le _, Nat.zero_le _⟩ hS (fun _ h => h) (fun H locs hR hS _ _ => ?_)
      obtain ⟨S2, eS2⟩ : ∃ y, y = s_X3_finishFrame S1 N f p (wr N (f + p)) z t := ⟨_, rfl⟩
      rw [← eS2] at hR
      simp only [Option.toList, List.nil_append]
      have hs : s_X3_passFrame S N f p z t = S2 := (if_neg c24).trans ((if_pos c48).trans (by rw [eS2, eS1]))
      rw [hs]
      exact endv C hr hlk hR hS dX3_passFrame_57
  · skip
    refine lv_aload_n C.1 C.2.1 dX3_passFrame_27 rfl (lv_at hl 0 rfl) ?_
    refine xS_get (j := wr N (f + p)) C hR (by omega) 8 (by decide) rfl fl_X3_103 (v := .int (S1 8 (wr N (f + p)))) rfl dX3_passFrame_28 ?_
    refine lv_re (y := S 8 (wr N (f + p))) (by rw [eS1, up2_f (by decide)]) ?_
    refine lv_if_le (tgt := 44) C.1 C.2.1 dX3_passFrame_31 (by decide) (fun c31 => ?_) (fun c31 => ?_)
    · skip
      refine lv_aload_n C.1 C.2.1 dX3_passFrame_44 rfl (lv_at hl 2 rfl) ?_
      refine xR_get (j := f) C hR (by omega) 7 (by decide) rfl fl_X3_91 (v := .int (S1 27 f)) rfl dX3_passFrame_45 ?_
      refine lv_re (y := (S 27 f) - (nI 1)) (by rw [eS1, up2_eq]) ?_
      refine lv_if_ne (tgt := 57) C.1 C.2.1 dX3_passFrame_48 (by decide) (fun c48 => ?_) (fun c48 => ?_)
      · skip
        have hs : s_X3_passFrame S N f p z t = S1 := (if_pos c24).trans ((if_pos c31).trans ((if_neg c48).trans (by rw [eS1])))
        rw [hs]
        exact endv C hr hlk hR hS dX3_passFrame_57
      · skip
        refine lv_aload_n C.1 C.2.1 dX3_passFrame_51 rfl (lv_at hl 1 rfl) ?_
        refine lv_aload_n C.1 C.2.1 dX3_passFrame_52 rfl (lv_at hl 2 rfl) ?_
        refine lv_aload_n C.1 C.2.1 dX3_passFrame_53 rfl (lv_at hl 0 rfl) ?_
        refine cxV (b := b) (As := [.ref (aRg b f), .ref (aSt b (wr N (f + p)))]) (rest := []) (ci := 3) (q := (RX3, TX3, 6)) C (k_X3_finishFrame l g b N S1 Fl hN f p (wr N (f + p)) (by omega) (by omega) (by omega) (by rw [eS1, up2_f (by decide), h20]) (by rw [eS1, up2_f (by decide), h25]) z t hz ht (by rw [show S1 28 f = S 28 f from by rw [eS1, up2_f (by decide)], eS1, up2_f (by decide), h41]) (by rw [show S1 28 f = S 28 f from by rw [eS1, up2_f (by decide)], eS1, up2_f (by decide), h42])) cf_X3_finishFrame ml_X3_239 ⟨by decide, by decide⟩ ⟨rfl, rfl⟩ rfl (hR.1) rfl hl.1 rfl (Nat.le_of_ble_eq_true rfl) dX3_passFrame_54 hR ⟨Nat.zero_le _, Nat.zero_le _⟩ hS (fun _ h => h) (fun H locs hR hS _ _ => ?_)
        obtain ⟨S3, eS3⟩ : ∃ y, y = s_X3_finishFrame S1 N f p (wr N (f + p)) z t := ⟨_, rfl⟩
        rw [← eS3] at hR
        simp only [Option.toList, List.nil_append]
        have hs : s_X3_passFrame S N f p z t = S3 := (if_pos c24).trans ((if_pos c31).trans ((if_pos c48).trans (by rw [eS3, eS1])))
        rw [hs]
        exact endv C hr hlk hR hS dX3_passFrame_57
    · skip
      refine lv_aload_n C.1 C.2.1 dX3_passFrame_34 rfl (lv_at hl 0 rfl) ?_
      refine lv_dup C.1 C.2.1 dX3_passFrame_35 rfl ?_
      refine xS_get (j := wr N (f + p)) C hR (by omega) 8 (by decide) rfl fl_X3_103 (v := .int (S1 8 (wr N (f + p)))) rfl dX3_passFrame_36 ?_
      refine lv_re (y := S 8 (wr N (f + p))) (by rw [eS1, up2_f (by decide)]) ?_
      refine lv_iconst (v := nI 1) C.1 C.2.1 dX3_passFrame_39 (by decide) ?_
      refine lv_isub C.1 C.2.1 dX3_passFrame_40 ?_
      refine xS_put (j := wr N (f + p)) C hR hS (by omega) 8 (by decide) rfl rfl fl_X3_103 rfl rfl stS_8 dX3_passFrame_41 (fun S4 H locs eS4 hR hS => ?_)
      refine lv_aload_n C.1 C.2.1 dX3_passFrame_44 rfl (lv_at hl 2 rfl) ?_
      refine xR_get (j := f) C hR (by omega) 7 (by decide) rfl fl_X3_91 (v := .int (S4 27 f)) rfl dX3_passFrame_45 ?_
      refine lv_re (y := (S 27 f) - (nI 1)) (by rw [eS4, up2_f (by decide), eS1, up2_eq]) ?_
      refine lv_if_ne (tgt := 57) C.1 C.2.1 dX3_passFrame_48 (by decide) (fun c48 => ?_) (fun c48 => ?_)
      · skip
        have hs : s_X3_passFrame S N f p z t = S4 := (if_pos c24).trans ((if_neg c31).trans ((if_neg c48).trans (by rw [eS4, eS1])))
        rw [hs]
        exact endv C hr hlk hR hS dX3_passFrame_57
      · skip
        refine lv_aload_n C.1 C.2.1 dX3_passFrame_51 rfl (lv_at hl 1 rfl) ?_
        refine lv_aload_n C.1 C.2.1 dX3_passFrame_52 rfl (lv_at hl 2 rfl) ?_
        refine lv_aload_n C.1 C.2.1 dX3_passFrame_53 rfl (lv_at hl 0 rfl) ?_
        refine cxV (b := b) (As := [.ref (aRg b f), .ref (aSt b (wr N (f + p)))]) (rest := []) (ci := 3) (q := (RX3, TX3, 6)) C (k_X3_finishFrame l g b N S4 Fl hN f p (wr N (f + p)) (by omega) (by omega) (by omega) (by rw [eS4, up2_f (by decide), eS1, up2_f (by decide), h20]) (by rw [eS4, up2_f (by decide), eS1, up2_f (by decide), h25]) z t hz ht (by rw [show S4 28 f = S 28 f from by rw [eS4, up2_f (by decide), eS1, up2_f (by decide)], eS4, up2_f (by decide), eS1, up2_f (by decide), h41]) (by rw [show S4 28 f = S 28 f from by rw [eS4, up2_f (by decide), eS1, up2_f (by decide)], eS4, up2_f (by decide), eS1, up2_f (by decide), h42])) cf_X3_finishFrame ml_X3_239 ⟨by decide, by decide⟩ ⟨rfl, rfl⟩ rfl (hR.1) rfl hl.1 rfl (Nat.le_of_ble_eq_true rfl) dX3_passFrame_54 hR ⟨Nat.zero_le _, Nat.zero_le _⟩ hS (fun _ h => h) (fun H locs hR hS _ _ => ?_)
        obtain ⟨S5, eS5⟩ : ∃ y, y = s_X3_finishFrame S4 N f p (wr N (f + p)) z t := ⟨_, rfl⟩
        rw [← eS5] at hR
        simp only [Option.toList, List.nil_append]
        have hs : s_X3_passFrame S N f p z t = S5 := (if_pos c24).trans ((if_neg c31).trans ((if_pos c48).trans (by rw [eS5, eS4, eS1])))
        rw [hs]
        exact endv C hr hlk hR hS dX3_passFrame_57

theorem fin_o {S : SX} {N f p j z t g k : Nat} (h : 20 ≤ g) (h1 : g < 41 ∨ 44 < g) : s_X3_finishFrame S N f p j z t g k = S g k := by
  unfold s_X3_finishFrame
  split
  · rw [s_rem_o h1, up2_f (by omega), rcv_o (by omega) (by omega) (by omega)]
  · rw [s_rem_o h1, up2_f (by omega), up2_f (by omega)]
theorem pfr_o {S : SX} {N f p z t g k : Nat} (h : 20 ≤ g) (h1 : g < 41 ∨ 44 < g) (h2 : g ≠ 27) : s_X3_passFrame S N f p z t g k = S g k := by
  unfold s_X3_passFrame
  repeat' split
  all_goals first | (rw [fin_o h h1, up2_f (by omega), up2_f (by omega)]; done) | (rw [fin_o h h1, up2_f (by omega)]; done) | (rw [up2_f (by omega), up2_f (by omega)]; done) | (rw [up2_f (by omega)]; done)
def s_X3_beginFrameOrLeave (S : SX) (N : Nat) (f p L : Nat) : SX := if S 29 f = 0 then (if r_X2_mayBeginSynchronous S (wr N (f + p)) = 0 then (if r_X2_mayBeginAsynchronous S (wr N (f + p)) (S 24 f) = 0 then (s_X3_leave S f (p) L) else (up2 (up2 (up2 S 28 f (nI 0)) 29 f (nI 1)) 27 f (S 43 (5 * (2 * (wr N (f + p)) + 1))))) else (up2 (up2 (up2 S 28 f (nI 1)) 27 f (S 43 (5 * (2 * (wr N (f + p)))))) 9 (wr N (f + p)) ((S 9 (wr N (f + p))) - (S 43 (5 * (2 * (wr N (f + p)))))))) else (if r_X2_mayBeginAsynchronous S (wr N (f + p)) (S 24 f) = 0 then (s_X3_leave S f (p) L) else (up2 (up2 (up2 S 28 f (nI 0)) 29 f (nI 1)) 27 f (S 43 (5 * (2 * (wr N (f + p)) + 1)))))
set_option maxHeartbeats 4000000 in
set_option maxRecDepth 100000 in
theorem k_X3_beginFrameOrLeave (l : Launch) (g : GX) (b N : Nat) (S : SX) (Fl : FX) (hN : N ≤ 6) (f p L : Nat) (hf : f < N) (hp : p < N) (hL : L ≤ N) (hL1 : 1 ≤ L) (h20 : S 20 f = nI f) (h25 : S 25 f = nI p) (h21 : S 21 f = nI L)  : MR l yX3_beginFrameOrLeave (.code yX3_beginFrameOrLeave cX3_beginFrameOrLeave 3 none :: tb) (rmk 2 45) g (RepX g b N S Fl) (RepX g b N (s_X3_beginFrameOrLeave S N f p L) Fl) (AX b N) [.ref b, .ref (aRg b f)] none := by
  refine MR.start RX3 (by decide) rfl (Nat.le_of_ble_eq_true rfl) (fun zp ze zs zm zb zt zc ls C hr hlk hR hS hl => ?_)
  have hl : lv_has ls 3 [(0, .ref b), (1, .ref (aRg b f))] := hl
  refine lv_aload_n C.1 C.2.1 dX3_beginFrameOrLeave_0 rfl (lv_at hl 0 rfl) ?_
  refine lv_aload_n C.1 C.2.1 dX3_beginFrameOrLeave_1 rfl (lv_at hl 1 rfl) ?_
  refine lv_aload_n C.1 C.2.1 dX3_beginFrameOrLeave_2 rfl (lv_at hl 1 rfl) ?_
  refine xR_get (j := f) C hR (by omega) 5 (by decide) rfl fl_X3_84 (v := .int (S 25 f)) rfl dX3_beginFrameOrLeave_3 ?_
  refine lv_re (y := nI p) (by rw [h25]) ?_
  refine cxV (b := b) (As := [.ref (aRg b f), .int (nI p)]) (rest := []) (ci := 3) (q := (RX3, TX3, 6)) C (k_X3_stationAt l g b N S Fl hN (f) (p) (by omega) (by omega) (by rw [h20])) cf_X3_stationAt ml_X3_178 ⟨by decide, by decide⟩ ⟨rfl, rfl⟩ rfl (hR.1) rfl hl.1 rfl (Nat.le_of_ble_eq_true rfl) dX3_beginFrameOrLeave_6 hR ⟨Nat.zero_le _, Nat.zero_le _⟩ hS (fun _ h => h) (fun H locs hR hS _ _ => ?_)
  simp only [Option.toList, List.cons_append, List.nil_append]
  have hw5 := wr_lt (N := N) (i := f + p) (by omega)
  refine lv_astore_n (lv' := [(2, .ref (aSt b (wr N (f + p)))), (0, .ref b), (1, .ref (aRg b f))]) C.1 C.2.1 dX3_beginFrameOrLeave_9 rfl hl (by decide) rfl (fun ls hl => ?_)
  refine lv_aload_n C.1 C.2.1 dX3_beginFrameOrLeave_10 rfl (lv_at hl 2 rfl) ?_
  refine xR_get (j := f) C hR (by omega) 9 (by decide) rfl fl_X3_236 (v := .int (S 29 f)) rfl dX3_beginFrameOrLeave_11 ?_
  refine lv_if_ne (tgt := 58) C.1 C.2.1 dX3_beginFrameOrLeave_14 (by decide) (fun c14 => ?_) (fun c14 => ?_)
  · skip
    refine lv_aload_n C.1 C.2.1 dX3_beginFrameOrLeave_58 rfl (lv_at hl 0 rfl) ?_
    refine lv_aload_n C.1 C.2.1 dX3_beginFrameOrLeave_59 rfl (lv_at hl 2 rfl) ?_
    refine xR_get (j := f) C hR (by omega) 4 (by decide) rfl fl_X3_94 (v := .int (S 24 f)) rfl dX3_beginFrameOrLeave_60 ?_
    refine cxV (b := aSt b (wr N (f + p))) (As := [.int (S 24 f)]) (rest := []) (ci := 2) (q := (RX2, TX2, 19)) C (k_X2_mayBeginAsynchronous l g b N S Fl hN (wr N (f + p)) (by omega) (S 24 f)) cf_X2_mayBeginAsynchronous ml_X3_256 ⟨by decide, by decide⟩ ⟨rfl, rfl⟩ rfl (hR.2.2.2.2.1 _ (by omega)) rfl hl.1 rfl (Nat.le_of_ble_eq_true rfl) dX3_beginFrameOrLeave_63 hR ⟨Nat.zero_le _, Nat.zero_le _⟩ hS (fun _ h => h) (fun H locs hR hS _ _ => ?_)
    simp only [Option.toList, List.cons_append, List.nil_append]
    refine lv_if_eq (tgt := 95) C.1 C.2.1 dX3_beginFrameOrLeave_66 (by decide) (fun c66 => ?_) (fun c66 => ?_)
    · skip
      refine lv_aload_n C.1 C.2.1 dX3_beginFrameOrLeave_95 rfl (lv_at hl 1 rfl) ?_
      refine lv_aload_n C.1 C.2.1 dX3_beginFrameOrLeave_96 rfl (lv_at hl 2 rfl) ?_
      refine cxV (b := b) (As := [.ref (aRg b f)]) (rest := []) (ci := 3) (q := (RX3, TX3, 6)) C (k_X3_leave l g b N S Fl hN f (p) L (by omega) (by omega) (by omega) (by omega) (by rw [h25]) (by rw [h21])) cf_X3_leave ml_X3_211 ⟨by decide, by decide⟩ ⟨rfl, rfl⟩ rfl (hR.1) rfl hl.1 rfl (Nat.le_of_ble_eq_true rfl) dX3_beginFrameOrLeave_97 hR ⟨Nat.zero_le _, Nat.zero_le _⟩ hS (fun _ h => h) (fun H locs hR hS _ _ => ?_)
      obtain ⟨S1, eS1⟩ : ∃ y, y = s_X3_leave S f (p) L := ⟨_, rfl⟩
      rw [← eS1] at hR
      simp only [Option.toList, List.nil_append]
      have hs : s_X3_beginFrameOrLeave S N f p L = S1 := (if_neg c14).trans ((if_pos c66).trans (by rw [eS1]))
      rw [hs]
      exact endv C hr hlk hR hS dX3_beginFrameOrLeave_100
    · skip
      refine lv_aload_n C.1 C.2.1 dX3_beginFrameOrLeave_69 rfl (lv_at hl 2 rfl) ?_
      refine lv_iconst (v := nI 0) C.1 C.2.1 dX3_beginFrameOrLeave_70 (by decide) ?_
      refine xR_put (j := f) C hR hS (by omega) 8 (by decide) rfl rfl fl_X3_182 (nz_n (Or.inl rfl)) (nz_f (Or.inl rfl)) rgS_8 dX3_beginFrameOrLeave_71 (fun S2 H locs eS2 hR hS => ?_)
      refine lv_aload_n C.1 C.2.1 dX3_beginFrameOrLeave_74 rfl (lv_at hl 2 rfl) ?_
      refine lv_iconst (v := nI 1) C.1 C.2.1 dX3_beginFrameOrLeave_75 (by decide) ?_
      refine xR_put (j := f) C hR hS (by omega) 9 (by decide) rfl rfl fl_X3_236 (nz_n (Or.inr rfl)) (nz_f (Or.inr rfl)) rgS_9 dX3_beginFrameOrLeave_76 (fun S3 H locs eS3 hR hS => ?_)
      refine lv_aload_n C.1 C.2.1 dX3_beginFrameOrLeave_79 rfl (lv_at hl 2 rfl) ?_
      refine lv_aload_n C.1 C.2.1 dX3_beginFrameOrLeave_80 rfl (lv_at hl 0 rfl) ?_
      refine xS_get (j := wr N (f + p)) C hR (by omega) 1 (by decide) rfl fl_X3_116 (v := .ref (aQ b (2 * (wr N (f + p)) + 1))) rfl dX3_beginFrameOrLeave_81 ?_
      refine xQ_get (q := 2 * (wr N (f + p)) + 1) C hR (by omega) 1 (by decide) rfl fl_X3_243 (v := .ref (aQA b (2 * (wr N (f + p)) + 1) 1)) rfl dX3_beginFrameOrLeave_84 ?_
      refine lv_iconst (v := nI 0) C.1 C.2.1 dX3_beginFrameOrLeave_87 (by decide) ?_
      refine xA_ld (q := 2 * (wr N (f + p)) + 1) (i := 1) (k := 0) C hR (by omega) (by decide) (by omega) (v := S3 43 (5 * (2 * (wr N (f + p)) + 1))) rfl dX3_beginFrameOrLeave_88 ?_
      refine lv_re (y := S 43 (5 * (2 * (wr N (f + p)) + 1))) (by rw [eS3, up2_f (by decide), eS2, up2_f (by decide)]) ?_
      refine xR_put (j := f) C hR hS (by omega) 7 (by decide) rfl rfl fl_X3_91 rfl rfl rgS_7 dX3_beginFrameOrLeave_89 (fun S4 H locs eS4 hR hS => ?_)
      refine lv_goto (tgt := 100) C.1 C.2.1 dX3_beginFrameOrLeave_92 (by decide) ?_
      have hs : s_X3_beginFrameOrLeave S N f p L = S4 := (if_neg c14).trans ((if_neg c66).trans (by rw [eS4, eS3, eS2]))
      rw [hs]
      exact endv C hr hlk hR hS dX3_beginFrameOrLeave_100
  · skip
    refine lv_aload_n C.1 C.2.1 dX3_beginFrameOrLeave_17 rfl (lv_at hl 0 rfl) ?_
    refine cxV (b := aSt b (wr N (f + p))) (As := []) (rest := []) (ci := 2) (q := (RX2, TX2, 19)) C (k_X2_mayBeginSynchronous l g b N S Fl hN (wr N (f + p)) (by omega)) cf_X2_mayBeginSynchronous ml_X3_253 ⟨by decide, by decide⟩ ⟨rfl, rfl⟩ rfl (hR.2.2.2.2.1 _ (by omega)) rfl hl.1 rfl (Nat.le_of_ble_eq_true rfl) dX3_beginFrameOrLeave_18 hR ⟨Nat.zero_le _, Nat.zero_le _⟩ hS (fun _ h => h) (fun H locs hR hS _ _ => ?_)
    simp only [Option.toList, List.cons_append, List.nil_append]
    refine lv_if_eq (tgt := 58) C.1 C.2.1 dX3_beginFrameOrLeave_21 (by decide) (fun c21 => ?_) (fun c21 => ?_)
    · skip
      refine lv_aload_n C.1 C.2.1 dX3_beginFrameOrLeave_58 rfl (lv_at hl 0 rfl) ?_
      refine lv_aload_n C.1 C.2.1 dX3_beginFrameOrLeave_59 rfl (lv_at hl 2 rfl) ?_
      refine xR_get (j := f) C hR (by omega) 4 (by decide) rfl fl_X3_94 (v := .int (S 24 f)) rfl dX3_beginFrameOrLeave_60 ?_
      refine cxV (b := aSt b (wr N (f + p))) (As := [.int (S 24 f)]) (rest := []) (ci := 2) (q := (RX2, TX2, 19)) C (k_X2_mayBeginAsynchronous l g b N S Fl hN (wr N (f + p)) (by omega) (S 24 f)) cf_X2_mayBeginAsynchronous ml_X3_256 ⟨by decide, by decide⟩ ⟨rfl, rfl⟩ rfl (hR.2.2.2.2.1 _ (by omega)) rfl hl.1 rfl (Nat.le_of_ble_eq_true rfl) dX3_beginFrameOrLeave_63 hR ⟨Nat.zero_le _, Nat.zero_le _⟩ hS (fun _ h => h) (fun H locs hR hS _ _ => ?_)
      simp only [Option.toList, List.cons_append, List.nil_append]
      refine lv_if_eq (tgt := 95) C.1 C.2.1 dX3_beginFrameOrLeave_66 (by decide) (fun c66 => ?_) (fun c66 => ?_)
      · skip
        refine lv_aload_n C.1 C.2.1 dX3_beginFrameOrLeave_95 rfl (lv_at hl 1 rfl) ?_
        refine lv_aload_n C.1 C.2.1 dX3_beginFrameOrLeave_96 rfl (lv_at hl 2 rfl) ?_
        refine cxV (b := b) (As := [.ref (aRg b f)]) (rest := []) (ci := 3) (q := (RX3, TX3, 6)) C (k_X3_leave l g b N S Fl hN f (p) L (by omega) (by omega) (by omega) (by omega) (by rw [h25]) (by rw [h21])) cf_X3_leave ml_X3_211 ⟨by decide, by decide⟩ ⟨rfl, rfl⟩ rfl (hR.1) rfl hl.1 rfl (Nat.le_of_ble_eq_true rfl) dX3_beginFrameOrLeave_97 hR ⟨Nat.zero_le _, Nat.zero_le _⟩ hS (fun _ h => h) (fun H locs hR hS _ _ => ?_)
        obtain ⟨S5, eS5⟩ : ∃ y, y = s_X3_leave S f (p) L := ⟨_, rfl⟩
        rw [← eS5] at hR
        simp only [Option.toList, List.nil_append]
        have hs : s_X3_beginFrameOrLeave S N f p L = S5 := (if_pos c14).trans ((if_pos c21).trans ((if_pos c66).trans (by rw [eS5])))
        rw [hs]
        exact endv C hr hlk hR hS dX3_beginFrameOrLeave_100
      · skip
        refine lv_aload_n C.1 C.2.1 dX3_beginFrameOrLeave_69 rfl (lv_at hl 2 rfl) ?_
        refine lv_iconst (v := nI 0) C.1 C.2.1 dX3_beginFrameOrLeave_70 (by decide) ?_
        refine xR_put (j := f) C hR hS (by omega) 8 (by decide) rfl rfl fl_X3_182 (nz_n (Or.inl rfl)) (nz_f (Or.inl rfl)) rgS_8 dX3_beginFrameOrLeave_71 (fun S6 H locs eS6 hR hS => ?_)
        refine lv_aload_n C.1 C.2.1 dX3_beginFrameOrLeave_74 rfl (lv_at hl 2 rfl) ?_
        refine lv_iconst (v := nI 1) C.1 C.2.1 dX3_beginFrameOrLeave_75 (by decide) ?_
        refine xR_put (j := f) C hR hS (by omega) 9 (by decide) rfl rfl fl_X3_236 (nz_n (Or.inr rfl)) (nz_f (Or.inr rfl)) rgS_9 dX3_beginFrameOrLeave_76 (fun S7 H locs eS7 hR hS => ?_)
        refine lv_aload_n C.1 C.2.1 dX3_beginFrameOrLeave_79 rfl (lv_at hl 2 rfl) ?_
        refine lv_aload_n C.1 C.2.1 dX3_beginFrameOrLeave_80 rfl (lv_at hl 0 rfl) ?_
        refine xS_get (j := wr N (f + p)) C hR (by omega) 1 (by decide) rfl fl_X3_116 (v := .ref (aQ b (2 * (wr N (f + p)) + 1))) rfl dX3_beginFrameOrLeave_81 ?_
        refine xQ_get (q := 2 * (wr N (f + p)) + 1) C hR (by omega) 1 (by decide) rfl fl_X3_243 (v := .ref (aQA b (2 * (wr N (f + p)) + 1) 1)) rfl dX3_beginFrameOrLeave_84 ?_
        refine lv_iconst (v := nI 0) C.1 C.2.1 dX3_beginFrameOrLeave_87 (by decide) ?_
        refine xA_ld (q := 2 * (wr N (f + p)) + 1) (i := 1) (k := 0) C hR (by omega) (by decide) (by omega) (v := S7 43 (5 * (2 * (wr N (f + p)) + 1))) rfl dX3_beginFrameOrLeave_88 ?_
        refine lv_re (y := S 43 (5 * (2 * (wr N (f + p)) + 1))) (by rw [eS7, up2_f (by decide), eS6, up2_f (by decide)]) ?_
        refine xR_put (j := f) C hR hS (by omega) 7 (by decide) rfl rfl fl_X3_91 rfl rfl rgS_7 dX3_beginFrameOrLeave_89 (fun S8 H locs eS8 hR hS => ?_)
        refine lv_goto (tgt := 100) C.1 C.2.1 dX3_beginFrameOrLeave_92 (by decide) ?_
        have hs : s_X3_beginFrameOrLeave S N f p L = S8 := (if_pos c14).trans ((if_pos c21).trans ((if_neg c66).trans (by rw [eS8, eS7, eS6])))
        rw [hs]
        exact endv C hr hlk hR hS dX3_beginFrameOrLeave_100
    · skip
      refine lv_aload_n C.1 C.2.1 dX3_beginFrameOrLeave_24 rfl (lv_at hl 2 rfl) ?_
      refine lv_iconst (v := nI 1) C.1 C.2.1 dX3_beginFrameOrLeave_25 (by decide) ?_
      refine xR_put (j := f) C hR hS (by omega) 8 (by decide) rfl rfl fl_X3_182 (nz_n (Or.inr rfl)) (nz_f (Or.inr rfl)) rgS_8 dX3_beginFrameOrLeave_26 (fun S9 H locs eS9 hR hS => ?_)
      refine lv_aload_n C.1 C.2.1 dX3_beginFrameOrLeave_29 rfl (lv_at hl 2 rfl) ?_
      refine lv_aload_n C.1 C.2.1 dX3_beginFrameOrLeave_30 rfl (lv_at hl 0 rfl) ?_
      refine xS_get (j := wr N (f + p)) C hR (by omega) 0 (by decide) rfl fl_X3_109 (v := .ref (aQ b (2 * (wr N (f + p))))) rfl dX3_beginFrameOrLeave_31 ?_
      refine xQ_get (q := 2 * (wr N (f + p))) C hR (by omega) 1 (by decide) rfl fl_X3_243 (v := .ref (aQA b (2 * (wr N (f + p))) 1)) rfl dX3_beginFrameOrLeave_34 ?_
      refine lv_iconst (v := nI 0) C.1 C.2.1 dX3_beginFrameOrLeave_37 (by decide) ?_
      refine xA_ld (q := 2 * (wr N (f + p))) (i := 1) (k := 0) C hR (by omega) (by decide) (by omega) (v := S9 43 (5 * (2 * (wr N (f + p))))) rfl dX3_beginFrameOrLeave_38 ?_
      refine lv_re (y := S 43 (5 * (2 * (wr N (f + p))))) (by rw [eS9, up2_f (by decide)]) ?_
      refine xR_put (j := f) C hR hS (by omega) 7 (by decide) rfl rfl fl_X3_91 rfl rfl rgS_7 dX3_beginFrameOrLeave_39 (fun S10 H locs eS10 hR hS => ?_)
      refine lv_aload_n C.1 C.2.1 dX3_beginFrameOrLeave_42 rfl (lv_at hl 0 rfl) ?_
      refine lv_dup C.1 C.2.1 dX3_beginFrameOrLeave_43 rfl ?_
      refine xS_get (j := wr N (f + p)) C hR (by omega) 9 (by decide) rfl fl_X3_106 (v := .int (S10 9 (wr N (f + p)))) rfl dX3_beginFrameOrLeave_44 ?_
      refine lv_re (y := S 9 (wr N (f + p))) (by rw [eS10, up2_f (by decide), eS9, up2_f (by decide)]) ?_
      refine lv_aload_n C.1 C.2.1 dX3_beginFrameOrLeave_47 rfl (lv_at hl 2 rfl) ?_
      refine xR_get (j := f) C hR (by omega) 7 (by decide) rfl fl_X3_91 (v := .int (S10 27 f)) rfl dX3_beginFrameOrLeave_48 ?_
      refine lv_re (y := S 43 (5 * (2 * (wr N (f + p))))) (by rw [eS10, up2_eq]) ?_
      refine lv_isub C.1 C.2.1 dX3_beginFrameOrLeave_51 ?_
      refine xS_put (j := wr N (f + p)) C hR hS (by omega) 9 (by decide) rfl rfl fl_X3_106 rfl rfl stS_9 dX3_beginFrameOrLeave_52 (fun S11 H locs eS11 hR hS => ?_)
      refine lv_goto (tgt := 100) C.1 C.2.1 dX3_beginFrameOrLeave_55 (by decide) ?_
      have hs : s_X3_beginFrameOrLeave S N f p L = S11 := (if_pos c14).trans ((if_neg c21).trans (by rw [eS11, eS10, eS9]))
      rw [hs]
      exact endv C hr hlk hR hS dX3_beginFrameOrLeave_100

def s_X3_passToken (S : SX) (N : Nat) (f p L z t : Nat) : SX := if S 26 f ≤ 0 then (if S 27 f ≤ 0 then (if S 27 f = 0 then (s_X3_beginFrameOrLeave S N f p L) else S) else (if (s_X3_passFrame S N f p z t) 27 f = 0 then (s_X3_beginFrameOrLeave (s_X3_passFrame S N f p z t) N f p L) else (s_X3_passFrame S N f p z t))) else (if (S 26 f) - (nI 1) = 0 then (s_X3_arrive (up2 S 26 f ((S 26 f) - (nI 1))) N f p L) else (up2 S 26 f ((S 26 f) - (nI 1))))
def f_X3_passToken (S : SX) (Fl : FX) (N : Nat) (f p L z t : Nat) : FX := if S 26 f ≤ 0 then Fl else (if (S 26 f) - (nI 1) = 0 then (f_X3_arrive (up2 S 26 f ((S 26 f) - (nI 1))) Fl N f p L) else Fl)
set_option maxHeartbeats 4000000 in
set_option maxRecDepth 100000 in
theorem k_X3_passToken (l : Launch) (g : GX) (b N : Nat) (S : SX) (Fl : FX) (hN : N ≤ 6) (f p L : Nat) (hf : f < N) (hp : p < N) (hL : L ≤ N) (hL1 : 1 ≤ L) (h20 : S 20 f = nI f) (h25 : S 25 f = nI p) (h21 : S 21 f = nI L) (z t : Nat) (hz : z ≤ 5) (ht : t < N) (h41 : S 41 (qof (wr N (f + p)) (S 28 f)) = nI z) (h42 : S 42 (5 * qof (wr N (f + p)) (S 28 f)) = nI t) (hF : fOK (Fl (wr N (f + p))))  : MR l yX3_passToken (.code yX3_passToken cX3_passToken 2 none :: tb) (rmk 3 70) g (RepX g b N S Fl) (RepX g b N (s_X3_passToken S N f p L z t) (f_X3_passToken S Fl N f p L z t)) (AX b N) [.ref b, .ref (aRg b f)] none := by
  refine MR.start RX3 (by decide) rfl (Nat.le_of_ble_eq_true rfl) (fun zp ze zs zm zb zt zc ls C hr hlk hR hS hl => ?_)
  have hl : lv_has ls 2 [(0, .ref b), (1, .ref (aRg b f))] := hl
  refine lv_aload_n C.1 C.2.1 dX3_passToken_0 rfl (lv_at hl 1 rfl) ?_
  refine xR_get (j := f) C hR (by omega) 6 (by decide) rfl fl_X3_81 (v := .int (S 26 f)) rfl dX3_passToken_1 ?_
  refine lv_if_le (tgt := 30) C.1 C.2.1 dX3_passToken_4 (by decide) (fun c4 => ?_) (fun c4 => ?_)
  · skip
    refine lv_aload_n C.1 C.2.1 dX3_passToken_30 rfl (lv_at hl 1 rfl) ?_
    refine xR_get (j := f) C hR (by omega) 7 (by decide) rfl fl_X3_91 (v := .int (S 27 f)) rfl dX3_passToken_31 ?_
    refine lv_if_le (tgt := 42) C.1 C.2.1 dX3_passToken_34 (by decide) (fun c34 => ?_) (fun c34 => ?_)
    · skip
      refine lv_aload_n C.1 C.2.1 dX3_passToken_42 rfl (lv_at hl 1 rfl) ?_
      refine xR_get (j := f) C hR (by omega) 7 (by decide) rfl fl_X3_91 (v := .int (S 27 f)) rfl dX3_passToken_43 ?_
      refine lv_if_ne (tgt := 54) C.1 C.2.1 dX3_passToken_46 (by decide) (fun c46 => ?_) (fun c46 => ?_)
      · skip
        have hs : s_X3_passToken S N f p L z t = S := (if_pos c4).trans ((if_pos c34).trans ((if_neg c46).trans (rfl)))
        rw [hs]
        have hf : f_X3_passToken S Fl N f p L z t = Fl := (if_pos c4).trans (rfl)
        rw [hf]
        exact endv C hr hlk hR hS dX3_passToken_54
      · skip
        refine lv_aload_n C.1 C.2.1 dX3_passToken_49 rfl (lv_at hl 0 rfl) ?_
        refine lv_aload_n C.1 C.2.1 dX3_passToken_50 rfl (lv_at hl 1 rfl) ?_
        refine cxV (b := b) (As := [.ref (aRg b f)]) (rest := []) (ci := 3) (q := (RX3, TX3, 6)) C (k_X3_beginFrameOrLeave l g b N S Fl hN f p L (by omega) (by omega) (by omega) (by omega) (by rw [h20]) (by rw [h25]) (by rw [h21])) cf_X3_beginFrameOrLeave ml_X3_223 ⟨by decide, by decide⟩ ⟨rfl, rfl⟩ rfl (hR.1) rfl hl.1 rfl (Nat.le_of_ble_eq_true rfl) dX3_passToken_51 hR ⟨Nat.zero_le _, Nat.zero_le _⟩ hS (fun _ h => h) (fun H locs hR hS _ _ => ?_)
        obtain ⟨S1, eS1⟩ : ∃ y, y = s_X3_beginFrameOrLeave S N f p L := ⟨_, rfl⟩
        rw [← eS1] at hR
        simp only [Option.toList, List.nil_append]
        have hs : s_X3_passToken S N f p L z t = S1 := (if_pos c4).trans ((if_pos c34).trans ((if_pos c46).trans (by rw [eS1])))
        rw [hs]
        have hf : f_X3_passToken S Fl N f p L z t = Fl := (if_pos c4).trans (rfl)
        rw [hf]
        exact endv C hr hlk hR hS dX3_passToken_54
    · skip
      refine lv_aload_n C.1 C.2.1 dX3_passToken_37 rfl (lv_at hl 0 rfl) ?_
      refine lv_aload_n C.1 C.2.1 dX3_passToken_38 rfl (lv_at hl 1 rfl) ?_
      refine cxV (b := b) (As := [.ref (aRg b f)]) (rest := []) (ci := 3) (q := (RX3, TX3, 6)) C (k_X3_passFrame l g b N S Fl hN f p L (by omega) (by omega) (by omega) (by omega) (by rw [h20]) (by rw [h25]) (by rw [h21]) z t hz ht (by rw [h41]) (by rw [h42])) cf_X3_passFrame ml_X3_220 ⟨by decide, by decide⟩ ⟨rfl, rfl⟩ rfl (hR.1) rfl hl.1 rfl (Nat.le_of_ble_eq_true rfl) dX3_passToken_39 hR ⟨Nat.zero_le _, Nat.zero_le _⟩ hS (fun _ h => h) (fun H locs hR hS _ _ => ?_)
      obtain ⟨S2, eS2⟩ : ∃ y, y = s_X3_passFrame S N f p z t := ⟨_, rfl⟩
      rw [← eS2] at hR
      simp only [Option.toList, List.nil_append]
      refine lv_aload_n C.1 C.2.1 dX3_passToken_42 rfl (lv_at hl 1 rfl) ?_
      refine xR_get (j := f) C hR (by omega) 7 (by decide) rfl fl_X3_91 (v := .int (S2 27 f)) rfl dX3_passToken_43 ?_
      refine lv_if_ne (tgt := 54) C.1 C.2.1 dX3_passToken_46 (by decide) (fun c46 => ?_) (fun c46 => ?_)
      · skip
        rw [eS2] at c46
        have hs : s_X3_passToken S N f p L z t = S2 := (if_pos c4).trans ((if_neg c34).trans ((if_neg c46).trans (by rw [eS2])))
        rw [hs]
        have hf : f_X3_passToken S Fl N f p L z t = Fl := (if_pos c4).trans (rfl)
        rw [hf]
        exact endv C hr hlk hR hS dX3_passToken_54
      · skip
        rw [eS2] at c46
        refine lv_aload_n C.1 C.2.1 dX3_passToken_49 rfl (lv_at hl 0 rfl) ?_
        refine lv_aload_n C.1 C.2.1 dX3_passToken_50 rfl (lv_at hl 1 rfl) ?_
        refine cxV (b := b) (As := [.ref (aRg b f)]) (rest := []) (ci := 3) (q := (RX3, TX3, 6)) C (k_X3_beginFrameOrLeave l g b N S2 Fl hN f p L (by omega) (by omega) (by omega) (by omega) (by rw [eS2, pfr_o (by decide) (by decide) (by decide), h20]) (by rw [eS2, pfr_o (by decide) (by decide) (by decide), h25]) (by rw [eS2, pfr_o (by decide) (by decide) (by decide), h21])) cf_X3_beginFrameOrLeave ml_X3_223 ⟨by decide, by decide⟩ ⟨rfl, rfl⟩ rfl (hR.1) rfl hl.1 rfl (Nat.le_of_ble_eq_true rfl) dX3_passToken_51 hR ⟨Nat.zero_le _, Nat.zero_le _⟩ hS (fun _ h => h) (fun H locs hR hS _ _ => ?_)
        obtain ⟨S3, eS3⟩ : ∃ y, y = s_X3_beginFrameOrLeave S2 N f p L := ⟨_, rfl⟩
        rw [← eS3] at hR
        simp only [Option.toList, List.nil_append]
        have hs : s_X3_passToken S N f p L z t = S3 := (if_pos c4).trans ((if_neg c34).trans ((if_pos c46).trans (by rw [eS3, eS2])))
        rw [hs]
        have hf : f_X3_passToken S Fl N f p L z t = Fl := (if_pos c4).trans (rfl)
        rw [hf]
        exact endv C hr hlk hR hS dX3_passToken_54
  · skip
    refine lv_aload_n C.1 C.2.1 dX3_passToken_7 rfl (lv_at hl 1 rfl) ?_
    refine lv_dup C.1 C.2.1 dX3_passToken_8 rfl ?_
    refine xR_get (j := f) C hR (by omega) 6 (by decide) rfl fl_X3_81 (v := .int (S 26 f)) rfl dX3_passToken_9 ?_
    refine lv_iconst (v := nI 1) C.1 C.2.1 dX3_passToken_12 (by decide) ?_
    refine lv_isub C.1 C.2.1 dX3_passToken_13 ?_
    refine xR_put (j := f) C hR hS (by omega) 6 (by decide) rfl rfl fl_X3_81 rfl rfl rgS_6 dX3_passToken_14 (fun S4 H locs eS4 hR hS => ?_)
    refine lv_aload_n C.1 C.2.1 dX3_passToken_17 rfl (lv_at hl 1 rfl) ?_
    refine xR_get (j := f) C hR (by omega) 6 (by decide) rfl fl_X3_81 (v := .int (S4 26 f)) rfl dX3_passToken_18 ?_
    refine lv_re (y := (S 26 f) - (nI 1)) (by rw [eS4, up2_eq]) ?_
    refine lv_if_ne (tgt := 29) C.1 C.2.1 dX3_passToken_21 (by decide) (fun c21 => ?_) (fun c21 => ?_)
    · skip
      have hs : s_X3_passToken S N f p L z t = S4 := (if_neg c4).trans ((if_neg c21).trans (by rw [eS4]))
      rw [hs]
      have hf : f_X3_passToken S Fl N f p L z t = Fl := (if_neg c4).trans ((if_neg c21).trans (rfl))
      rw [hf]
      exact endv C hr hlk hR hS dX3_passToken_29
    · skip
      refine lv_aload_n C.1 C.2.1 dX3_passToken_24 rfl (lv_at hl 0 rfl) ?_
      refine lv_aload_n C.1 C.2.1 dX3_passToken_25 rfl (lv_at hl 1 rfl) ?_
      refine cxV (b := b) (As := [.ref (aRg b f)]) (rest := []) (ci := 3) (q := (RX3, TX3, 6)) C (k_X3_arrive l g b N S4 Fl hN f p L (by omega) (by omega) (by omega) (by omega) (by rw [eS4, up2_f (by decide), h20]) (by rw [eS4, up2_f (by decide), h25]) (by rw [eS4, up2_f (by decide), h21]) hF) cf_X3_arrive ml_X3_217 ⟨by decide, by decide⟩ ⟨rfl, rfl⟩ rfl (hR.1) rfl hl.1 rfl (Nat.le_of_ble_eq_true rfl) dX3_passToken_26 hR ⟨Nat.zero_le _, Nat.zero_le _⟩ hS (fun _ h => h) (fun H locs hR hS _ _ => ?_)
      obtain ⟨S5, eS5⟩ : ∃ y, y = s_X3_arrive S4 N f p L := ⟨_, rfl⟩
      rw [← eS5] at hR
      obtain ⟨F6, eF6⟩ : ∃ y, y = f_X3_arrive S4 Fl N f p L := ⟨_, rfl⟩
      rw [← eF6] at hR
      simp only [Option.toList, List.nil_append]
      have hs : s_X3_passToken S N f p L z t = S5 := (if_neg c4).trans ((if_pos c21).trans (by rw [eS5, eS4]))
      rw [hs]
      have hf : f_X3_passToken S Fl N f p L z t = F6 := (if_neg c4).trans ((if_pos c21).trans (by rw [eF6]; try simp only [eS5, eS4, true_and]))
      rw [hf]
      exact endv C hr hlk hR hS dX3_passToken_29

def s_X3_passClaim (S : SX) (N : Nat) (f p L : Nat) : SX := if (S 23 f) - (nI 1) = 0 then (s_X3_leave (opr N (up2 S 23 f ((S 23 f) - (nI 1))) f L) f (wins N (up2 S 23 f ((S 23 f) - (nI 1))) f (L - 1) 1 0) L) else (up2 S 23 f ((S 23 f) - (nI 1)))
set_option maxHeartbeats 4000000 in
set_option maxRecDepth 100000 in
theorem k_X3_passClaim (l : Launch) (g : GX) (b N : Nat) (S : SX) (Fl : FX) (hN : N ≤ 6) (f p L : Nat) (hf : f < N) (hp : p < N) (hL : L ≤ N) (hL1 : 1 ≤ L) (h20 : S 20 f = nI f) (h25 : S 25 f = nI p) (h21 : S 21 f = nI L)  : MR l yX3_passClaim (.code yX3_passClaim cX3_passClaim 2 none :: tb) (rmk 4 94) g (RepX g b N S Fl) (RepX g b N (s_X3_passClaim S N f p L) Fl) (AX b N) [.ref b, .ref (aRg b f)] none := by
  refine MR.start RX3 (by decide) rfl (Nat.le_of_ble_eq_true rfl) (fun zp ze zs zm zb zt zc ls C hr hlk hR hS hl => ?_)
  have hl : lv_has ls 2 [(0, .ref b), (1, .ref (aRg b f))] := hl
  refine lv_aload_n C.1 C.2.1 dX3_passClaim_0 rfl (lv_at hl 1 rfl) ?_
  refine lv_dup C.1 C.2.1 dX3_passClaim_1 rfl ?_
  refine xR_get (j := f) C hR (by omega) 3 (by decide) rfl fl_X3_175 (v := .int (S 23 f)) rfl dX3_passClaim_2 ?_
  refine lv_iconst (v := nI 1) C.1 C.2.1 dX3_passClaim_5 (by decide) ?_
  refine lv_isub C.1 C.2.1 dX3_passClaim_6 ?_
  refine xR_put (j := f) C hR hS (by omega) 3 (by decide) rfl rfl fl_X3_175 rfl rfl rgS_3 dX3_passClaim_7 (fun S1 H locs eS1 hR hS => ?_)
  refine lv_aload_n C.1 C.2.1 dX3_passClaim_10 rfl (lv_at hl 1 rfl) ?_
  refine xR_get (j := f) C hR (by omega) 3 (by decide) rfl fl_X3_175 (v := .int (S1 23 f)) rfl dX3_passClaim_11 ?_
  refine lv_re (y := (S 23 f) - (nI 1)) (by rw [eS1, up2_eq]) ?_
  refine lv_if_ne (tgt := 22) C.1 C.2.1 dX3_passClaim_14 (by decide) (fun c14 => ?_) (fun c14 => ?_)
  · skip
    have hs : s_X3_passClaim S N f p L = S1 := (if_neg c14).trans (by rw [eS1])
    rw [hs]
    exact endv C hr hlk hR hS dX3_passClaim_22
  · skip
    refine lv_aload_n C.1 C.2.1 dX3_passClaim_17 rfl (lv_at hl 0 rfl) ?_
    refine lv_aload_n C.1 C.2.1 dX3_passClaim_18 rfl (lv_at hl 1 rfl) ?_
    refine cxV (b := b) (As := [.ref (aRg b f)]) (rest := []) (ci := 3) (q := (RX3, TX3, 6)) C (k_X3_operate l g b N S1 Fl hN f p L (by omega) (by omega) (by omega) (by omega) (by rw [eS1, up2_f (by decide), h20]) (by rw [eS1, up2_f (by decide), h25]) (by rw [eS1, up2_f (by decide), h21])) cf_X3_operate ml_X3_201 ⟨by decide, by decide⟩ ⟨rfl, rfl⟩ rfl (hR.1) rfl hl.1 rfl (Nat.le_of_ble_eq_true rfl) dX3_passClaim_19 hR ⟨Nat.zero_le _, Nat.zero_le _⟩ hS (fun _ h => h) (fun H locs hR hS _ _ => ?_)
    obtain ⟨S2, eS2⟩ : ∃ y, y = s_X3_leave (opr N S1 f L) f (wins N S1 f (L - 1) 1 0) L := ⟨_, rfl⟩
    rw [← eS2] at hR
    simp only [Option.toList, List.nil_append]
    have hs : s_X3_passClaim S N f p L = S2 := (if_pos c14).trans (by rw [eS2, eS1])
    rw [hs]
    exact endv C hr hlk hR hS dX3_passClaim_22

def s_X3_passTick (S : SX) (N : Nat) (f p L z t : Nat) : SX := if r_X1_claims S f = 0 then (if L ≤ 0 then S else (if bI (rtB N f (S 24 f) L 0 S) = 0 then (s_X3_claim (rtS N f (S 24 f) L 0 S) N f p z L) else (s_X3_passToken (rtS N f (S 24 f) L 0 S) N f p L z t))) else (s_X3_passClaim S N f p L)
def f_X3_passTick (S : SX) (Fl : FX) (N : Nat) (f p L z t : Nat) : FX := if r_X1_claims S f = 0 then (if L ≤ 0 then Fl else (if bI (rtB N f (S 24 f) L 0 S) = 0 then Fl else (f_X3_passToken (rtS N f (S 24 f) L 0 S) Fl N f p L z t))) else Fl
set_option maxHeartbeats 4000000 in
set_option maxRecDepth 100000 in
theorem k_X3_passTick (l : Launch) (g : GX) (b N : Nat) (S : SX) (Fl : FX) (hN : N ≤ 6) (f p L : Nat) (hf : f < N) (hp : p < N) (hL : L ≤ N) (h20 : S 20 f = nI f) (h25 : S 25 f = nI p) (h21 : S 21 f = nI L) (z t : Nat) (hz : z ≤ 5) (ht : t < N) (h41 : S 41 (qof (wr N (f + p)) (S 28 f)) = nI z) (h42 : S 42 (5 * qof (wr N (f + p)) (S 28 f)) = nI t) (hF : fOK (Fl (wr N (f + p)))) (hcl : ¬ r_X1_claims S f = 0 → 1 ≤ L)  : MR l yX3_passTick (.code yX3_passTick cX3_passTick 2 none :: tb) (rmk 5 115) g (RepX g b N S Fl) (RepX g b N (s_X3_passTick S N f p L z t) (f_X3_passTick S Fl N f p L z t)) (AX b N) [.ref b, .ref (aRg b f)] none := by
  refine MR.start RX3 (by decide) rfl (Nat.le_of_ble_eq_true rfl) (fun zp ze zs zm zb zt zc ls C hr hlk hR hS hl => ?_)
  have hl : lv_has ls 2 [(0, .ref b), (1, .ref (aRg b f))] := hl
  refine lv_aload_n C.1 C.2.1 dX3_passTick_0 rfl (lv_at hl 1 rfl) ?_
  refine cxV (b := aRg b f) (As := []) (rest := []) (ci := 1) (q := (RX1, TX1, 10)) C (k_X1_claims l g b N S Fl hN (f) (by omega)) cf_X1_claims ml_X3_77 ⟨by decide, by decide⟩ ⟨rfl, rfl⟩ rfl (hR.2.2.2.2.2.1 _ (by omega)) rfl hl.1 rfl (Nat.le_of_ble_eq_true rfl) dX3_passTick_1 hR ⟨Nat.zero_le _, Nat.zero_le _⟩ hS (fun _ h => h) (fun H locs hR hS _ _ => ?_)
  simp only [Option.toList, List.cons_append, List.nil_append]
  refine lv_if_eq (tgt := 15) C.1 C.2.1 dX3_passTick_4 (by decide) (fun c4 => ?_) (fun c4 => ?_)
  · skip
    refine lv_aload_n C.1 C.2.1 dX3_passTick_15 rfl (lv_at hl 1 rfl) ?_
    refine xR_get (j := f) C hR (by omega) 1 (by decide) rfl fl_X3_153 (v := .int (S 21 f)) rfl dX3_passTick_16 ?_
    refine lv_re (y := nI L) (by rw [h21]) ?_
    refine lv_if_le (tgt := 43) C.1 C.2.1 dX3_passTick_19 (by decide) (fun c19 => ?_) (fun c19 => ?_)
    · skip
      have c19 : L ≤ 0 := (nI_leI (a := L) (b := 0) (by omega) (by omega)).mp c19
      have hs : s_X3_passTick S N f p L z t = S := (if_pos c4).trans ((if_pos c19).trans (rfl))
      rw [hs]
      have hf : f_X3_passTick S Fl N f p L z t = Fl := (if_pos c4).trans ((if_pos c19).trans (rfl))
      rw [hf]
      exact endv C hr hlk hR hS dX3_passTick_43
    · skip
      have c19 : ¬ (L ≤ 0) := mt (nI_leI (a := L) (b := 0) (by omega) (by omega)).mpr c19
      refine lv_aload_n C.1 C.2.1 dX3_passTick_22 rfl (lv_at hl 0 rfl) ?_
      refine lv_aload_n C.1 C.2.1 dX3_passTick_23 rfl (lv_at hl 1 rfl) ?_
      refine cxV (b := b) (As := [.ref (aRg b f)]) (rest := []) (ci := 3) (q := (RX3, TX3, 6)) C (k_X3_runTimers l g b N S Fl hN f p L (by omega) (by omega) (by omega) (by omega) (by rw [h20]) (by rw [h25]) (by rw [h21])) cf_X3_runTimers ml_X3_191 ⟨by decide, by decide⟩ ⟨rfl, rfl⟩ rfl (hR.1) rfl hl.1 rfl (Nat.le_of_ble_eq_true rfl) dX3_passTick_24 hR ⟨Nat.zero_le _, Nat.zero_le _⟩ hS (fun _ h => h) (fun H locs hR hS _ _ => ?_)
      obtain ⟨S1, eS1⟩ : ∃ y, y = rtS N f (S 24 f) L 0 S := ⟨_, rfl⟩
      rw [← eS1] at hR
      simp only [Option.toList, List.cons_append, List.nil_append]
      refine lv_if_eq (tgt := 38) C.1 C.2.1 dX3_passTick_27 (by decide) (fun c27 => ?_) (fun c27 => ?_)
      · skip
        refine lv_aload_n C.1 C.2.1 dX3_passTick_38 rfl (lv_at hl 0 rfl) ?_
        refine lv_aload_n C.1 C.2.1 dX3_passTick_39 rfl (lv_at hl 1 rfl) ?_
        refine cxV (b := b) (As := [.ref (aRg b f)]) (rest := []) (ci := 3) (q := (RX3, TX3, 6)) C (k_X3_claim l g b N S1 Fl hN f p z (by omega) (by omega) (by omega) (by rw [eS1, rtS_o (by decide) (by decide) (by decide), h20]) (by rw [eS1, rtS_o (by decide) (by decide) (by decide), h25]) (by rw [show S1 28 f = S 28 f from by rw [eS1, rtS_o (by decide) (by decide) (by decide)], eS1, rtS_o (by decide) (by decide) (by decide), h41]) L (by omega) (by rw [eS1, rtS_o (by decide) (by decide) (by decide), h21])) cf_X3_claim ml_X3_198 ⟨by decide, by decide⟩ ⟨rfl, rfl⟩ rfl (hR.1) rfl hl.1 rfl (Nat.le_of_ble_eq_true rfl) dX3_passTick_40 hR ⟨Nat.zero_le _, Nat.zero_le _⟩ hS (fun _ h => h) (fun H locs hR hS _ _ => ?_)
        obtain ⟨S2, eS2⟩ : ∃ y, y = s_X3_claim S1 N f p z L := ⟨_, rfl⟩
        rw [← eS2] at hR
        simp only [Option.toList, List.nil_append]
        have hs : s_X3_passTick S N f p L z t = S2 := (if_pos c4).trans ((if_neg c19).trans ((if_pos c27).trans (by rw [eS2, eS1])))
        rw [hs]
        have hf : f_X3_passTick S Fl N f p L z t = Fl := (if_pos c4).trans ((if_neg c19).trans ((if_pos c27).trans (rfl)))
        rw [hf]
        exact endv C hr hlk hR hS dX3_passTick_43
      · skip
        refine lv_aload_n C.1 C.2.1 dX3_passTick_30 rfl (lv_at hl 0 rfl) ?_
        refine lv_aload_n C.1 C.2.1 dX3_passTick_31 rfl (lv_at hl 1 rfl) ?_
        refine cxV (b := b) (As := [.ref (aRg b f)]) (rest := []) (ci := 3) (q := (RX3, TX3, 6)) C (k_X3_passToken l g b N S1 Fl hN f p L (by omega) (by omega) (by omega) (by omega) (by rw [eS1, rtS_o (by decide) (by decide) (by decide), h20]) (by rw [eS1, rtS_o (by decide) (by decide) (by decide), h25]) (by rw [eS1, rtS_o (by decide) (by decide) (by decide), h21]) z t hz ht (by rw [show S1 28 f = S 28 f from by rw [eS1, rtS_o (by decide) (by decide) (by decide)], eS1, rtS_o (by decide) (by decide) (by decide), h41]) (by rw [show S1 28 f = S 28 f from by rw [eS1, rtS_o (by decide) (by decide) (by decide)], eS1, rtS_o (by decide) (by decide) (by decide), h42]) hF) cf_X3_passToken ml_X3_195 ⟨by decide, by decide⟩ ⟨rfl, rfl⟩ rfl (hR.1) rfl hl.1 rfl (Nat.le_of_ble_eq_true rfl) dX3_passTick_32 hR ⟨Nat.zero_le _, Nat.zero_le _⟩ hS (fun _ h => h) (fun H locs hR hS _ _ => ?_)
        obtain ⟨S3, eS3⟩ : ∃ y, y = s_X3_passToken S1 N f p L z t := ⟨_, rfl⟩
        rw [← eS3] at hR
        obtain ⟨F4, eF4⟩ : ∃ y, y = f_X3_passToken S1 Fl N f p L z t := ⟨_, rfl⟩
        rw [← eF4] at hR
        simp only [Option.toList, List.nil_append]
        refine lv_goto (tgt := 43) C.1 C.2.1 dX3_passTick_35 (by decide) ?_
        have hs : s_X3_passTick S N f p L z t = S3 := (if_pos c4).trans ((if_neg c19).trans ((if_neg c27).trans (by rw [eS3, eS1])))
        rw [hs]
        have hf : f_X3_passTick S Fl N f p L z t = F4 := (if_pos c4).trans ((if_neg c19).trans ((if_neg c27).trans (by rw [eF4]; try simp only [eS3, eS1, true_and])))
        rw [hf]
        exact endv C hr hlk hR hS dX3_passTick_43
  · skip
    refine lv_aload_n C.1 C.2.1 dX3_passTick_7 rfl (lv_at hl 0 rfl) ?_
    refine lv_aload_n C.1 C.2.1 dX3_passTick_8 rfl (lv_at hl 1 rfl) ?_
    refine cxV (b := b) (As := [.ref (aRg b f)]) (rest := []) (ci := 3) (q := (RX3, TX3, 6)) C (k_X3_passClaim l g b N S Fl hN f p L (by omega) (by omega) (by omega) (hcl c4) (by rw [h20]) (by rw [h25]) (by rw [h21])) cf_X3_passClaim ml_X3_188 ⟨by decide, by decide⟩ ⟨rfl, rfl⟩ rfl (hR.1) rfl hl.1 rfl (Nat.le_of_ble_eq_true rfl) dX3_passTick_9 hR ⟨Nat.zero_le _, Nat.zero_le _⟩ hS (fun _ h => h) (fun H locs hR hS _ _ => ?_)
    obtain ⟨S5, eS5⟩ : ∃ y, y = s_X3_passClaim S N f p L := ⟨_, rfl⟩
    rw [← eS5] at hR
    simp only [Option.toList, List.nil_append]
    refine lv_goto (tgt := 43) C.1 C.2.1 dX3_passTick_12 (by decide) ?_
    have hs : s_X3_passTick S N f p L z t = S5 := (if_neg c4).trans (by rw [eS5])
    rw [hs]
    have hf : f_X3_passTick S Fl N f p L z t = Fl := (if_neg c4).trans (rfl)
    rw [hf]
    exact endv C hr hlk hR hS dX3_passTick_43

