def bad (N : Nat) (x : Int32) : Prop := ∀ j, j < N → ¬ x = nI j
theorem st_or {N : Nat} (hN : N ≤ 6) (x : Int32) : bad N x ∨ ∃ j, j < N ∧ x = nI j := by
  by_cases h : ∃ j, j < N ∧ x = nI j
  · exact Or.inr h
  · exact Or.inl (fun j hj e => h ⟨j, hj, e⟩)
theorem ist_ok {N : Nat} {S : SX} (hN : N ≤ 6) {j : Nat} (hj : j < N) : r_X3_isStation S N (nI j) = nI 1 := by
  unfold r_X3_isStation
  rw [if_neg (nI_pos (by omega)), if_neg (nI_ge hj (by omega))]
theorem ist_bad {N : Nat} {S : SX} (hN : N ≤ 6) {x : Int32} (h : bad N x) : r_X3_isStation S N x = nI 0 := by
  unfold r_X3_isStation
  rcases pk_ix x (n := N) (by omega) with h1 | h1 | ⟨j, h1, h2⟩
  · rw [if_pos h1]
  · split
    · rfl
    · rfl
  · exact absurd h2 (h j h1)
theorem kis_ok (l : Launch) (g : GX) (b N : Nat) (S : SX) (Fl : FX) (hN : N ≤ 6) (j : Nat) (hj : j < N) : MR l yX3_isStation (.code yX3_isStation cX3_isStation 2 (some .boolean) :: tb) (rmk 0 0) g (RepX g b N S Fl) (RepX g b N S Fl) (AX b N) [.ref b, .int (nI j)] (some (.int (nI 1))) := by
  have h := k_X3_isStation l g b N S Fl hN (nI j)
  rw [ist_ok hN hj] at h
  exact h
theorem kis_bad (l : Launch) (g : GX) (b N : Nat) (S : SX) (Fl : FX) (hN : N ≤ 6) (x : Int32) (hb : bad N x) : MR l yX3_isStation (.code yX3_isStation cX3_isStation 2 (some .boolean) :: tb) (rmk 0 0) g (RepX g b N S Fl) (RepX g b N S Fl) (AX b N) [.ref b, .int x] (some (.int (nI 0))) := by
  have h := k_X3_isStation l g b N S Fl hN x
  rw [ist_bad hN hb] at h
  exact h

def s_X0_addLast (S : SX) (q z : Nat) (t n pr : Int32) : SX := if z < 5 then (up2 (up2 (up2 (up2 S 42 (5 * q + z) t) 43 (5 * q + z) n) 44 (5 * q + z) pr) 41 q (nI (z + 1))) else S
def r_X0_addLast (S : SX) (q z : Nat) (t n pr : Int32) : Int32 := if z < 5 then (nI 1) else (nI 0)
set_option maxHeartbeats 4000000 in
set_option maxRecDepth 100000 in
theorem k_X0_addLast (l : Launch) (g : GX) (b N : Nat) (S : SX) (Fl : FX) (hN : N ≤ 6) (q z : Nat) (hq : q < 2 * N) (hz : z ≤ 5) (h41 : S 41 q = nI z) (t n pr : Int32)  : MR l yX0_addLast (.code yX0_addLast cX0_addLast 4 (some .boolean) :: tb) (rmk 0 0) g (RepX g b N S Fl) (RepX g b N (s_X0_addLast S q z t n pr) Fl) (AX b N) [.ref (aQ b q), .int t, .int n, .int pr] (some (.int (r_X0_addLast S q z t n pr))) := by
  refine MR.start RX0 (by decide) rfl (Nat.le_of_ble_eq_true rfl) (fun zp ze zs zm zb zt zc ls C hr hlk hR hS hl => ?_)
  have hl : lv_has ls 4 [(0, .ref (aQ b q)), (1, .int t), (2, .int n), (3, .int pr)] := hl
  refine lv_aload_n C.1 C.2.1 dX0_addLast_0 rfl (lv_at hl 0 rfl) ?_
  refine xQ_get (q := q) C hR (by omega) 3 (by decide) rfl fl_X0_21 (v := .int (S 41 q)) rfl dX0_addLast_1 ?_
  refine lv_re (y := nI z) (by rw [h41]) ?_
  refine lv_iconst (v := nI 5) C.1 C.2.1 dX0_addLast_4 (by decide) ?_
  refine lv_icmp_lt (tgt := 10) C.1 C.2.1 dX0_addLast_5 (by decide) (fun c5 => ?_) (fun c5 => ?_)
  · skip
    have c5 : z < 5 := (nI_ltI (a := z) (b := 5) (by omega) (by omega)).mp c5
    refine lv_aload_n C.1 C.2.1 dX0_addLast_10 rfl (lv_at hl 0 rfl) ?_
    refine xQ_get (q := q) C hR (by omega) 0 (by decide) rfl fl_X0_9 (v := .ref (aQA b q 0)) rfl dX0_addLast_11 ?_
    refine lv_aload_n C.1 C.2.1 dX0_addLast_14 rfl (lv_at hl 0 rfl) ?_
    refine xQ_get (q := q) C hR (by omega) 3 (by decide) rfl fl_X0_21 (v := .int (S 41 q)) rfl dX0_addLast_15 ?_
    refine lv_re (y := nI z) (by rw [h41]) ?_
    refine lv_iload_n C.1 C.2.1 dX0_addLast_18 rfl (lv_at hl 1 rfl) ?_
    refine xA_st (q := q) (i := 0) (k := z) C hR hS (by omega) (by decide) (by omega) dX0_addLast_19 (fun S1 H locs eS1 hR hS => ?_)
    refine lv_aload_n C.1 C.2.1 dX0_addLast_20 rfl (lv_at hl 0 rfl) ?_
    refine xQ_get (q := q) C hR (by omega) 1 (by decide) rfl fl_X0_15 (v := .ref (aQA b q 1)) rfl dX0_addLast_21 ?_
    refine lv_aload_n C.1 C.2.1 dX0_addLast_24 rfl (lv_at hl 0 rfl) ?_
    refine xQ_get (q := q) C hR (by omega) 3 (by decide) rfl fl_X0_21 (v := .int (S1 41 q)) rfl dX0_addLast_25 ?_
    refine lv_re (y := nI z) (by rw [eS1, up2_f (by decide), h41]) ?_
    refine lv_iload_n C.1 C.2.1 dX0_addLast_28 rfl (lv_at hl 2 rfl) ?_
    refine xA_st (q := q) (i := 1) (k := z) C hR hS (by omega) (by decide) (by omega) dX0_addLast_29 (fun S2 H locs eS2 hR hS => ?_)
    refine lv_aload_n C.1 C.2.1 dX0_addLast_30 rfl (lv_at hl 0 rfl) ?_
    refine xQ_get (q := q) C hR (by omega) 2 (by decide) rfl fl_X0_18 (v := .ref (aQA b q 2)) rfl dX0_addLast_31 ?_
    refine lv_aload_n C.1 C.2.1 dX0_addLast_34 rfl (lv_at hl 0 rfl) ?_
    refine xQ_get (q := q) C hR (by omega) 3 (by decide) rfl fl_X0_21 (v := .int (S2 41 q)) rfl dX0_addLast_35 ?_
    refine lv_re (y := nI z) (by rw [eS2, up2_f (by decide), eS1, up2_f (by decide), h41]) ?_
    refine lv_iload_n C.1 C.2.1 dX0_addLast_38 rfl (lv_at hl 3 rfl) ?_
    refine xA_st (q := q) (i := 2) (k := z) C hR hS (by omega) (by decide) (by omega) dX0_addLast_39 (fun S3 H locs eS3 hR hS => ?_)
    refine lv_aload_n C.1 C.2.1 dX0_addLast_40 rfl (lv_at hl 0 rfl) ?_
    refine lv_dup C.1 C.2.1 dX0_addLast_41 rfl ?_
    refine xQ_get (q := q) C hR (by omega) 3 (by decide) rfl fl_X0_21 (v := .int (S3 41 q)) rfl dX0_addLast_42 ?_
    refine lv_re (y := nI z) (by rw [eS3, up2_f (by decide), eS2, up2_f (by decide), eS1, up2_f (by decide), h41]) ?_
    refine lv_iconst (v := nI 1) C.1 C.2.1 dX0_addLast_45 (by decide) ?_
    refine n_iadd (z := z + 1) C dX0_addLast_46 (by omega) ?_
    refine xQ_put (q := q) C hR hS (by omega) fl_X0_21 dX0_addLast_47 (fun S4 H locs eS4 hR hS => ?_)
    refine lv_iconst (v := nI 1) C.1 C.2.1 dX0_addLast_50 (by decide) ?_
    have hs : s_X0_addLast S q z t n pr = S4 := (if_pos c5).trans (by rw [eS4, eS3, eS2, eS1])
    rw [hs]
    have hv : r_X0_addLast S q z t n pr = nI 1 := (if_pos c5).trans (rfl)
    rw [hv]
    exact endz C hr hlk (Or.inr rfl) hR hS dX0_addLast_51
  · skip
    have c5 : ¬ (z < 5) := mt (nI_ltI (a := z) (b := 5) (by omega) (by omega)).mpr c5
    refine lv_iconst (v := nI 0) C.1 C.2.1 dX0_addLast_8 (by decide) ?_
    have hs : s_X0_addLast S q z t n pr = S := (if_neg c5).trans (rfl)
    rw [hs]
    have hv : r_X0_addLast S q z t n pr = nI 0 := (if_neg c5).trans (rfl)
    rw [hv]
    exact endz C hr hlk (Or.inl rfl) hR hS dX0_addLast_9

set_option maxHeartbeats 4000000 in
set_option maxRecDepth 100000 in
theorem k_X3_bid_bad (l : Launch) (g : GX) (b N : Nat) (S : SX) (Fl : FX) (hN : N ≤ 6) (x t : Int32) (hb : bad N x)  : MR l yX3_bid (.code yX3_bid cX3_bid 3 (some .boolean) :: tb) (rmk 1 21) g (RepX g b N S Fl) (RepX g b N S Fl) (AX b N) [.ref b, .int x, .int t] (some (.int (nI 0))) := by
  refine MR.start RX3 (by decide) rfl (Nat.le_of_ble_eq_true rfl) (fun zp ze zs zm zb zt zc ls C hr hlk hR hS hl => ?_)
  have hl : lv_has ls 3 [(0, .ref b), (1, .int x), (2, .int t)] := hl
  refine lv_aload_n C.1 C.2.1 dX3_bid_0 rfl (lv_at hl 0 rfl) ?_
  refine lv_iload_n C.1 C.2.1 dX3_bid_1 rfl (lv_at hl 1 rfl) ?_
  refine cxV (b := b) (As := [.int x]) (rest := []) (ci := 3) (q := (RX3, TX3, 6)) C (kis_bad l g b N S Fl hN x hb) cf_X3_isStation ml_X3_36 ⟨by decide, by decide⟩ ⟨rfl, rfl⟩ rfl (hR.1) rfl hl.1 rfl (Nat.le_of_ble_eq_true rfl) dX3_bid_2 hR ⟨Nat.zero_le _, Nat.zero_le _⟩ hS (fun _ h => h) (fun H locs hR hS _ _ => ?_)
  simp only [Option.toList, List.cons_append, List.nil_append]
  refine lv_if_eq (tgt := 19) C.1 C.2.1 dX3_bid_5 (by decide) (fun c5 => ?_) (fun c5 => ?_)
  · skip
    refine lv_iconst (v := nI 0) C.1 C.2.1 dX3_bid_19 (by decide) ?_
    skip
    exact endz C hr hlk (Or.inl rfl) hR hS dX3_bid_20
  · skip
    exact absurd c5 (by decide)

def s_X3_bid_ok (S : SX) (j : Nat) (t : Int32) : SX := if t < nI 4 then S else (if t ≤ nI 60 then (up2 S 4 j t) else S)
def r_X3_bid_ok (S : SX) (j : Nat) (t : Int32) : Int32 := if t < nI 4 then (nI 0) else (if t ≤ nI 60 then (nI 1) else (nI 0))
set_option maxHeartbeats 4000000 in
set_option maxRecDepth 100000 in
theorem k_X3_bid_ok (l : Launch) (g : GX) (b N : Nat) (S : SX) (Fl : FX) (hN : N ≤ 6) (j : Nat) (hj : j < N) (t : Int32)  : MR l yX3_bid (.code yX3_bid cX3_bid 3 (some .boolean) :: tb) (rmk 1 21) g (RepX g b N S Fl) (RepX g b N (s_X3_bid_ok S j t) Fl) (AX b N) [.ref b, .int (nI j), .int t] (some (.int (r_X3_bid_ok S j t))) := by
  refine MR.start RX3 (by decide) rfl (Nat.le_of_ble_eq_true rfl) (fun zp ze zs zm zb zt zc ls C hr hlk hR hS hl => ?_)
  have hl : lv_has ls 3 [(0, .ref b), (1, .int (nI j)), (2, .int t)] := hl
  refine lv_aload_n C.1 C.2.1 dX3_bid_0 rfl (lv_at hl 0 rfl) ?_
  refine lv_iload_n C.1 C.2.1 dX3_bid_1 rfl (lv_at hl 1 rfl) ?_
  refine cxV (b := b) (As := [.int (nI j)]) (rest := []) (ci := 3) (q := (RX3, TX3, 6)) C (kis_ok l g b N S Fl hN j (by omega)) cf_X3_isStation ml_X3_36 ⟨by decide, by decide⟩ ⟨rfl, rfl⟩ rfl (hR.1) rfl hl.1 rfl (Nat.le_of_ble_eq_true rfl) dX3_bid_2 hR ⟨Nat.zero_le _, Nat.zero_le _⟩ hS (fun _ h => h) (fun H locs hR hS _ _ => ?_)
  simp only [Option.toList, List.cons_append, List.nil_append]
  refine lv_if_eq (tgt := 19) C.1 C.2.1 dX3_bid_5 (by decide) (fun c5 => ?_) (fun c5 => ?_)
  · skip
    exact absurd c5 (by decide)
  · skip
    refine lv_iload_n C.1 C.2.1 dX3_bid_8 rfl (lv_at hl 2 rfl) ?_
    refine lv_iconst (v := nI 4) C.1 C.2.1 dX3_bid_9 (by decide) ?_
    refine lv_icmp_lt (tgt := 19) C.1 C.2.1 dX3_bid_10 (by decide) (fun c10 => ?_) (fun c10 => ?_)
    · skip
      refine lv_iconst (v := nI 0) C.1 C.2.1 dX3_bid_19 (by decide) ?_
      have hs : s_X3_bid_ok S j t = S := (if_pos c10).trans (rfl)
      rw [hs]
      have hv : r_X3_bid_ok S j t = nI 0 := (if_pos c10).trans (rfl)
      rw [hv]
      exact endz C hr hlk (Or.inl rfl) hR hS dX3_bid_20
    · skip
      refine lv_iload_n C.1 C.2.1 dX3_bid_13 rfl (lv_at hl 2 rfl) ?_
      refine lv_bipush (v := nI 60) C.1 C.2.1 dX3_bid_14 (by decide) ?_
      refine lv_icmp_le (tgt := 21) C.1 C.2.1 dX3_bid_16 (by decide) (fun c16 => ?_) (fun c16 => ?_)
      · skip
        refine lv_aload_n C.1 C.2.1 dX3_bid_21 rfl (lv_at hl 0 rfl) ?_
        refine xO_get C hR 1 (by decide) rfl fl_X3_15 (v := .ref (b + 1)) rfl dX3_bid_22 ?_
        refine lv_iload_n C.1 C.2.1 dX3_bid_25 rfl (lv_at hl 1 rfl) ?_
        refine xS_ald (j := j) C hR (by omega) hN dX3_bid_26 ?_
        refine lv_iload_n C.1 C.2.1 dX3_bid_27 rfl (lv_at hl 2 rfl) ?_
        refine xS_put (j := j) C hR hS (by omega) 4 (by decide) rfl rfl fl_X3_40 rfl rfl stS_4 dX3_bid_28 (fun S1 H locs eS1 hR hS => ?_)
        refine lv_iconst (v := nI 1) C.1 C.2.1 dX3_bid_31 (by decide) ?_
        have hs : s_X3_bid_ok S j t = S1 := (if_neg c10).trans ((if_pos c16).trans (by rw [eS1]))
        rw [hs]
        have hv : r_X3_bid_ok S j t = nI 1 := (if_neg c10).trans ((if_pos c16).trans (rfl))
        rw [hv]
        exact endz C hr hlk (Or.inr rfl) hR hS dX3_bid_32
      · skip
        refine lv_iconst (v := nI 0) C.1 C.2.1 dX3_bid_19 (by decide) ?_
        have hs : s_X3_bid_ok S j t = S := (if_neg c10).trans ((if_neg c16).trans (rfl))
        rw [hs]
        have hv : r_X3_bid_ok S j t = nI 0 := (if_neg c10).trans ((if_neg c16).trans (rfl))
        rw [hv]
        exact endz C hr hlk (Or.inl rfl) hR hS dX3_bid_20

set_option maxHeartbeats 4000000 in
set_option maxRecDepth 100000 in
theorem k_X3_allot_bad (l : Launch) (g : GX) (b N : Nat) (S : SX) (Fl : FX) (hN : N ≤ 6) (x t : Int32) (hb : bad N x)  : MR l yX3_allot (.code yX3_allot cX3_allot 3 (some .boolean) :: tb) (rmk 1 21) g (RepX g b N S Fl) (RepX g b N S Fl) (AX b N) [.ref b, .int x, .int t] (some (.int (nI 0))) := by
  refine MR.start RX3 (by decide) rfl (Nat.le_of_ble_eq_true rfl) (fun zp ze zs zm zb zt zc ls C hr hlk hR hS hl => ?_)
  have hl : lv_has ls 3 [(0, .ref b), (1, .int x), (2, .int t)] := hl
  refine lv_aload_n C.1 C.2.1 dX3_allot_0 rfl (lv_at hl 0 rfl) ?_
  refine lv_iload_n C.1 C.2.1 dX3_allot_1 rfl (lv_at hl 1 rfl) ?_
  refine cxV (b := b) (As := [.int x]) (rest := []) (ci := 3) (q := (RX3, TX3, 6)) C (kis_bad l g b N S Fl hN x hb) cf_X3_isStation ml_X3_36 ⟨by decide, by decide⟩ ⟨rfl, rfl⟩ rfl (hR.1) rfl hl.1 rfl (Nat.le_of_ble_eq_true rfl) dX3_allot_2 hR ⟨Nat.zero_le _, Nat.zero_le _⟩ hS (fun _ h => h) (fun H locs hR hS _ _ => ?_)
  simp only [Option.toList, List.cons_append, List.nil_append]
  refine lv_if_eq (tgt := 18) C.1 C.2.1 dX3_allot_5 (by decide) (fun c5 => ?_) (fun c5 => ?_)
  · skip
    refine lv_iconst (v := nI 0) C.1 C.2.1 dX3_allot_18 (by decide) ?_
    skip
    exact endz C hr hlk (Or.inl rfl) hR hS dX3_allot_19
  · skip
    exact absurd c5 (by decide)

def s_X3_allot_ok (S : SX) (j : Nat) (t : Int32) : SX := if t < 0 then S else (if t ≤ nI 20 then (up2 S 5 j t) else S)
def r_X3_allot_ok (S : SX) (j : Nat) (t : Int32) : Int32 := if t < 0 then (nI 0) else (if t ≤ nI 20 then (nI 1) else (nI 0))
set_option maxHeartbeats 4000000 in
set_option maxRecDepth 100000 in
theorem k_X3_allot_ok (l : Launch) (g : GX) (b N : Nat) (S : SX) (Fl : FX) (hN : N ≤ 6) (j : Nat) (hj : j < N) (t : Int32)  : MR l yX3_allot (.code yX3_allot cX3_allot 3 (some .boolean) :: tb) (rmk 1 21) g (RepX g b N S Fl) (RepX g b N (s_X3_allot_ok S j t) Fl) (AX b N) [.ref b, .int (nI j), .int t] (some (.int (r_X3_allot_ok S j t))) := by
  refine MR.start RX3 (by decide) rfl (Nat.le_of_ble_eq_true rfl) (fun zp ze zs zm zb zt zc ls C hr hlk hR hS hl => ?_)
  have hl : lv_has ls 3 [(0, .ref b), (1, .int (nI j)), (2, .int t)] := hl
  refine lv_aload_n C.1 C.2.1 dX3_allot_0 rfl (lv_at hl 0 rfl) ?_
  refine lv_iload_n C.1 C.2.1 dX3_allot_1 rfl (lv_at hl 1 rfl) ?_
  refine cxV (b := b) (As := [.int (nI j)]) (rest := []) (ci := 3) (q := (RX3, TX3, 6)) C (kis_ok l g b N S Fl hN j (by omega)) cf_X3_isStation ml_X3_36 ⟨by decide, by decide⟩ ⟨rfl, rfl⟩ rfl (hR.1) rfl hl.1 rfl (Nat.le_of_ble_eq_true rfl) dX3_allot_2 hR ⟨Nat.zero_le _, Nat.zero_le _⟩ hS (fun _ h => h) (fun H locs hR hS _ _ => ?_)
  simp only [Option.toList, List.cons_append, List.nil_append]
  refine lv_if_eq (tgt := 18) C.1 C.2.1 dX3_allot_5 (by decide) (fun c5 => ?_) (fun c5 => ?_)
  · skip
    exact absurd c5 (by decide)
  · skip
    refine lv_iload_n C.1 C.2.1 dX3_allot_8 rfl (lv_at hl 2 rfl) ?_
    refine lv_if_lt (tgt := 18) C.1 C.2.1 dX3_allot_9 (by decide) (fun c9 => ?_) (fun c9 => ?_)
    · skip
      refine lv_iconst (v := nI 0) C.1 C.2.1 dX3_allot_18 (by decide) ?_
      have hs : s_X3_allot_ok S j t = S := (if_pos c9).trans (rfl)
      rw [hs]
      have hv : r_X3_allot_ok S j t = nI 0 := (if_pos c9).trans (rfl)
      rw [hv]
      exact endz C hr hlk (Or.inl rfl) hR hS dX3_allot_19
    · skip
      refine lv_iload_n C.1 C.2.1 dX3_allot_12 rfl (lv_at hl 2 rfl) ?_
      refine lv_bipush (v := nI 20) C.1 C.2.1 dX3_allot_13 (by decide) ?_
      refine lv_icmp_le (tgt := 20) C.1 C.2.1 dX3_allot_15 (by decide) (fun c15 => ?_) (fun c15 => ?_)
      · skip
        refine lv_aload_n C.1 C.2.1 dX3_allot_20 rfl (lv_at hl 0 rfl) ?_
        refine xO_get C hR 1 (by decide) rfl fl_X3_15 (v := .ref (b + 1)) rfl dX3_allot_21 ?_
        refine lv_iload_n C.1 C.2.1 dX3_allot_24 rfl (lv_at hl 1 rfl) ?_
        refine xS_ald (j := j) C hR (by omega) hN dX3_allot_25 ?_
        refine lv_iload_n C.1 C.2.1 dX3_allot_26 rfl (lv_at hl 2 rfl) ?_
        refine xS_put (j := j) C hR hS (by omega) 5 (by decide) rfl rfl fl_X3_43 rfl rfl stS_5 dX3_allot_27 (fun S1 H locs eS1 hR hS => ?_)
        refine lv_iconst (v := nI 1) C.1 C.2.1 dX3_allot_30 (by decide) ?_
        have hs : s_X3_allot_ok S j t = S1 := (if_neg c9).trans ((if_pos c15).trans (by rw [eS1]))
        rw [hs]
        have hv : r_X3_allot_ok S j t = nI 1 := (if_neg c9).trans ((if_pos c15).trans (rfl))
        rw [hv]
        exact endz C hr hlk (Or.inr rfl) hR hS dX3_allot_31
      · skip
        refine lv_iconst (v := nI 0) C.1 C.2.1 dX3_allot_18 (by decide) ?_
        have hs : s_X3_allot_ok S j t = S := (if_neg c9).trans ((if_neg c15).trans (rfl))
        rw [hs]
        have hv : r_X3_allot_ok S j t = nI 0 := (if_neg c9).trans ((if_neg c15).trans (rfl))
        rw [hv]
        exact endz C hr hlk (Or.inl rfl) hR hS dX3_allot_19

theorem al_01 {S : SX} {q z : Nat} {t n pr : Int32} : r_X0_addLast S q z t n pr = 0 ∨ r_X0_addLast S q z t n pr = 1 := by
  unfold r_X0_addLast
  split
  · exact Or.inr rfl
  · exact Or.inl rfl
set_option maxHeartbeats 4000000 in
set_option maxRecDepth 100000 in
theorem k_X3_send_bad (l : Launch) (g : GX) (b N : Nat) (S : SX) (Fl : FX) (hN : N ≤ 6) (x y n pr : Int32) (hb : bad N x)  : MR l yX3_send (.code yX3_send cX3_send 5 (some .boolean) :: tb) (rmk 1 23) g (RepX g b N S Fl) (RepX g b N S Fl) (AX b N) [.ref b, .int x, .int y, .int n, .int pr] (some (.int (nI 0))) := by
  refine MR.start RX3 (by decide) rfl (Nat.le_of_ble_eq_true rfl) (fun zp ze zs zm zb zt zc ls C hr hlk hR hS hl => ?_)
  have hl : lv_has ls 5 [(0, .ref b), (1, .int x), (2, .int y), (3, .int n), (4, .int pr)] := hl
  refine lv_aload_n C.1 C.2.1 dX3_send_0 rfl (lv_at hl 0 rfl) ?_
  refine lv_iload_n C.1 C.2.1 dX3_send_1 rfl (lv_at hl 1 rfl) ?_
  refine cxV (b := b) (As := [.int x]) (rest := []) (ci := 3) (q := (RX3, TX3, 6)) C (kis_bad l g b N S Fl hN x hb) cf_X3_isStation ml_X3_36 ⟨by decide, by decide⟩ ⟨rfl, rfl⟩ rfl (hR.1) rfl hl.1 rfl (Nat.le_of_ble_eq_true rfl) dX3_send_2 hR ⟨Nat.zero_le _, Nat.zero_le _⟩ hS (fun _ h => h) (fun H locs hR hS _ _ => ?_)
  simp only [Option.toList, List.cons_append, List.nil_append]
  refine lv_if_eq (tgt := 21) C.1 C.2.1 dX3_send_5 (by decide) (fun c5 => ?_) (fun c5 => ?_)
  · skip
    refine lv_iconst (v := nI 0) C.1 C.2.1 dX3_send_21 (by decide) ?_
    skip
    exact endz C hr hlk (Or.inl rfl) hR hS dX3_send_22
  · skip
    exact absurd c5 (by decide)

set_option maxHeartbeats 4000000 in
set_option maxRecDepth 100000 in
theorem k_X3_send_bad2 (l : Launch) (g : GX) (b N : Nat) (S : SX) (Fl : FX) (hN : N ≤ 6) (j : Nat) (hj : j < N) (y n pr : Int32) (hb : bad N y)  : MR l yX3_send (.code yX3_send cX3_send 5 (some .boolean) :: tb) (rmk 1 23) g (RepX g b N S Fl) (RepX g b N S Fl) (AX b N) [.ref b, .int (nI j), .int y, .int n, .int pr] (some (.int (nI 0))) := by
  refine MR.start RX3 (by decide) rfl (Nat.le_of_ble_eq_true rfl) (fun zp ze zs zm zb zt zc ls C hr hlk hR hS hl => ?_)
  have hl : lv_has ls 5 [(0, .ref b), (1, .int (nI j)), (2, .int y), (3, .int n), (4, .int pr)] := hl
  refine lv_aload_n C.1 C.2.1 dX3_send_0 rfl (lv_at hl 0 rfl) ?_
  refine lv_iload_n C.1 C.2.1 dX3_send_1 rfl (lv_at hl 1 rfl) ?_
  refine cxV (b := b) (As := [.int (nI j)]) (rest := []) (ci := 3) (q := (RX3, TX3, 6)) C (kis_ok l g b N S Fl hN j (by omega)) cf_X3_isStation ml_X3_36 ⟨by decide, by decide⟩ ⟨rfl, rfl⟩ rfl (hR.1) rfl hl.1 rfl (Nat.le_of_ble_eq_true rfl) dX3_send_2 hR ⟨Nat.zero_le _, Nat.zero_le _⟩ hS (fun _ h => h) (fun H locs hR hS _ _ => ?_)
  simp only [Option.toList, List.cons_append, List.nil_append]
  refine lv_if_eq (tgt := 21) C.1 C.2.1 dX3_send_5 (by decide) (fun c5 => ?_) (fun c5 => ?_)
  · skip
    exact absurd c5 (by decide)
  · skip
    refine lv_aload_n C.1 C.2.1 dX3_send_8 rfl (lv_at hl 0 rfl) ?_
    refine lv_iload_n C.1 C.2.1 dX3_send_9 rfl (lv_at hl 2 rfl) ?_
    refine cxV (b := b) (As := [.int y]) (rest := []) (ci := 3) (q := (RX3, TX3, 6)) C (kis_bad l g b N S Fl hN y hb) cf_X3_isStation ml_X3_36 ⟨by decide, by decide⟩ ⟨rfl, rfl⟩ rfl (hR.1) rfl hl.1 rfl (Nat.le_of_ble_eq_true rfl) dX3_send_10 hR ⟨Nat.zero_le _, Nat.zero_le _⟩ hS (fun _ h => h) (fun H locs hR hS _ _ => ?_)
    simp only [Option.toList, List.cons_append, List.nil_append]
    refine lv_if_eq (tgt := 21) C.1 C.2.1 dX3_send_13 (by decide) (fun c13 => ?_) (fun c13 => ?_)
    · skip
      refine lv_iconst (v := nI 0) C.1 C.2.1 dX3_send_21 (by decide) ?_
      skip
      exact endz C hr hlk (Or.inl rfl) hR hS dX3_send_22
    · skip
      exact absurd c13 (by decide)

def s_X3_send_ok (S : SX) (j t : Nat) (n pr : Int32) (z0 z1 : Nat) : SX := if j = t then S else (if n < nI 1 then S else (if nI 10 < n then S else (if pr < 0 then S else (if pr ≤ nI 3 then (if pr = nI 3 then (s_X0_addLast S (qof j (nI 1)) z1 (nI t) n pr) else (s_X0_addLast S (qof j (nI 0)) z0 (nI t) n pr)) else S))))
def r_X3_send_ok (S : SX) (j t : Nat) (n pr : Int32) (z0 z1 : Nat) : Int32 := if j = t then (nI 0) else (if n < nI 1 then (nI 0) else (if nI 10 < n then (nI 0) else (if pr < 0 then (nI 0) else (if pr ≤ nI 3 then (if pr = nI 3 then (r_X0_addLast S (qof j (nI 1)) z1 (nI t) n pr) else (r_X0_addLast S (qof j (nI 0)) z0 (nI t) n pr)) else (nI 0)))))
set_option maxHeartbeats 4000000 in
set_option maxRecDepth 100000 in
theorem k_X3_send_ok (l : Launch) (g : GX) (b N : Nat) (S : SX) (Fl : FX) (hN : N ≤ 6) (j : Nat) (hj : j < N) (t : Nat) (ht : t < N) (n pr : Int32) (z0 z1 : Nat) (hz0 : z0 ≤ 5) (hz1 : z1 ≤ 5) (h41a : S 41 (qof j (nI 1)) = nI z1) (h41b : S 41 (qof j (nI 0)) = nI z0)  : MR l yX3_send (.code yX3_send cX3_send 5 (some .boolean) :: tb) (rmk 1 23) g (RepX g b N S Fl) (RepX g b N (s_X3_send_ok S j t n pr z0 z1) Fl) (AX b N) [.ref b, .int (nI j), .int (nI t), .int n, .int pr] (some (.int (r_X3_send_ok S j t n pr z0 z1))) := by
  refine MR.start RX3 (by decide) rfl (Nat.le_of_ble_eq_true rfl) (fun zp ze zs zm zb zt zc ls C hr hlk hR hS hl => ?_)
  have hl : lv_has ls 5 [(0, .ref b), (1, .int (nI j)), (2, .int (nI t)), (3, .int n), (4, .int pr)] := hl
  refine lv_aload_n C.1 C.2.1 dX3_send_0 rfl (lv_at hl 0 rfl) ?_
  refine lv_iload_n C.1 C.2.1 dX3_send_1 rfl (lv_at hl 1 rfl) ?_
  refine cxV (b := b) (As := [.int (nI j)]) (rest := []) (ci := 3) (q := (RX3, TX3, 6)) C (kis_ok l g b N S Fl hN j (by omega)) cf_X3_isStation ml_X3_36 ⟨by decide, by decide⟩ ⟨rfl, rfl⟩ rfl (hR.1) rfl hl.1 rfl (Nat.le_of_ble_eq_true rfl) dX3_send_2 hR ⟨Nat.zero_le _, Nat.zero_le _⟩ hS (fun _ h => h) (fun H locs hR hS _ _ => ?_)
  simp only [Option.toList, List.cons_append, List.nil_append]
  refine lv_if_eq (tgt := 21) C.1 C.2.1 dX3_send_5 (by decide) (fun c5 => ?_) (fun c5 => ?_)
  · skip
    exact absurd c5 (by decide)
  · skip
    refine lv_aload_n C.1 C.2.1 dX3_send_8 rfl (lv_at hl 0 rfl) ?_
    refine lv_iload_n C.1 C.2.1 dX3_send_9 rfl (lv_at hl 2 rfl) ?_
    refine cxV (b := b) (As := [.int (nI t)]) (rest := []) (ci := 3) (q := (RX3, TX3, 6)) C (kis_ok l g b N S Fl hN t (by omega)) cf_X3_isStation ml_X3_36 ⟨by decide, by decide⟩ ⟨rfl, rfl⟩ rfl (hR.1) rfl hl.1 rfl (Nat.le_of_ble_eq_true rfl) dX3_send_10 hR ⟨Nat.zero_le _, Nat.zero_le _⟩ hS (fun _ h => h) (fun H locs hR hS _ _ => ?_)
    simp only [Option.toList, List.cons_append, List.nil_append]
    refine lv_if_eq (tgt := 21) C.1 C.2.1 dX3_send_13 (by decide) (fun c13 => ?_) (fun c13 => ?_)
    · skip
      exact absurd c13 (by decide)
    · skip
      refine lv_iload_n C.1 C.2.1 dX3_send_16 rfl (lv_at hl 1 rfl) ?_
      refine lv_iload_n C.1 C.2.1 dX3_send_17 rfl (lv_at hl 2 rfl) ?_
      refine lv_icmp_ne (tgt := 23) C.1 C.2.1 dX3_send_18 (by decide) (fun c18 => ?_) (fun c18 => ?_)
      · skip
        have c18 : ¬ (j = t) := mt (nI_eq (a := j) (b := t) (by omega) (by omega)).mpr c18
        refine lv_iload_n C.1 C.2.1 dX3_send_23 rfl (lv_at hl 3 rfl) ?_
        refine lv_iconst (v := nI 1) C.1 C.2.1 dX3_send_24 (by decide) ?_
        refine lv_icmp_lt (tgt := 45) C.1 C.2.1 dX3_send_25 (by decide) (fun c25 => ?_) (fun c25 => ?_)
        · skip
          refine lv_iconst (v := nI 0) C.1 C.2.1 dX3_send_45 (by decide) ?_
          have hs : s_X3_send_ok S j t n pr z0 z1 = S := (if_neg c18).trans ((if_pos c25).trans (rfl))
          rw [hs]
          have hv : r_X3_send_ok S j t n pr z0 z1 = nI 0 := (if_neg c18).trans ((if_pos c25).trans (rfl))
          rw [hv]
          exact endz C hr hlk (Or.inl rfl) hR hS dX3_send_46
        · skip
          refine lv_iload_n C.1 C.2.1 dX3_send_28 rfl (lv_at hl 3 rfl) ?_
          refine lv_bipush (v := nI 10) C.1 C.2.1 dX3_send_29 (by decide) ?_
          refine lv_icmp_gt (tgt := 45) C.1 C.2.1 dX3_send_31 (by decide) (fun c31 => ?_) (fun c31 => ?_)
          · skip
            refine lv_iconst (v := nI 0) C.1 C.2.1 dX3_send_45 (by decide) ?_
            have hs : s_X3_send_ok S j t n pr z0 z1 = S := (if_neg c18).trans ((if_neg c25).trans ((if_pos c31).trans (rfl)))
            rw [hs]
            have hv : r_X3_send_ok S j t n pr z0 z1 = nI 0 := (if_neg c18).trans ((if_neg c25).trans ((if_pos c31).trans (rfl)))
            rw [hv]
            exact endz C hr hlk (Or.inl rfl) hR hS dX3_send_46
          · skip
            refine lv_iload C.1 C.2.1 dX3_send_34 (lv_at hl 4 rfl) ?_
            refine lv_if_lt (tgt := 45) C.1 C.2.1 dX3_send_36 (by decide) (fun c36 => ?_) (fun c36 => ?_)
            · skip
              refine lv_iconst (v := nI 0) C.1 C.2.1 dX3_send_45 (by decide) ?_
              have hs : s_X3_send_ok S j t n pr z0 z1 = S := (if_neg c18).trans ((if_neg c25).trans ((if_neg c31).trans ((if_pos c36).trans (rfl))))
              rw [hs]
              have hv : r_X3_send_ok S j t n pr z0 z1 = nI 0 := (if_neg c18).trans ((if_neg c25).trans ((if_neg c31).trans ((if_pos c36).trans (rfl))))
              rw [hv]
              exact endz C hr hlk (Or.inl rfl) hR hS dX3_send_46
            · skip
              refine lv_iload C.1 C.2.1 dX3_send_39 (lv_at hl 4 rfl) ?_
              refine lv_iconst (v := nI 3) C.1 C.2.1 dX3_send_41 (by decide) ?_
              refine lv_icmp_le (tgt := 47) C.1 C.2.1 dX3_send_42 (by decide) (fun c42 => ?_) (fun c42 => ?_)
              · skip
                refine lv_aload_n C.1 C.2.1 dX3_send_47 rfl (lv_at hl 0 rfl) ?_
                refine xO_get C hR 1 (by decide) rfl fl_X3_15 (v := .ref (b + 1)) rfl dX3_send_48 ?_
                refine lv_iload_n C.1 C.2.1 dX3_send_51 rfl (lv_at hl 1 rfl) ?_
                refine xS_ald (j := j) C hR (by omega) hN dX3_send_52 ?_
                refine lv_iload C.1 C.2.1 dX3_send_53 (lv_at hl 4 rfl) ?_
                refine lv_iconst (v := nI 3) C.1 C.2.1 dX3_send_55 (by decide) ?_
                refine lv_icmp_ne (tgt := 63) C.1 C.2.1 dX3_send_56 (by decide) (fun c56 => ?_) (fun c56 => ?_)
                · skip
                  refine lv_iconst (v := nI 0) C.1 C.2.1 dX3_send_63 (by decide) ?_
                  refine cxV (b := aSt b j) (As := [.int (nI 0)]) (rest := []) (ci := 2) (q := (RX2, TX2, 19)) C (kq_X2_queueFor l g b N S Fl hN (j) (by omega) (nI 0)) cf_X2_queueFor ml_X3_46 ⟨by decide, by decide⟩ ⟨rfl, rfl⟩ rfl (hR.2.2.2.2.1 _ (by omega)) rfl hl.1 rfl (Nat.le_of_ble_eq_true rfl) dX3_send_64 hR ⟨Nat.zero_le _, Nat.zero_le _⟩ hS (fun _ h => h) (fun H locs hR hS _ _ => ?_)
                  simp only [Option.toList, List.cons_append, List.nil_append]
                  have hw57 := qof_lt (N := N) (j := j) (x := nI 0) (by omega)
                  refine lv_iload_n C.1 C.2.1 dX3_send_67 rfl (lv_at hl 2 rfl) ?_
                  refine lv_iload_n C.1 C.2.1 dX3_send_68 rfl (lv_at hl 3 rfl) ?_
                  refine lv_iload C.1 C.2.1 dX3_send_69 (lv_at hl 4 rfl) ?_
                  refine cxV (b := aQ b (qof j (nI 0))) (As := [.int (nI t), .int n, .int pr]) (rest := []) (ci := 0) (q := (RX0, TX0, 4)) C (k_X0_addLast l g b N S Fl hN (qof j (nI 0)) z0 (by omega) (by omega) h41b (nI t) n pr) cf_X0_addLast ml_X3_50 ⟨by decide, by decide⟩ ⟨rfl, rfl⟩ rfl (hR.2.2.2.2.2.2.1 _ (by omega)) rfl hl.1 rfl (Nat.le_of_ble_eq_true rfl) dX3_send_71 hR ⟨Nat.zero_le _, Nat.zero_le _⟩ hS (fun _ h => h) (fun H locs hR hS _ _ => ?_)
                  obtain ⟨S1, eS1⟩ : ∃ y, y = s_X0_addLast S (qof j (nI 0)) z0 (nI t) n pr := ⟨_, rfl⟩
                  rw [← eS1] at hR
                  simp only [Option.toList, List.cons_append, List.nil_append]
                  have hs : s_X3_send_ok S j t n pr z0 z1 = S1 := (if_neg c18).trans ((if_neg c25).trans ((if_neg c31).trans ((if_neg c36).trans ((if_pos c42).trans ((if_neg c56).trans (by rw [eS1]))))))
                  rw [hs]
                  have hv : r_X3_send_ok S j t n pr z0 z1 = r_X0_addLast S (qof j (nI 0)) z0 (nI t) n pr := (if_neg c18).trans ((if_neg c25).trans ((if_neg c31).trans ((if_neg c36).trans ((if_pos c42).trans ((if_neg c56).trans (rfl))))))
                  rw [hv]
                  exact endz C hr hlk (al_01) hR hS dX3_send_74
                · skip
                  refine lv_iconst (v := nI 1) C.1 C.2.1 dX3_send_59 (by decide) ?_
                  refine lv_goto (tgt := 64) C.1 C.2.1 dX3_send_60 (by decide) ?_
                  refine cxV (b := aSt b j) (As := [.int (nI 1)]) (rest := []) (ci := 2) (q := (RX2, TX2, 19)) C (kq_X2_queueFor l g b N S Fl hN (j) (by omega) (nI 1)) cf_X2_queueFor ml_X3_46 ⟨by decide, by decide⟩ ⟨rfl, rfl⟩ rfl (hR.2.2.2.2.1 _ (by omega)) rfl hl.1 rfl (Nat.le_of_ble_eq_true rfl) dX3_send_64 hR ⟨Nat.zero_le _, Nat.zero_le _⟩ hS (fun _ h => h) (fun H locs hR hS _ _ => ?_)
                  simp only [Option.toList, List.cons_append, List.nil_append]
                  have hw72 := qof_lt (N := N) (j := j) (x := nI 1) (by omega)
                  refine lv_iload_n C.1 C.2.1 dX3_send_67 rfl (lv_at hl 2 rfl) ?_
                  refine lv_iload_n C.1 C.2.1 dX3_send_68 rfl (lv_at hl 3 rfl) ?_
                  refine lv_iload C.1 C.2.1 dX3_send_69 (lv_at hl 4 rfl) ?_
                  refine cxV (b := aQ b (qof j (nI 1))) (As := [.int (nI t), .int n, .int pr]) (rest := []) (ci := 0) (q := (RX0, TX0, 4)) C (k_X0_addLast l g b N S Fl hN (qof j (nI 1)) z1 (by omega) (by omega) h41a (nI t) n pr) cf_X0_addLast ml_X3_50 ⟨by decide, by decide⟩ ⟨rfl, rfl⟩ rfl (hR.2.2.2.2.2.2.1 _ (by omega)) rfl hl.1 rfl (Nat.le_of_ble_eq_true rfl) dX3_send_71 hR ⟨Nat.zero_le _, Nat.zero_le _⟩ hS (fun _ h => h) (fun H locs hR hS _ _ => ?_)
                  obtain ⟨S2, eS2⟩ : ∃ y, y = s_X0_addLast S (qof j (nI 1)) z1 (nI t) n pr := ⟨_, rfl⟩
                  rw [← eS2] at hR
                  simp only [Option.toList, List.cons_append, List.nil_append]
                  have hs : s_X3_send_ok S j t n pr z0 z1 = S2 := (if_neg c18).trans ((if_neg c25).trans ((if_neg c31).trans ((if_neg c36).trans ((if_pos c42).trans ((if_pos c56).trans (by rw [eS2]))))))
                  rw [hs]
                  have hv : r_X3_send_ok S j t n pr z0 z1 = r_X0_addLast S (qof j (nI 1)) z1 (nI t) n pr := (if_neg c18).trans ((if_neg c25).trans ((if_neg c31).trans ((if_neg c36).trans ((if_pos c42).trans ((if_pos c56).trans (rfl))))))
                  rw [hv]
                  exact endz C hr hlk (al_01) hR hS dX3_send_74
              · skip
                refine lv_iconst (v := nI 0) C.1 C.2.1 dX3_send_45 (by decide) ?_
                have hs : s_X3_send_ok S j t n pr z0 z1 = S := (if_neg c18).trans ((if_neg c25).trans ((if_neg c31).trans ((if_neg c36).trans ((if_neg c42).trans (rfl)))))
                rw [hs]
                have hv : r_X3_send_ok S j t n pr z0 z1 = nI 0 := (if_neg c18).trans ((if_neg c25).trans ((if_neg c31).trans ((if_neg c36).trans ((if_neg c42).trans (rfl)))))
                rw [hv]
                exact endz C hr hlk (Or.inl rfl) hR hS dX3_send_46
      · skip
        have c18 : j = t := (nI_eq (a := j) (b := t) (by omega) (by omega)).mp c18
        refine lv_iconst (v := nI 0) C.1 C.2.1 dX3_send_21 (by decide) ?_
        have hs : s_X3_send_ok S j t n pr z0 z1 = S := (if_pos c18).trans (rfl)
        rw [hs]
        have hv : r_X3_send_ok S j t n pr z0 z1 = nI 0 := (if_pos c18).trans (rfl)
        rw [hv]
        exact endz C hr hlk (Or.inl rfl) hR hS dX3_send_22

set_option maxHeartbeats 4000000 in
set_option maxRecDepth 100000 in
theorem k_X3_ring_bad (l : Launch) (g : GX) (b N : Nat) (S : SX) (Fl : FX) (hN : N ≤ 6) (x : Int32) (hb : bad N x)  : MR l yX3_ring (.code yX3_ring cX3_ring 2 (some .int) :: tb) (rmk 1 21) g (RepX g b N S Fl) (RepX g b N S Fl) (AX b N) [.ref b, .int x] (some (.int ((-1)))) := by
  refine MR.start RX3 (by decide) rfl (Nat.le_of_ble_eq_true rfl) (fun zp ze zs zm zb zt zc ls C hr hlk hR hS hl => ?_)
  have hl : lv_has ls 2 [(0, .ref b), (1, .int x)] := hl
  refine lv_aload_n C.1 C.2.1 dX3_ring_0 rfl (lv_at hl 0 rfl) ?_
  refine lv_iload_n C.1 C.2.1 dX3_ring_1 rfl (lv_at hl 1 rfl) ?_
  refine cxV (b := b) (As := [.int x]) (rest := []) (ci := 3) (q := (RX3, TX3, 6)) C (kis_bad l g b N S Fl hN x hb) cf_X3_isStation ml_X3_36 ⟨by decide, by decide⟩ ⟨rfl, rfl⟩ rfl (hR.1) rfl hl.1 rfl (Nat.le_of_ble_eq_true rfl) dX3_ring_2 hR ⟨Nat.zero_le _, Nat.zero_le _⟩ hS (fun _ h => h) (fun H locs hR hS _ _ => ?_)
  simp only [Option.toList, List.cons_append, List.nil_append]
  refine lv_if_eq (tgt := 20) C.1 C.2.1 dX3_ring_5 (by decide) (fun c5 => ?_) (fun c5 => ?_)
  · skip
    refine lv_iconst (v := (-1)) C.1 C.2.1 dX3_ring_20 (by decide) ?_
    skip
    exact endi C hr hlk hR hS dX3_ring_21
  · skip
    exact absurd c5 (by decide)

set_option maxHeartbeats 4000000 in
set_option maxRecDepth 100000 in
theorem k_X3_ring_ok (l : Launch) (g : GX) (b N : Nat) (S : SX) (Fl : FX) (hN : N ≤ 6) (j : Nat) (hj : j < N)  : MR l yX3_ring (.code yX3_ring cX3_ring 2 (some .int) :: tb) (rmk 1 21) g (RepX g b N S Fl) (RepX g b N S Fl) (AX b N) [.ref b, .int (nI j)] (some (.int (S 3 j))) := by
  refine MR.start RX3 (by decide) rfl (Nat.le_of_ble_eq_true rfl) (fun zp ze zs zm zb zt zc ls C hr hlk hR hS hl => ?_)
  have hl : lv_has ls 2 [(0, .ref b), (1, .int (nI j))] := hl
  refine lv_aload_n C.1 C.2.1 dX3_ring_0 rfl (lv_at hl 0 rfl) ?_
  refine lv_iload_n C.1 C.2.1 dX3_ring_1 rfl (lv_at hl 1 rfl) ?_
  refine cxV (b := b) (As := [.int (nI j)]) (rest := []) (ci := 3) (q := (RX3, TX3, 6)) C (kis_ok l g b N S Fl hN j (by omega)) cf_X3_isStation ml_X3_36 ⟨by decide, by decide⟩ ⟨rfl, rfl⟩ rfl (hR.1) rfl hl.1 rfl (Nat.le_of_ble_eq_true rfl) dX3_ring_2 hR ⟨Nat.zero_le _, Nat.zero_le _⟩ hS (fun _ h => h) (fun H locs hR hS _ _ => ?_)
  simp only [Option.toList, List.cons_append, List.nil_append]
  refine lv_if_eq (tgt := 20) C.1 C.2.1 dX3_ring_5 (by decide) (fun c5 => ?_) (fun c5 => ?_)
  · skip
    exact absurd c5 (by decide)
  · skip
    refine lv_aload_n C.1 C.2.1 dX3_ring_8 rfl (lv_at hl 0 rfl) ?_
    refine xO_get C hR 1 (by decide) rfl fl_X3_15 (v := .ref (b + 1)) rfl dX3_ring_9 ?_
    refine lv_iload_n C.1 C.2.1 dX3_ring_12 rfl (lv_at hl 1 rfl) ?_
    refine xS_ald (j := j) C hR (by omega) hN dX3_ring_13 ?_
    refine xS_get (j := j) C hR (by omega) 3 (by decide) rfl fl_X3_70 (v := .int (S 3 j)) rfl dX3_ring_14 ?_
    refine lv_goto (tgt := 21) C.1 C.2.1 dX3_ring_17 (by decide) ?_
    skip
    exact endi C hr hlk hR hS dX3_ring_21

theorem nI_nm1 {n : Nat} (h : n < 100) : ¬ nI n = -1 := fun e => by
  have h1 := nI_pos (n := n) (by omega)
  rw [e] at h1
  exact h1 (by decide)
set_option maxHeartbeats 4000000 in
set_option maxRecDepth 100000 in
theorem k_X3_state_bad (l : Launch) (g : GX) (b N : Nat) (S : SX) (Fl : FX) (hN : N ≤ 6) (x : Int32) (hb : bad N x)  : MR l yX3_state (.code yX3_state cX3_state 3 (some .int) :: tb) (rmk 2 42) g (RepX g b N S Fl) (RepX g b N S Fl) (AX b N) [.ref b, .int x] (some (.int (nI 0))) := by
  refine MR.start RX3 (by decide) rfl (Nat.le_of_ble_eq_true rfl) (fun zp ze zs zm zb zt zc ls C hr hlk hR hS hl => ?_)
  have hl : lv_has ls 3 [(0, .ref b), (1, .int x)] := hl
  refine lv_aload_n C.1 C.2.1 dX3_state_0 rfl (lv_at hl 0 rfl) ?_
  refine lv_iload_n C.1 C.2.1 dX3_state_1 rfl (lv_at hl 1 rfl) ?_
  refine cxV (b := b) (As := [.int x]) (rest := []) (ci := 3) (q := (RX3, TX3, 6)) C (k_X3_ring_bad l g b N S Fl hN x hb) cf_X3_ring ml_X3_73 ⟨by decide, by decide⟩ ⟨rfl, rfl⟩ rfl (hR.1) rfl hl.1 rfl (Nat.le_of_ble_eq_true rfl) dX3_state_2 hR ⟨Nat.zero_le _, Nat.zero_le _⟩ hS (fun _ h => h) (fun H locs hR hS _ _ => ?_)
  simp only [Option.toList, List.cons_append, List.nil_append]
  refine lv_iconst (v := (-1)) C.1 C.2.1 dX3_state_5 (by decide) ?_
  refine lv_icmp_ne (tgt := 11) C.1 C.2.1 dX3_state_6 (by decide) (fun c6 => ?_) (fun c6 => ?_)
  · skip
    exact absurd c6 (by decide)
  · skip
    refine lv_iconst (v := nI 0) C.1 C.2.1 dX3_state_9 (by decide) ?_
    skip
    exact endi C hr hlk hR hS dX3_state_10

set_option maxHeartbeats 4000000 in
set_option maxRecDepth 100000 in
theorem k_X3_state_off (l : Launch) (g : GX) (b N : Nat) (S : SX) (Fl : FX) (hN : N ≤ 6) (j : Nat) (hj : j < N) (h3 : S 3 j = -1)  : MR l yX3_state (.code yX3_state cX3_state 3 (some .int) :: tb) (rmk 2 42) g (RepX g b N S Fl) (RepX g b N S Fl) (AX b N) [.ref b, .int (nI j)] (some (.int (nI 0))) := by
  refine MR.start RX3 (by decide) rfl (Nat.le_of_ble_eq_true rfl) (fun zp ze zs zm zb zt zc ls C hr hlk hR hS hl => ?_)
  have hl : lv_has ls 3 [(0, .ref b), (1, .int (nI j))] := hl
  refine lv_aload_n C.1 C.2.1 dX3_state_0 rfl (lv_at hl 0 rfl) ?_
  refine lv_iload_n C.1 C.2.1 dX3_state_1 rfl (lv_at hl 1 rfl) ?_
  refine cxV (b := b) (As := [.int (nI j)]) (rest := []) (ci := 3) (q := (RX3, TX3, 6)) C (k_X3_ring_ok l g b N S Fl hN j (by omega)) cf_X3_ring ml_X3_73 ⟨by decide, by decide⟩ ⟨rfl, rfl⟩ rfl (hR.1) rfl hl.1 rfl (Nat.le_of_ble_eq_true rfl) dX3_state_2 hR ⟨Nat.zero_le _, Nat.zero_le _⟩ hS (fun _ h => h) (fun H locs hR hS _ _ => ?_)
  simp only [Option.toList, List.cons_append, List.nil_append]
  refine lv_re (y := (-1)) h3 ?_
  refine lv_iconst (v := (-1)) C.1 C.2.1 dX3_state_5 (by decide) ?_
  refine lv_icmp_ne (tgt := 11) C.1 C.2.1 dX3_state_6 (by decide) (fun c6 => ?_) (fun c6 => ?_)
  · skip
    exact absurd c6 (by decide)
  · skip
    refine lv_iconst (v := nI 0) C.1 C.2.1 dX3_state_9 (by decide) ?_
    skip
    exact endi C hr hlk hR hS dX3_state_10

def r_X3_state_on (S : SX) (N : Nat) (j f p : Nat) : Int32 := if r_X1_claims S f = 0 then (if 0 < S 26 f then (nI 2) else (if wr N (f + p) = j then (if S 27 f ≤ 0 then (nI 3) else (nI 4)) else (nI 2))) else (nI 1)
set_option maxHeartbeats 4000000 in
set_option maxRecDepth 100000 in
theorem k_X3_state_on (l : Launch) (g : GX) (b N : Nat) (S : SX) (Fl : FX) (hN : N ≤ 6) (j : Nat) (hj : j < N) (f p : Nat) (hf : f < N) (hp : p < N) (h20 : S 20 f = nI f) (h25 : S 25 f = nI p) (h3 : S 3 j = nI f)  : MR l yX3_state (.code yX3_state cX3_state 3 (some .int) :: tb) (rmk 2 42) g (RepX g b N S Fl) (RepX g b N S Fl) (AX b N) [.ref b, .int (nI j)] (some (.int (r_X3_state_on S N j f p))) := by
  refine MR.start RX3 (by decide) rfl (Nat.le_of_ble_eq_true rfl) (fun zp ze zs zm zb zt zc ls C hr hlk hR hS hl => ?_)
  have hl : lv_has ls 3 [(0, .ref b), (1, .int (nI j))] := hl
  refine lv_aload_n C.1 C.2.1 dX3_state_0 rfl (lv_at hl 0 rfl) ?_
  refine lv_iload_n C.1 C.2.1 dX3_state_1 rfl (lv_at hl 1 rfl) ?_
  refine cxV (b := b) (As := [.int (nI j)]) (rest := []) (ci := 3) (q := (RX3, TX3, 6)) C (k_X3_ring_ok l g b N S Fl hN j (by omega)) cf_X3_ring ml_X3_73 ⟨by decide, by decide⟩ ⟨rfl, rfl⟩ rfl (hR.1) rfl hl.1 rfl (Nat.le_of_ble_eq_true rfl) dX3_state_2 hR ⟨Nat.zero_le _, Nat.zero_le _⟩ hS (fun _ h => h) (fun H locs hR hS _ _ => ?_)
  simp only [Option.toList, List.cons_append, List.nil_append]
  refine lv_re (y := nI f) h3 ?_
  refine lv_iconst (v := (-1)) C.1 C.2.1 dX3_state_5 (by decide) ?_
  refine lv_icmp_ne (tgt := 11) C.1 C.2.1 dX3_state_6 (by decide) (fun c6 => ?_) (fun c6 => ?_)
  · skip
    refine lv_aload_n C.1 C.2.1 dX3_state_11 rfl (lv_at hl 0 rfl) ?_
    refine xO_get C hR 3 (by decide) rfl fl_X3_25 (v := .ref (b + 3)) rfl dX3_state_12 ?_
    refine lv_aload_n C.1 C.2.1 dX3_state_15 rfl (lv_at hl 0 rfl) ?_
    refine lv_iload_n C.1 C.2.1 dX3_state_16 rfl (lv_at hl 1 rfl) ?_
    refine cxV (b := b) (As := [.int (nI j)]) (rest := [.ref (b + 3)]) (ci := 3) (q := (RX3, TX3, 6)) C (k_X3_ring_ok l g b N S Fl hN j (by omega)) cf_X3_ring ml_X3_73 ⟨by decide, by decide⟩ ⟨rfl, rfl⟩ rfl (hR.1) rfl hl.1 rfl (Nat.le_of_ble_eq_true rfl) dX3_state_17 hR ⟨Nat.zero_le _, Nat.zero_le _⟩ hS (fun _ h => h) (fun H locs hR hS _ _ => ?_)
    simp only [Option.toList, List.cons_append, List.nil_append]
    refine lv_re (y := nI f) h3 ?_
    refine xR_ald (j := f) C hR (by omega) hN dX3_state_20 ?_
    refine lv_astore_n (lv' := [(2, .ref (aRg b f)), (0, .ref b), (1, .int (nI j))]) C.1 C.2.1 dX3_state_21 rfl hl (by decide) rfl (fun ls hl => ?_)
    refine lv_aload_n C.1 C.2.1 dX3_state_22 rfl (lv_at hl 0 rfl) ?_
    refine cxV (b := aRg b f) (As := []) (rest := []) (ci := 1) (q := (RX1, TX1, 10)) C (k_X1_claims l g b N S Fl hN (f) (by omega)) cf_X1_claims ml_X3_77 ⟨by decide, by decide⟩ ⟨rfl, rfl⟩ rfl (hR.2.2.2.2.2.1 _ (by omega)) rfl hl.1 rfl (Nat.le_of_ble_eq_true rfl) dX3_state_23 hR ⟨Nat.zero_le _, Nat.zero_le _⟩ hS (fun _ h => h) (fun H locs hR hS _ _ => ?_)
    simp only [Option.toList, List.cons_append, List.nil_append]
    refine lv_if_eq (tgt := 31) C.1 C.2.1 dX3_state_26 (by decide) (fun c26 => ?_) (fun c26 => ?_)
    · skip
      refine lv_aload_n C.1 C.2.1 dX3_state_31 rfl (lv_at hl 0 rfl) ?_
      refine xR_get (j := f) C hR (by omega) 6 (by decide) rfl fl_X3_81 (v := .int (S 26 f)) rfl dX3_state_32 ?_
      refine lv_if_gt (tgt := 51) C.1 C.2.1 dX3_state_35 (by decide) (fun c35 => ?_) (fun c35 => ?_)
      · skip
        refine lv_iconst (v := nI 2) C.1 C.2.1 dX3_state_51 (by decide) ?_
        have hv : r_X3_state_on S N j f p = nI 2 := (if_pos c26).trans ((if_pos c35).trans (rfl))
        rw [hv]
        exact endi C hr hlk hR hS dX3_state_52
      · skip
        refine lv_aload_n C.1 C.2.1 dX3_state_38 rfl (lv_at hl 1 rfl) ?_
        refine lv_aload_n C.1 C.2.1 dX3_state_39 rfl (lv_at hl 0 rfl) ?_
        refine lv_aload_n C.1 C.2.1 dX3_state_40 rfl (lv_at hl 0 rfl) ?_
        refine xR_get (j := f) C hR (by omega) 5 (by decide) rfl fl_X3_84 (v := .int (S 25 f)) rfl dX3_state_41 ?_
        refine lv_re (y := nI p) (by rw [h25]) ?_
        refine cxV (b := b) (As := [.ref (aRg b f), .int (nI p)]) (rest := []) (ci := 3) (q := (RX3, TX3, 6)) C (kn_numberAt l g b N S Fl hN (f) (p) (by omega) (by omega) (by rw [h20])) cf_X3_numberAt ml_X3_87 ⟨by decide, by decide⟩ ⟨rfl, rfl⟩ rfl (hR.1) rfl hl.1 rfl (Nat.le_of_ble_eq_true rfl) dX3_state_44 hR ⟨Nat.zero_le _, Nat.zero_le _⟩ hS (fun _ h => h) (fun H locs hR hS _ _ => ?_)
        simp only [Option.toList, List.cons_append, List.nil_append]
        have hw35 := wr_lt (N := N) (i := f + p) (by omega)
        refine lv_iload_n C.1 C.2.1 dX3_state_47 rfl (lv_at hl 2 rfl) ?_
        refine lv_icmp_eq (tgt := 53) C.1 C.2.1 dX3_state_48 (by decide) (fun c48 => ?_) (fun c48 => ?_)
        · skip
          have c48 : wr N (f + p) = j := (nI_eq (a := wr N (f + p)) (b := j) (by omega) (by omega)).mp c48
          refine lv_aload_n C.1 C.2.1 dX3_state_53 rfl (lv_at hl 0 rfl) ?_
          refine xR_get (j := f) C hR (by omega) 7 (by decide) rfl fl_X3_91 (v := .int (S 27 f)) rfl dX3_state_54 ?_
          refine lv_if_le (tgt := 64) C.1 C.2.1 dX3_state_57 (by decide) (fun c57 => ?_) (fun c57 => ?_)
          · skip
            refine lv_iconst (v := nI 3) C.1 C.2.1 dX3_state_64 (by decide) ?_
            have hv : r_X3_state_on S N j f p = nI 3 := (if_pos c26).trans ((if_neg c35).trans ((if_pos c48).trans ((if_pos c57).trans (rfl))))
            rw [hv]
            exact endi C hr hlk hR hS dX3_state_65
          · skip
            refine lv_iconst (v := nI 4) C.1 C.2.1 dX3_state_60 (by decide) ?_
            refine lv_goto (tgt := 65) C.1 C.2.1 dX3_state_61 (by decide) ?_
            have hv : r_X3_state_on S N j f p = nI 4 := (if_pos c26).trans ((if_neg c35).trans ((if_pos c48).trans ((if_neg c57).trans (rfl))))
            rw [hv]
            exact endi C hr hlk hR hS dX3_state_65
        · skip
          have c48 : ¬ (wr N (f + p) = j) := mt (nI_eq (a := wr N (f + p)) (b := j) (by omega) (by omega)).mpr c48
          refine lv_iconst (v := nI 2) C.1 C.2.1 dX3_state_51 (by decide) ?_
          have hv : r_X3_state_on S N j f p = nI 2 := (if_pos c26).trans ((if_neg c35).trans ((if_neg c48).trans (rfl)))
          rw [hv]
          exact endi C hr hlk hR hS dX3_state_52
    · skip
      refine lv_iconst (v := nI 1) C.1 C.2.1 dX3_state_29 (by decide) ?_
      have hv : r_X3_state_on S N j f p = nI 1 := (if_neg c26).trans (rfl)
      rw [hv]
      exact endi C hr hlk hR hS dX3_state_30
  · skip
    exact absurd c6 (nI_nm1 (by omega))

set_option maxHeartbeats 4000000 in
set_option maxRecDepth 100000 in
theorem k_X3_operating_bad (l : Launch) (g : GX) (b N : Nat) (S : SX) (Fl : FX) (hN : N ≤ 6) (x : Int32) (hb : bad N x)  : MR l yX3_operating (.code yX3_operating cX3_operating 3 (some .int) :: tb) (rmk 2 42) g (RepX g b N S Fl) (RepX g b N S Fl) (AX b N) [.ref b, .int x] (some (.int (nI 0))) := by
  refine MR.start RX3 (by decide) rfl (Nat.le_of_ble_eq_true rfl) (fun zp ze zs zm zb zt zc ls C hr hlk hR hS hl => ?_)
  have hl : lv_has ls 3 [(0, .ref b), (1, .int x)] := hl
  refine lv_aload_n C.1 C.2.1 dX3_operating_0 rfl (lv_at hl 0 rfl) ?_
  refine lv_iload_n C.1 C.2.1 dX3_operating_1 rfl (lv_at hl 1 rfl) ?_
  refine cxV (b := b) (As := [.int x]) (rest := []) (ci := 3) (q := (RX3, TX3, 6)) C (k_X3_ring_bad l g b N S Fl hN x hb) cf_X3_ring ml_X3_73 ⟨by decide, by decide⟩ ⟨rfl, rfl⟩ rfl (hR.1) rfl hl.1 rfl (Nat.le_of_ble_eq_true rfl) dX3_operating_2 hR ⟨Nat.zero_le _, Nat.zero_le _⟩ hS (fun _ h => h) (fun H locs hR hS _ _ => ?_)
  simp only [Option.toList, List.cons_append, List.nil_append]
  refine lv_iconst (v := (-1)) C.1 C.2.1 dX3_operating_5 (by decide) ?_
  refine lv_icmp_ne (tgt := 11) C.1 C.2.1 dX3_operating_6 (by decide) (fun c6 => ?_) (fun c6 => ?_)
  · skip
    exact absurd c6 (by decide)
  · skip
    refine lv_iconst (v := nI 0) C.1 C.2.1 dX3_operating_9 (by decide) ?_
    skip
    exact endi C hr hlk hR hS dX3_operating_10

set_option maxHeartbeats 4000000 in
set_option maxRecDepth 100000 in
theorem k_X3_operating_off (l : Launch) (g : GX) (b N : Nat) (S : SX) (Fl : FX) (hN : N ≤ 6) (j : Nat) (hj : j < N) (h3 : S 3 j = -1)  : MR l yX3_operating (.code yX3_operating cX3_operating 3 (some .int) :: tb) (rmk 2 42) g (RepX g b N S Fl) (RepX g b N S Fl) (AX b N) [.ref b, .int (nI j)] (some (.int (nI 0))) := by
  refine MR.start RX3 (by decide) rfl (Nat.le_of_ble_eq_true rfl) (fun zp ze zs zm zb zt zc ls C hr hlk hR hS hl => ?_)
  have hl : lv_has ls 3 [(0, .ref b), (1, .int (nI j))] := hl
  refine lv_aload_n C.1 C.2.1 dX3_operating_0 rfl (lv_at hl 0 rfl) ?_
  refine lv_iload_n C.1 C.2.1 dX3_operating_1 rfl (lv_at hl 1 rfl) ?_
  refine cxV (b := b) (As := [.int (nI j)]) (rest := []) (ci := 3) (q := (RX3, TX3, 6)) C (k_X3_ring_ok l g b N S Fl hN j (by omega)) cf_X3_ring ml_X3_73 ⟨by decide, by decide⟩ ⟨rfl, rfl⟩ rfl (hR.1) rfl hl.1 rfl (Nat.le_of_ble_eq_true rfl) dX3_operating_2 hR ⟨Nat.zero_le _, Nat.zero_le _⟩ hS (fun _ h => h) (fun H locs hR hS _ _ => ?_)
  simp only [Option.toList, List.cons_append, List.nil_append]
  refine lv_re (y := (-1)) h3 ?_
  refine lv_iconst (v := (-1)) C.1 C.2.1 dX3_operating_5 (by decide) ?_
  refine lv_icmp_ne (tgt := 11) C.1 C.2.1 dX3_operating_6 (by decide) (fun c6 => ?_) (fun c6 => ?_)
  · skip
    exact absurd c6 (by decide)
  · skip
    refine lv_iconst (v := nI 0) C.1 C.2.1 dX3_operating_9 (by decide) ?_
    skip
    exact endi C hr hlk hR hS dX3_operating_10

def r_X3_operating_on (S : SX) (j f p : Nat) : Int32 := if r_X1_claims S f = 0 then (S 24 f) else (nI 0)
set_option maxHeartbeats 4000000 in
set_option maxRecDepth 100000 in
theorem k_X3_operating_on (l : Launch) (g : GX) (b N : Nat) (S : SX) (Fl : FX) (hN : N ≤ 6) (j : Nat) (hj : j < N) (f p : Nat) (hf : f < N) (hp : p < N) (h20 : S 20 f = nI f) (h25 : S 25 f = nI p) (h3 : S 3 j = nI f)  : MR l yX3_operating (.code yX3_operating cX3_operating 3 (some .int) :: tb) (rmk 2 42) g (RepX g b N S Fl) (RepX g b N S Fl) (AX b N) [.ref b, .int (nI j)] (some (.int (r_X3_operating_on S j f p))) := by
  refine MR.start RX3 (by decide) rfl (Nat.le_of_ble_eq_true rfl) (fun zp ze zs zm zb zt zc ls C hr hlk hR hS hl => ?_)
  have hl : lv_has ls 3 [(0, .ref b), (1, .int (nI j))] := hl
  refine lv_aload_n C.1 C.2.1 dX3_operating_0 rfl (lv_at hl 0 rfl) ?_
  refine lv_iload_n C.1 C.2.1 dX3_operating_1 rfl (lv_at hl 1 rfl) ?_
  refine cxV (b := b) (As := [.int (nI j)]) (rest := []) (ci := 3) (q := (RX3, TX3, 6)) C (k_X3_ring_ok l g b N S Fl hN j (by omega)) cf_X3_ring ml_X3_73 ⟨by decide, by decide⟩ ⟨rfl, rfl⟩ rfl (hR.1) rfl hl.1 rfl (Nat.le_of_ble_eq_true rfl) dX3_operating_2 hR ⟨Nat.zero_le _, Nat.zero_le _⟩ hS (fun _ h => h) (fun H locs hR hS _ _ => ?_)
  simp only [Option.toList, List.cons_append, List.nil_append]
  refine lv_re (y := nI f) h3 ?_
  refine lv_iconst (v := (-1)) C.1 C.2.1 dX3_operating_5 (by decide) ?_
  refine lv_icmp_ne (tgt := 11) C.1 C.2.1 dX3_operating_6 (by decide) (fun c6 => ?_) (fun c6 => ?_)
  · skip
    refine lv_aload_n C.1 C.2.1 dX3_operating_11 rfl (lv_at hl 0 rfl) ?_
    refine xO_get C hR 3 (by decide) rfl fl_X3_25 (v := .ref (b + 3)) rfl dX3_operating_12 ?_
    refine lv_aload_n C.1 C.2.1 dX3_operating_15 rfl (lv_at hl 0 rfl) ?_
    refine lv_iload_n C.1 C.2.1 dX3_operating_16 rfl (lv_at hl 1 rfl) ?_
    refine cxV (b := b) (As := [.int (nI j)]) (rest := [.ref (b + 3)]) (ci := 3) (q := (RX3, TX3, 6)) C (k_X3_ring_ok l g b N S Fl hN j (by omega)) cf_X3_ring ml_X3_73 ⟨by decide, by decide⟩ ⟨rfl, rfl⟩ rfl (hR.1) rfl hl.1 rfl (Nat.le_of_ble_eq_true rfl) dX3_operating_17 hR ⟨Nat.zero_le _, Nat.zero_le _⟩ hS (fun _ h => h) (fun H locs hR hS _ _ => ?_)
    simp only [Option.toList, List.cons_append, List.nil_append]
    refine lv_re (y := nI f) h3 ?_
    refine xR_ald (j := f) C hR (by omega) hN dX3_operating_20 ?_
    refine lv_astore_n (lv' := [(2, .ref (aRg b f)), (0, .ref b), (1, .int (nI j))]) C.1 C.2.1 dX3_operating_21 rfl hl (by decide) rfl (fun ls hl => ?_)
    refine lv_aload_n C.1 C.2.1 dX3_operating_22 rfl (lv_at hl 0 rfl) ?_
    refine cxV (b := aRg b f) (As := []) (rest := []) (ci := 1) (q := (RX1, TX1, 10)) C (k_X1_claims l g b N S Fl hN (f) (by omega)) cf_X1_claims ml_X3_77 ⟨by decide, by decide⟩ ⟨rfl, rfl⟩ rfl (hR.2.2.2.2.2.1 _ (by omega)) rfl hl.1 rfl (Nat.le_of_ble_eq_true rfl) dX3_operating_23 hR ⟨Nat.zero_le _, Nat.zero_le _⟩ hS (fun _ h => h) (fun H locs hR hS _ _ => ?_)
    simp only [Option.toList, List.cons_append, List.nil_append]
    refine lv_if_eq (tgt := 33) C.1 C.2.1 dX3_operating_26 (by decide) (fun c26 => ?_) (fun c26 => ?_)
    · skip
      refine lv_aload_n C.1 C.2.1 dX3_operating_33 rfl (lv_at hl 0 rfl) ?_
      refine xR_get (j := f) C hR (by omega) 4 (by decide) rfl fl_X3_94 (v := .int (S 24 f)) rfl dX3_operating_34 ?_
      have hv : r_X3_operating_on S j f p = S 24 f := (if_pos c26).trans (rfl)
      rw [hv]
      exact endi C hr hlk hR hS dX3_operating_37
    · skip
      refine lv_iconst (v := nI 0) C.1 C.2.1 dX3_operating_29 (by decide) ?_
      refine lv_goto (tgt := 37) C.1 C.2.1 dX3_operating_30 (by decide) ?_
      have hv : r_X3_operating_on S j f p = nI 0 := (if_neg c26).trans (rfl)
      rw [hv]
      exact endi C hr hlk hR hS dX3_operating_37
  · skip
    exact absurd c6 (nI_nm1 (by omega))

set_option maxHeartbeats 4000000 in
set_option maxRecDepth 100000 in
theorem k_X3_rotation_bad (l : Launch) (g : GX) (b N : Nat) (S : SX) (Fl : FX) (hN : N ≤ 6) (x : Int32) (hb : bad N x)  : MR l yX3_rotation (.code yX3_rotation cX3_rotation 2 (some .float) :: tb) (rmk 1 21) g (RepX g b N S Fl) (RepX g b N S Fl) (AX b N) [.ref b, .int x] (some (.float (FP.fconst0))) := by
  refine MR.start RX3 (by decide) rfl (Nat.le_of_ble_eq_true rfl) (fun zp ze zs zm zb zt zc ls C hr hlk hR hS hl => ?_)
  have hl : lv_has ls 2 [(0, .ref b), (1, .int x)] := hl
  refine lv_aload_n C.1 C.2.1 dX3_rotation_0 rfl (lv_at hl 0 rfl) ?_
  refine lv_iload_n C.1 C.2.1 dX3_rotation_1 rfl (lv_at hl 1 rfl) ?_
  refine cxV (b := b) (As := [.int x]) (rest := []) (ci := 3) (q := (RX3, TX3, 6)) C (kis_bad l g b N S Fl hN x hb) cf_X3_isStation ml_X3_36 ⟨by decide, by decide⟩ ⟨rfl, rfl⟩ rfl (hR.1) rfl hl.1 rfl (Nat.le_of_ble_eq_true rfl) dX3_rotation_2 hR ⟨Nat.zero_le _, Nat.zero_le _⟩ hS (fun _ h => h) (fun H locs hR hS _ _ => ?_)
  simp only [Option.toList, List.cons_append, List.nil_append]
  refine lv_if_eq (tgt := 20) C.1 C.2.1 dX3_rotation_5 (by decide) (fun c5 => ?_) (fun c5 => ?_)
  · skip
    refine lv_fconst0 C.1 C.2.1 dX3_rotation_20 ?_
    skip
    exact endf C hr hlk hR hS dX3_rotation_21
  · skip
    exact absurd c5 (by decide)

set_option maxHeartbeats 4000000 in
set_option maxRecDepth 100000 in
theorem k_X3_rotation_ok (l : Launch) (g : GX) (b N : Nat) (S : SX) (Fl : FX) (hN : N ≤ 6) (j : Nat) (hj : j < N)  : MR l yX3_rotation (.code yX3_rotation cX3_rotation 2 (some .float) :: tb) (rmk 1 21) g (RepX g b N S Fl) (RepX g b N S Fl) (AX b N) [.ref b, .int (nI j)] (some (.float (Fl j))) := by
  refine MR.start RX3 (by decide) rfl (Nat.le_of_ble_eq_true rfl) (fun zp ze zs zm zb zt zc ls C hr hlk hR hS hl => ?_)
  have hl : lv_has ls 2 [(0, .ref b), (1, .int (nI j))] := hl
  refine lv_aload_n C.1 C.2.1 dX3_rotation_0 rfl (lv_at hl 0 rfl) ?_
  refine lv_iload_n C.1 C.2.1 dX3_rotation_1 rfl (lv_at hl 1 rfl) ?_
  refine cxV (b := b) (As := [.int (nI j)]) (rest := []) (ci := 3) (q := (RX3, TX3, 6)) C (kis_ok l g b N S Fl hN j (by omega)) cf_X3_isStation ml_X3_36 ⟨by decide, by decide⟩ ⟨rfl, rfl⟩ rfl (hR.1) rfl hl.1 rfl (Nat.le_of_ble_eq_true rfl) dX3_rotation_2 hR ⟨Nat.zero_le _, Nat.zero_le _⟩ hS (fun _ h => h) (fun H locs hR hS _ _ => ?_)
  simp only [Option.toList, List.cons_append, List.nil_append]
  refine lv_if_eq (tgt := 20) C.1 C.2.1 dX3_rotation_5 (by decide) (fun c5 => ?_) (fun c5 => ?_)
  · skip
    exact absurd c5 (by decide)
  · skip
    refine lv_aload_n C.1 C.2.1 dX3_rotation_8 rfl (lv_at hl 0 rfl) ?_
    refine xO_get C hR 1 (by decide) rfl fl_X3_15 (v := .ref (b + 1)) rfl dX3_rotation_9 ?_
    refine lv_iload_n C.1 C.2.1 dX3_rotation_12 rfl (lv_at hl 1 rfl) ?_
    refine xS_ald (j := j) C hR (by omega) hN dX3_rotation_13 ?_
    refine xS_get (j := j) C hR (by omega) 13 (by decide) rfl fl_X3_137 (v := .float (Fl j)) rfl dX3_rotation_14 ?_
    refine lv_goto (tgt := 21) C.1 C.2.1 dX3_rotation_17 (by decide) ?_
    skip
    exact endf C hr hlk hR hS dX3_rotation_21

set_option maxHeartbeats 4000000 in
set_option maxRecDepth 100000 in
theorem k_X3_share_bad (l : Launch) (g : GX) (b N : Nat) (S : SX) (Fl : FX) (hN : N ≤ 6) (x : Int32) (hb : bad N x)  : MR l yX3_share (.code yX3_share cX3_share 2 (some .double) :: tb) (rmk 1 21) g (RepX g b N S Fl) (RepX g b N S Fl) (AX b N) [.ref b, .int x] (some (.double (FP.dconst0))) := by
  refine MR.start RX3 (by decide) rfl (Nat.le_of_ble_eq_true rfl) (fun zp ze zs zm zb zt zc ls C hr hlk hR hS hl => ?_)
  have hl : lv_has ls 2 [(0, .ref b), (1, .int x)] := hl
  refine lv_aload_n C.1 C.2.1 dX3_share_0 rfl (lv_at hl 0 rfl) ?_
  refine lv_iload_n C.1 C.2.1 dX3_share_1 rfl (lv_at hl 1 rfl) ?_
  refine cxV (b := b) (As := [.int x]) (rest := []) (ci := 3) (q := (RX3, TX3, 6)) C (kis_bad l g b N S Fl hN x hb) cf_X3_isStation ml_X3_36 ⟨by decide, by decide⟩ ⟨rfl, rfl⟩ rfl (hR.1) rfl hl.1 rfl (Nat.le_of_ble_eq_true rfl) dX3_share_2 hR ⟨Nat.zero_le _, Nat.zero_le _⟩ hS (fun _ h => h) (fun H locs hR hS _ _ => ?_)
  simp only [Option.toList, List.cons_append, List.nil_append]
  refine lv_if_eq (tgt := 15) C.1 C.2.1 dX3_share_5 (by decide) (fun c5 => ?_) (fun c5 => ?_)
  · skip
    refine lv_dconst0 C.1 C.2.1 dX3_share_15 ?_
    skip
    exact endd C hr hlk hR hS dX3_share_16
  · skip
    exact absurd c5 (by decide)

def r_X3_share_ok (S : SX) (j : Nat) : UInt64 := if S 45 0 = 0 then (FP.dconst0) else (FP.ddiv (FP.i2d (S 17 j)) (FP.i2d (S 45 0)))
set_option maxHeartbeats 4000000 in
set_option maxRecDepth 100000 in
theorem k_X3_share_ok (l : Launch) (g : GX) (b N : Nat) (S : SX) (Fl : FX) (hN : N ≤ 6) (j : Nat) (hj : j < N)  : MR l yX3_share (.code yX3_share cX3_share 2 (some .double) :: tb) (rmk 1 21) g (RepX g b N S Fl) (RepX g b N S Fl) (AX b N) [.ref b, .int (nI j)] (some (.double (r_X3_share_ok S j))) := by
  refine MR.start RX3 (by decide) rfl (Nat.le_of_ble_eq_true rfl) (fun zp ze zs zm zb zt zc ls C hr hlk hR hS hl => ?_)
  have hl : lv_has ls 2 [(0, .ref b), (1, .int (nI j))] := hl
  refine lv_aload_n C.1 C.2.1 dX3_share_0 rfl (lv_at hl 0 rfl) ?_
  refine lv_iload_n C.1 C.2.1 dX3_share_1 rfl (lv_at hl 1 rfl) ?_
  refine cxV (b := b) (As := [.int (nI j)]) (rest := []) (ci := 3) (q := (RX3, TX3, 6)) C (kis_ok l g b N S Fl hN j (by omega)) cf_X3_isStation ml_X3_36 ⟨by decide, by decide⟩ ⟨rfl, rfl⟩ rfl (hR.1) rfl hl.1 rfl (Nat.le_of_ble_eq_true rfl) dX3_share_2 hR ⟨Nat.zero_le _, Nat.zero_le _⟩ hS (fun _ h => h) (fun H locs hR hS _ _ => ?_)
  simp only [Option.toList, List.cons_append, List.nil_append]
  refine lv_if_eq (tgt := 15) C.1 C.2.1 dX3_share_5 (by decide) (fun c5 => ?_) (fun c5 => ?_)
  · skip
    exact absurd c5 (by decide)
  · skip
    refine lv_aload_n C.1 C.2.1 dX3_share_8 rfl (lv_at hl 0 rfl) ?_
    refine xO_get C hR 4 (by decide) rfl fl_X3_63 (v := .int (S 45 0)) rfl dX3_share_9 ?_
    refine lv_if_ne (tgt := 17) C.1 C.2.1 dX3_share_12 (by decide) (fun c12 => ?_) (fun c12 => ?_)
    · skip
      refine lv_aload_n C.1 C.2.1 dX3_share_17 rfl (lv_at hl 0 rfl) ?_
      refine xO_get C hR 1 (by decide) rfl fl_X3_15 (v := .ref (b + 1)) rfl dX3_share_18 ?_
      refine lv_iload_n C.1 C.2.1 dX3_share_21 rfl (lv_at hl 1 rfl) ?_
      refine xS_ald (j := j) C hR (by omega) hN dX3_share_22 ?_
      refine xS_get (j := j) C hR (by omega) 17 (by decide) rfl fl_X3_131 (v := .int (S 17 j)) rfl dX3_share_23 ?_
      refine lv_i2d C.1 C.2.1 dX3_share_26 ?_
      refine lv_aload_n C.1 C.2.1 dX3_share_27 rfl (lv_at hl 0 rfl) ?_
      refine xO_get C hR 4 (by decide) rfl fl_X3_63 (v := .int (S 45 0)) rfl dX3_share_28 ?_
      refine lv_i2d C.1 C.2.1 dX3_share_31 ?_
      refine lv_ddiv C.1 C.2.1 dX3_share_32 (ddiv_ok _ c12) ?_
      have hv : r_X3_share_ok S j = FP.ddiv (FP.i2d (S 17 j)) (FP.i2d (S 45 0)) := (if_neg c12).trans (rfl)
      rw [hv]
      exact endd C hr hlk hR hS dX3_share_33
    · skip
      refine lv_dconst0 C.1 C.2.1 dX3_share_15 ?_
      have hv : r_X3_share_ok S j = FP.dconst0 := (if_pos c12).trans (rfl)
      rw [hv]
      exact endd C hr hlk hR hS dX3_share_16

theorem sw_out {x : Int32} (h0 : ¬ x = nI 0) (h1 : ¬ x = nI 1) (h2 : ¬ x = nI 2) (h3 : ¬ x = nI 3) (h4 : ¬ x = nI 4) (h5 : ¬ x = nI 5) (h6 : ¬ x = nI 6) (h7 : ¬ x = nI 7) (h8 : ¬ x = nI 8) (h9 : ¬ x = nI 9) (h10 : ¬ x = nI 10) (h11 : ¬ x = nI 11) : x.toInt < 0 ∨ 11 < x.toInt := by
  rcases pk_ix x (n := 12) (by decide) with h | h | ⟨j, hj, e⟩
  · exact Or.inl (by rw [Int32.lt_iff_toInt_lt] at h; exact h)
  · refine Or.inr ?_
    have : (nI 12).toInt ≤ x.toInt := by rw [Int32.le_iff_toInt_le] at h; exact h
    rw [nI_toInt (by decide)] at this
    omega
  · exfalso
    match j, hj with
    | 0, _ => exact h0 e
    | 1, _ => exact h1 e
    | 2, _ => exact h2 e
    | 3, _ => exact h3 e
    | 4, _ => exact h4 e
    | 5, _ => exact h5 e
    | 6, _ => exact h6 e
    | 7, _ => exact h7 e
    | 8, _ => exact h8 e
    | 9, _ => exact h9 e
    | 10, _ => exact h10 e
    | 11, _ => exact h11 e
    | k + 12, hj => omega
set_option maxHeartbeats 4000000 in
set_option maxRecDepth 100000 in
theorem k_X3_station_bad (l : Launch) (g : GX) (b N : Nat) (S : SX) (Fl : FX) (hN : N ≤ 6) (x w : Int32) (hb : bad N x)  : MR l yX3_station (.code yX3_station cX3_station 4 (some .int) :: tb) (rmk 1 21) g (RepX g b N S Fl) (RepX g b N S Fl) (AX b N) [.ref b, .int x, .int w] (some (.int ((-1)))) := by
  refine MR.start RX3 (by decide) rfl (Nat.le_of_ble_eq_true rfl) (fun zp ze zs zm zb zt zc ls C hr hlk hR hS hl => ?_)
  have hl : lv_has ls 4 [(0, .ref b), (1, .int x), (2, .int w)] := hl
  refine lv_aload_n C.1 C.2.1 dX3_station_0 rfl (lv_at hl 0 rfl) ?_
  refine lv_iload_n C.1 C.2.1 dX3_station_1 rfl (lv_at hl 1 rfl) ?_
  refine cxV (b := b) (As := [.int x]) (rest := []) (ci := 3) (q := (RX3, TX3, 6)) C (kis_bad l g b N S Fl hN x hb) cf_X3_isStation ml_X3_36 ⟨by decide, by decide⟩ ⟨rfl, rfl⟩ rfl (hR.1) rfl hl.1 rfl (Nat.le_of_ble_eq_true rfl) dX3_station_2 hR ⟨Nat.zero_le _, Nat.zero_le _⟩ hS (fun _ h => h) (fun H locs hR hS _ _ => ?_)
  simp only [Option.toList, List.cons_append, List.nil_append]
  refine lv_if_ne (tgt := 10) C.1 C.2.1 dX3_station_5 (by decide) (fun c5 => ?_) (fun c5 => ?_)
  · skip
    exact absurd c5 (by decide)
  · skip
    refine lv_iconst (v := (-1)) C.1 C.2.1 dX3_station_8 (by decide) ?_
    skip
    exact endi C hr hlk hR hS dX3_station_9

def r_X3_station_ok (S : SX) (j : Nat) (w : Int32) : Int32 := if w = nI 0 then (S 6 j) else (if w = nI 1 then (S 7 j) else (if w = nI 2 then (S 8 j) else (if w = nI 3 then (S 9 j) else (if w = nI 4 then (S 41 (2 * j)) else (if w = nI 5 then (S 41 (2 * j + 1)) else (if w = nI 6 then (S 12 j) else (if w = nI 7 then (S 14 j) else (if w = nI 8 then (S 15 j) else (if w = nI 9 then (S 16 j) else (if w = nI 10 then (S 17 j) else (if w = nI 11 then (S 18 j) else (-1))))))))))))
set_option maxHeartbeats 4000000 in
set_option maxRecDepth 100000 in
theorem k_X3_station_ok (l : Launch) (g : GX) (b N : Nat) (S : SX) (Fl : FX) (hN : N ≤ 6) (j : Nat) (hj : j < N) (w : Int32)  : MR l yX3_station (.code yX3_station cX3_station 4 (some .int) :: tb) (rmk 1 21) g (RepX g b N S Fl) (RepX g b N S Fl) (AX b N) [.ref b, .int (nI j), .int w] (some (.int (r_X3_station_ok S j w))) := by
  refine MR.start RX3 (by decide) rfl (Nat.le_of_ble_eq_true rfl) (fun zp ze zs zm zb zt zc ls C hr hlk hR hS hl => ?_)
  have hl : lv_has ls 4 [(0, .ref b), (1, .int (nI j)), (2, .int w)] := hl
  refine lv_aload_n C.1 C.2.1 dX3_station_0 rfl (lv_at hl 0 rfl) ?_
  refine lv_iload_n C.1 C.2.1 dX3_station_1 rfl (lv_at hl 1 rfl) ?_
  refine cxV (b := b) (As := [.int (nI j)]) (rest := []) (ci := 3) (q := (RX3, TX3, 6)) C (kis_ok l g b N S Fl hN j (by omega)) cf_X3_isStation ml_X3_36 ⟨by decide, by decide⟩ ⟨rfl, rfl⟩ rfl (hR.1) rfl hl.1 rfl (Nat.le_of_ble_eq_true rfl) dX3_station_2 hR ⟨Nat.zero_le _, Nat.zero_le _⟩ hS (fun _ h => h) (fun H locs hR hS _ _ => ?_)
  simp only [Option.toList, List.cons_append, List.nil_append]
  refine lv_if_ne (tgt := 10) C.1 C.2.1 dX3_station_5 (by decide) (fun c5 => ?_) (fun c5 => ?_)
  · skip
    refine lv_aload_n C.1 C.2.1 dX3_station_10 rfl (lv_at hl 0 rfl) ?_
    refine xO_get C hR 1 (by decide) rfl fl_X3_15 (v := .ref (b + 1)) rfl dX3_station_11 ?_
    refine lv_iload_n C.1 C.2.1 dX3_station_14 rfl (lv_at hl 1 rfl) ?_
    refine xS_ald (j := j) C hR (by omega) hN dX3_station_15 ?_
    refine lv_astore_n (lv' := [(3, .ref (aSt b j)), (0, .ref b), (1, .int (nI j)), (2, .int w)]) C.1 C.2.1 dX3_station_16 rfl hl (by decide) rfl (fun ls hl => ?_)
    refine lv_iload_n C.1 C.2.1 dX3_station_17 rfl (lv_at hl 3 rfl) ?_
    by_cases hw0 : w = nI 0
    · skip
      refine lv_tableIn (off := 62) (tgt := 80) C.1 C.2.1 dX3_station_18 (by rw [hw0]; decide) (by rw [hw0]; decide) (by rw [hw0]; decide) (by decide) ?_
      refine lv_aload_n C.1 C.2.1 dX3_station_80 rfl (lv_at hl 0 rfl) ?_
      refine xS_get (j := j) C hR (by omega) 6 (by decide) rfl fl_X3_97 (v := .int (S 6 j)) rfl dX3_station_81 ?_
      have hv : r_X3_station_ok S j w = S 6 j := (if_pos hw0).trans (rfl)
      rw [hv]
      exact endi C hr hlk hR hS dX3_station_84
    by_cases hw1 : w = nI 1
    · skip
      refine lv_tableIn (off := 67) (tgt := 85) C.1 C.2.1 dX3_station_18 (by rw [hw1]; decide) (by rw [hw1]; decide) (by rw [hw1]; decide) (by decide) ?_
      refine lv_aload_n C.1 C.2.1 dX3_station_85 rfl (lv_at hl 0 rfl) ?_
      refine xS_get (j := j) C hR (by omega) 7 (by decide) rfl fl_X3_100 (v := .int (S 7 j)) rfl dX3_station_86 ?_
      have hv : r_X3_station_ok S j w = S 7 j := (if_neg hw0).trans ((if_pos hw1).trans (rfl))
      rw [hv]
      exact endi C hr hlk hR hS dX3_station_89
    by_cases hw2 : w = nI 2
    · skip
      refine lv_tableIn (off := 72) (tgt := 90) C.1 C.2.1 dX3_station_18 (by rw [hw2]; decide) (by rw [hw2]; decide) (by rw [hw2]; decide) (by decide) ?_
      refine lv_aload_n C.1 C.2.1 dX3_station_90 rfl (lv_at hl 0 rfl) ?_
      refine xS_get (j := j) C hR (by omega) 8 (by decide) rfl fl_X3_103 (v := .int (S 8 j)) rfl dX3_station_91 ?_
      have hv : r_X3_station_ok S j w = S 8 j := (if_neg hw0).trans ((if_neg hw1).trans ((if_pos hw2).trans (rfl)))
      rw [hv]
      exact endi C hr hlk hR hS dX3_station_94
    by_cases hw3 : w = nI 3
    · skip
      refine lv_tableIn (off := 77) (tgt := 95) C.1 C.2.1 dX3_station_18 (by rw [hw3]; decide) (by rw [hw3]; decide) (by rw [hw3]; decide) (by decide) ?_
      refine lv_aload_n C.1 C.2.1 dX3_station_95 rfl (lv_at hl 0 rfl) ?_
      refine xS_get (j := j) C hR (by omega) 9 (by decide) rfl fl_X3_106 (v := .int (S 9 j)) rfl dX3_station_96 ?_
      have hv : r_X3_station_ok S j w = S 9 j := (if_neg hw0).trans ((if_neg hw1).trans ((if_neg hw2).trans ((if_pos hw3).trans (rfl))))
      rw [hv]
      exact endi C hr hlk hR hS dX3_station_99
    by_cases hw4 : w = nI 4
    · skip
      refine lv_tableIn (off := 82) (tgt := 100) C.1 C.2.1 dX3_station_18 (by rw [hw4]; decide) (by rw [hw4]; decide) (by rw [hw4]; decide) (by decide) ?_
      refine lv_aload_n C.1 C.2.1 dX3_station_100 rfl (lv_at hl 0 rfl) ?_
      refine xS_get (j := j) C hR (by omega) 0 (by decide) rfl fl_X3_109 (v := .ref (aQ b (2 * j))) rfl dX3_station_101 ?_
      refine xQ_get (q := 2 * j) C hR (by omega) 3 (by decide) rfl fl_X3_113 (v := .int (S 41 (2 * j))) rfl dX3_station_104 ?_
      have hv : r_X3_station_ok S j w = S 41 (2 * j) := (if_neg hw0).trans ((if_neg hw1).trans ((if_neg hw2).trans ((if_neg hw3).trans ((if_pos hw4).trans (rfl)))))
      rw [hv]
      exact endi C hr hlk hR hS dX3_station_107
    by_cases hw5 : w = nI 5
    · skip
      refine lv_tableIn (off := 90) (tgt := 108) C.1 C.2.1 dX3_station_18 (by rw [hw5]; decide) (by rw [hw5]; decide) (by rw [hw5]; decide) (by decide) ?_
      refine lv_aload_n C.1 C.2.1 dX3_station_108 rfl (lv_at hl 0 rfl) ?_
      refine xS_get (j := j) C hR (by omega) 1 (by decide) rfl fl_X3_116 (v := .ref (aQ b (2 * j + 1))) rfl dX3_station_109 ?_
      refine xQ_get (q := 2 * j + 1) C hR (by omega) 3 (by decide) rfl fl_X3_113 (v := .int (S 41 (2 * j + 1))) rfl dX3_station_112 ?_
      have hv : r_X3_station_ok S j w = S 41 (2 * j + 1) := (if_neg hw0).trans ((if_neg hw1).trans ((if_neg hw2).trans ((if_neg hw3).trans ((if_neg hw4).trans ((if_pos hw5).trans (rfl))))))
      rw [hv]
      exact endi C hr hlk hR hS dX3_station_115
    by_cases hw6 : w = nI 6
    · skip
      refine lv_tableIn (off := 98) (tgt := 116) C.1 C.2.1 dX3_station_18 (by rw [hw6]; decide) (by rw [hw6]; decide) (by rw [hw6]; decide) (by decide) ?_
      refine lv_aload_n C.1 C.2.1 dX3_station_116 rfl (lv_at hl 0 rfl) ?_
      refine xS_get (j := j) C hR (by omega) 12 (by decide) rfl fl_X3_119 (v := .int (S 12 j)) rfl dX3_station_117 ?_
      have hv : r_X3_station_ok S j w = S 12 j := (if_neg hw0).trans ((if_neg hw1).trans ((if_neg hw2).trans ((if_neg hw3).trans ((if_neg hw4).trans ((if_neg hw5).trans ((if_pos hw6).trans (rfl)))))))
      rw [hv]
      exact endi C hr hlk hR hS dX3_station_120
    by_cases hw7 : w = nI 7
    · skip
      refine lv_tableIn (off := 103) (tgt := 121) C.1 C.2.1 dX3_station_18 (by rw [hw7]; decide) (by rw [hw7]; decide) (by rw [hw7]; decide) (by decide) ?_
      refine lv_aload_n C.1 C.2.1 dX3_station_121 rfl (lv_at hl 0 rfl) ?_
      refine xS_get (j := j) C hR (by omega) 14 (by decide) rfl fl_X3_122 (v := .int (S 14 j)) rfl dX3_station_122 ?_
      have hv : r_X3_station_ok S j w = S 14 j := (if_neg hw0).trans ((if_neg hw1).trans ((if_neg hw2).trans ((if_neg hw3).trans ((if_neg hw4).trans ((if_neg hw5).trans ((if_neg hw6).trans ((if_pos hw7).trans (rfl))))))))
      rw [hv]
      exact endi C hr hlk hR hS dX3_station_125
    by_cases hw8 : w = nI 8
    · skip
      refine lv_tableIn (off := 108) (tgt := 126) C.1 C.2.1 dX3_station_18 (by rw [hw8]; decide) (by rw [hw8]; decide) (by rw [hw8]; decide) (by decide) ?_
      refine lv_aload_n C.1 C.2.1 dX3_station_126 rfl (lv_at hl 0 rfl) ?_
      refine xS_get (j := j) C hR (by omega) 15 (by decide) rfl fl_X3_125 (v := .int (S 15 j)) rfl dX3_station_127 ?_
      have hv : r_X3_station_ok S j w = S 15 j := (if_neg hw0).trans ((if_neg hw1).trans ((if_neg hw2).trans ((if_neg hw3).trans ((if_neg hw4).trans ((if_neg hw5).trans ((if_neg hw6).trans ((if_neg hw7).trans ((if_pos hw8).trans (rfl)))))))))
      rw [hv]
      exact endi C hr hlk hR hS dX3_station_130
    by_cases hw9 : w = nI 9
    · skip
      refine lv_tableIn (off := 113) (tgt := 131) C.1 C.2.1 dX3_station_18 (by rw [hw9]; decide) (by rw [hw9]; decide) (by rw [hw9]; decide) (by decide) ?_
      refine lv_aload_n C.1 C.2.1 dX3_station_131 rfl (lv_at hl 0 rfl) ?_
      refine xS_get (j := j) C hR (by omega) 16 (by decide) rfl fl_X3_128 (v := .int (S 16 j)) rfl dX3_station_132 ?_
      have hv : r_X3_station_ok S j w = S 16 j := (if_neg hw0).trans ((if_neg hw1).trans ((if_neg hw2).trans ((if_neg hw3).trans ((if_neg hw4).trans ((if_neg hw5).trans ((if_neg hw6).trans ((if_neg hw7).trans ((if_neg hw8).trans ((if_pos hw9).trans (rfl))))))))))
      rw [hv]
      exact endi C hr hlk hR hS dX3_station_135
    by_cases hw10 : w = nI 10
    · skip
      refine lv_tableIn (off := 118) (tgt := 136) C.1 C.2.1 dX3_station_18 (by rw [hw10]; decide) (by rw [hw10]; decide) (by rw [hw10]; decide) (by decide) ?_
      refine lv_aload_n C.1 C.2.1 dX3_station_136 rfl (lv_at hl 0 rfl) ?_
      refine xS_get (j := j) C hR (by omega) 17 (by decide) rfl fl_X3_131 (v := .int (S 17 j)) rfl dX3_station_137 ?_
      have hv : r_X3_station_ok S j w = S 17 j := (if_neg hw0).trans ((if_neg hw1).trans ((if_neg hw2).trans ((if_neg hw3).trans ((if_neg hw4).trans ((if_neg hw5).trans ((if_neg hw6).trans ((if_neg hw7).trans ((if_neg hw8).trans ((if_neg hw9).trans ((if_pos hw10).trans (rfl)))))))))))
      rw [hv]
      exact endi C hr hlk hR hS dX3_station_140
    by_cases hw11 : w = nI 11
    · skip
      refine lv_tableIn (off := 123) (tgt := 141) C.1 C.2.1 dX3_station_18 (by rw [hw11]; decide) (by rw [hw11]; decide) (by rw [hw11]; decide) (by decide) ?_
      refine lv_aload_n C.1 C.2.1 dX3_station_141 rfl (lv_at hl 0 rfl) ?_
      refine xS_get (j := j) C hR (by omega) 18 (by decide) rfl fl_X3_134 (v := .int (S 18 j)) rfl dX3_station_142 ?_
      have hv : r_X3_station_ok S j w = S 18 j := (if_neg hw0).trans ((if_neg hw1).trans ((if_neg hw2).trans ((if_neg hw3).trans ((if_neg hw4).trans ((if_neg hw5).trans ((if_neg hw6).trans ((if_neg hw7).trans ((if_neg hw8).trans ((if_neg hw9).trans ((if_neg hw10).trans ((if_pos hw11).trans (rfl))))))))))))
      rw [hv]
      exact endi C hr hlk hR hS dX3_station_145
    refine lv_tableOut (tgt := 146) C.1 C.2.1 dX3_station_18 (sw_out hw0 hw1 hw2 hw3 hw4 hw5 hw6 hw7 hw8 hw9 hw10 hw11) (by decide) ?_
    refine lv_iconst (v := (-1)) C.1 C.2.1 dX3_station_146 (by decide) ?_
    have hv : r_X3_station_ok S j w = (-1) := (if_neg hw0).trans ((if_neg hw1).trans ((if_neg hw2).trans ((if_neg hw3).trans ((if_neg hw4).trans ((if_neg hw5).trans ((if_neg hw6).trans ((if_neg hw7).trans ((if_neg hw8).trans ((if_neg hw9).trans ((if_neg hw10).trans ((if_neg hw11).trans (rfl))))))))))))
    rw [hv]
    exact endi C hr hlk hR hS dX3_station_147
  · skip
    exact absurd c5 (by decide)

def nv (x : Int32) : Nat := x.toNatClampNeg
theorem nv_nI {n : Nat} (h : n < 1000) : nv (nI n) = n := nI_clamp (by omega)
def IX (N : Nat) (S : SX) : Prop := (∀ f, f < N → S 20 f = nI f) ∧ (∀ f, f < N → ∃ p, p < N ∧ S 25 f = nI p) ∧ (∀ f, f < N → ∃ L, L ≤ N ∧ S 21 f = nI L) ∧ (∀ q, q < 2 * N → ∃ z, z ≤ 5 ∧ S 41 q = nI z) ∧ (∀ i, i < 10 * N → ∃ t, t < N ∧ S 42 i = nI t)
def qS (N : Nat) (S : SX) (f : Nat) : Nat := qof (wr N (f + nv (S 25 f))) (S 28 f)
theorem IX.p {N : Nat} {S : SX} (h : IX N S) (hN : N ≤ 6) {f : Nat} (hf : f < N) : nv (S 25 f) < N ∧ S 25 f = nI (nv (S 25 f)) := by
  obtain ⟨p, h1, h2⟩ := h.2.1 f hf
  rw [h2, nv_nI (by omega)]
  exact ⟨h1, rfl⟩
theorem IX.L {N : Nat} {S : SX} (h : IX N S) (hN : N ≤ 6) {f : Nat} (hf : f < N) : nv (S 21 f) ≤ N ∧ S 21 f = nI (nv (S 21 f)) := by
  obtain ⟨p, h1, h2⟩ := h.2.2.1 f hf
  rw [h2, nv_nI (by omega)]
  exact ⟨h1, rfl⟩
theorem IX.z {N : Nat} {S : SX} (h : IX N S) {q : Nat} (hq : q < 2 * N) : nv (S 41 q) ≤ 5 ∧ S 41 q = nI (nv (S 41 q)) := by
  obtain ⟨p, h1, h2⟩ := h.2.2.2.1 q hq
  rw [h2, nv_nI (by omega)]
  exact ⟨h1, rfl⟩
theorem IX.t {N : Nat} {S : SX} (h : IX N S) (hN : N ≤ 6) {i : Nat} (hi : i < 10 * N) : nv (S 42 i) < N ∧ S 42 i = nI (nv (S 42 i)) := by
  obtain ⟨p, h1, h2⟩ := h.2.2.2.2 i hi
  rw [h2, nv_nI (by omega)]
  exact ⟨h1, rfl⟩
theorem IX.q {N : Nat} {S : SX} (h : IX N S) (hN : N ≤ 6) {f : Nat} (hf : f < N) : qS N S f < 2 * N := qof_lt (wr_lt (by have := (h.p hN hf).1; omega))
def xRef (N : Nat) (S : SX) (f L : Nat) (cl : Int32) : SX := sfr N (ref0 S N f (nv (S 25 f)) (nv (S 41 (qS N S f))) L cl) f L
theorem kx_reform (l : Launch) (g : GX) (b N : Nat) (S : SX) (Fl : FX) (hN : N ≤ 6) (hI : IX N S) (f : Nat) (hf : f < N) (L : Nat) (hL : L ≤ N) (cl : Int32) (hcl : cl = 0 ∨ cl = 1) : MR l yX3_reform (.code yX3_reform cX3_reform 5 none :: tb) (rmk 3 67) g (RepX g b N S Fl) (RepX g b N (xRef N S f L cl) Fl) (AX b N) [.ref b, .ref (aRg b f), .int (nI L), .int cl] none :=
  k_X3_reform l g b N S Fl hN f (nv (S 25 f)) (nv (S 41 (qS N S f))) hf (hI.p hN hf).1 (hI.z (hI.q hN hf)).1 (hI.1 f hf) (hI.p hN hf).2 (hI.z (hI.q hN hf)).2 L hL cl hcl
theorem shf_IX {N : Nat} {S : SX} {q i : Nat} (hi : i ≤ 4) (hq : q < 2 * N) (h : ∀ k, k < 10 * N → ∃ t, t < N ∧ S 42 k = nI t) : ∀ k, k < 10 * N → ∃ t, t < N ∧ shf S q i 42 k = nI t := by
  intro k hk
  simp only [shf]
  split
  · exact h (k + 1) (by omega)
  · exact h k hk
theorem s_rem_IX {N : Nat} {S : SX} {q z : Nat} (hq : q < 2 * N) (hz : z ≤ 5) (h : IX N S) : IX N (s_rem S q z) := by
  obtain ⟨h1, h2, h3, h4, h5⟩ := h
  refine ⟨fun f hf => ?_, fun f hf => ?_, fun f hf => ?_, fun k hk => ?_, ?_⟩
  · rw [s_rem_o (by decide)]; exact h1 f hf
  · rw [s_rem_o (by decide)]; exact h2 f hf
  · rw [s_rem_o (by decide)]; exact h3 f hf
  · unfold s_rem
    split
    · exact h4 k hk
    · rw [shf_o (by decide)]
      by_cases hkq : k = q
      · subst hkq; rw [up2_eq]; exact ⟨z - 1, by omega, rfl⟩
      · rw [up2_i hkq]; exact h4 k hk
  · unfold s_rem
    split
    · exact h5
    · exact shf_IX (by omega) hq (fun k hk => by rw [up2_f (by decide)]; exact h5 k hk)
theorem up_IX {N : Nat} {S : SX} {g i : Nat} {v : Int32} (h : IX N S) (h1 : g ≠ 20) (h2 : g ≠ 25) (h3 : g ≠ 21) (h4 : g ≠ 41) (h5 : g ≠ 42) : IX N (up2 S g i v) := by
  obtain ⟨a1, a2, a3, a4, a5⟩ := h
  refine ⟨fun f hf => ?_, fun f hf => ?_, fun f hf => ?_, fun k hk => ?_, fun k hk => ?_⟩
  · rw [up2_f (Ne.symm h1)]; exact a1 f hf
  · rw [up2_f (Ne.symm h2)]; exact a2 f hf
  · rw [up2_f (Ne.symm h3)]; exact a3 f hf
  · rw [up2_f (Ne.symm h4)]; exact a4 k hk
  · rw [up2_f (Ne.symm h5)]; exact a5 k hk
theorem up21_IX {N : Nat} {S : SX} {i L : Nat} (h : IX N S) (hL : L ≤ N) : IX N (up2 S 21 i (nI L)) := by
  obtain ⟨a1, a2, a3, a4, a5⟩ := h
  refine ⟨fun f hf => ?_, fun f hf => ?_, fun f hf => ?_, fun k hk => ?_, fun k hk => ?_⟩
  · rw [up2_f (by decide)]; exact a1 f hf
  · rw [up2_f (by decide)]; exact a2 f hf
  · by_cases e : f = i
    · subst e; rw [up2_eq]; exact ⟨L, hL, rfl⟩
    · rw [up2_i e]; exact a3 f hf
  · rw [up2_f (by decide)]; exact a4 k hk
  · rw [up2_f (by decide)]; exact a5 k hk
theorem lose_IX {N : Nat} {S : SX} {f p z : Nat} (hf : f < N) (hp : p < N) (hz : z ≤ 5) (h : IX N S) : IX N (s_X3_loseFrameBeingSent S N f p z) := by
  unfold s_X3_loseFrameBeingSent
  split
  · exact h
  · exact up_IX (up_IX (s_rem_IX (qof_lt (wr_lt (by omega))) hz h) (by decide) (by decide) (by decide) (by decide) (by decide)) (by decide) (by decide) (by decide) (by decide) (by decide)
theorem sfr_IX {N : Nat} {S : SX} {f i : Nat} (h : IX N S) : IX N (sfr N S f i) := by
  induction i with
  | zero => exact h
  | succ i ih => exact up_IX ih (by decide) (by decide) (by decide) (by decide) (by decide)
theorem xRef_IX {N : Nat} {S : SX} (hN : N ≤ 6) (h : IX N S) {f L : Nat} {cl : Int32} (hf : f < N) (hL : L ≤ N) : IX N (xRef N S f L cl) := by
  unfold xRef ref0
  exact sfr_IX (up_IX (up_IX (up21_IX (lose_IX hf (h.p hN hf).1 (h.z (h.q hN hf)).1 h) hL) (by decide) (by decide) (by decide) (by decide) (by decide)) (by decide) (by decide) (by decide) (by decide) (by decide))
def fL (N : Nat) (u : Bool) (S : SX) (i : Nat) : Nat := if u = true then (if i = 0 then N else 0) else rowL N S i
def fC (u : Bool) (i : Nat) : Int32 := if u = true then (if i = 0 then nI 1 else nI 0) else nI 0
def fstep (N : Nat) (u : Bool) (S : SX) (i : Nat) : SX := if fL N u S i = nv (S 21 i) ∧ fC u i = S 22 i then S else xRef N S i (fL N u S i) (fC u i)
def frl (N : Nat) (u : Bool) (S : SX) : Nat → SX
  | 0 => S
  | i + 1 => fstep N u (frl N u S i) i
theorem fL_le {N : Nat} {u : Bool} {S : SX} {i : Nat} (h : 1 ≤ N) : fL N u S i ≤ N := by
  unfold fL
  split
  · split <;> omega
  · exact rowL_le h
theorem fstep_IX {N : Nat} {u : Bool} {S : SX} {i : Nat} (hN : N ≤ 6) (hi : i < N) (h : IX N S) : IX N (fstep N u S i) := by
  unfold fstep
  split
  · exact h
  · exact xRef_IX hN h hi (fL_le (by omega))
