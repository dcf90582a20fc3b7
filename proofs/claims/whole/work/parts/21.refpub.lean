theorem mist_ok {N : Nat} {M : SX} (hN : N ≤ 6) {j : Nat} (hj : j < N) : r_X4_isStation M N (nI j) = nI 1 := by
  unfold r_X4_isStation
  rw [if_neg (nI_pos (by omega)), if_neg (nI_ge hj (by omega))]
theorem mist_bad {N : Nat} {M : SX} (hN : N ≤ 6) {x : Int32} (h : bad N x) : r_X4_isStation M N x = nI 0 := by
  unfold r_X4_isStation
  rcases pk_ix x (n := N) (by omega) with h1 | h1 | ⟨j, h1, h2⟩
  · rw [if_pos h1]
  · split
    · rfl
    · rfl
  · exact absurd h2 (h j h1)
theorem mis_ok (l : Launch) (g : GX) (d N : Nat) (M : SX) (G : FX) (hN : N ≤ 6) (j : Nat) (hj : j < N) : MR l yX4_isStation (.code yX4_isStation cX4_isStation 2 (some .boolean) :: tb) (rmk 0 0) g (RepM g d N M G) (RepM g d N M G) (AM d) [.ref d, .int (nI j)] (some (.int (nI 1))) := by
  have h := k_X4_isStation l g d N M G hN (nI j)
  rw [mist_ok hN hj] at h
  exact h
theorem mis_bad (l : Launch) (g : GX) (d N : Nat) (M : SX) (G : FX) (hN : N ≤ 6) (x : Int32) (hb : bad N x) : MR l yX4_isStation (.code yX4_isStation cX4_isStation 2 (some .boolean) :: tb) (rmk 0 0) g (RepM g d N M G) (RepM g d N M G) (AM d) [.ref d, .int x] (some (.int (nI 0))) := by
  have h := k_X4_isStation l g d N M G hN x
  rw [mist_bad hN hb] at h
  exact h

set_option maxHeartbeats 4000000 in
set_option maxRecDepth 100000 in
theorem k_X4_bid_bad (l : Launch) (g : GX) (d N : Nat) (M : SX) (G : FX) (hN : N ≤ 6) (x t : Int32) (hb : bad N x)  : MR l yX4_bid (.code yX4_bid cX4_bid 3 (some .boolean) :: tb) (rmk 1 21) g (RepM g d N M G) (RepM g d N M G) (AM d) [.ref d, .int x, .int t] (some (.int (nI 0))) := by
  refine MR.start RX4 (by decide) rfl (Nat.le_of_ble_eq_true rfl) (fun zp ze zs zm zb zt zc ls C hr hlk hR hS hl => ?_)
  have hl : lv_has ls 3 [(0, .ref d), (1, .int x), (2, .int t)] := hl
  refine lv_aload_n C.1 C.2.1 dX4_bid_0 rfl (lv_at hl 0 rfl) ?_
  refine lv_iload_n C.1 C.2.1 dX4_bid_1 rfl (lv_at hl 1 rfl) ?_
  refine cxV (b := d) (As := [.int x]) (rest := []) (ci := 4) (q := (RX4, TX4, 36)) C (mis_bad l g d N M G hN x hb) cf_X4_isStation ml_X4_168 ⟨by decide, by decide⟩ ⟨rfl, rfl⟩ rfl (hR.1) rfl hl.1 rfl (Nat.le_of_ble_eq_true rfl) dX4_bid_2 hR ⟨Nat.zero_le _, Nat.zero_le _⟩ hS (fun _ h => h) (fun H locs hR hS _ _ => ?_)
  simp only [Option.toList, List.cons_append, List.nil_append]
  refine lv_if_eq (tgt := 19) C.1 C.2.1 dX4_bid_5 (by decide) (fun c5 => ?_) (fun c5 => ?_)
  · skip
    refine lv_iconst (v := nI 0) C.1 C.2.1 dX4_bid_19 (by decide) ?_
    skip
    exact endz C hr hlk (Or.inl rfl) hR hS dX4_bid_20
  · skip
    exact absurd c5 (by decide)

def s_X4_bid_ok (M : SX) (j : Nat) (t : Int32) : SX := if t < nI 4 then M else (if t ≤ nI 60 then (up2 M 5 j t) else M)
def r_X4_bid_ok (M : SX) (j : Nat) (t : Int32) : Int32 := if t < nI 4 then (nI 0) else (if t ≤ nI 60 then (nI 1) else (nI 0))
set_option maxHeartbeats 4000000 in
set_option maxRecDepth 100000 in
theorem k_X4_bid_ok (l : Launch) (g : GX) (d N : Nat) (M : SX) (G : FX) (hN : N ≤ 6) (j : Nat) (hj : j < N) (t : Int32)  : MR l yX4_bid (.code yX4_bid cX4_bid 3 (some .boolean) :: tb) (rmk 1 21) g (RepM g d N M G) (RepM g d N (s_X4_bid_ok M j t) G) (AM d) [.ref d, .int (nI j), .int t] (some (.int (r_X4_bid_ok M j t))) := by
  refine MR.start RX4 (by decide) rfl (Nat.le_of_ble_eq_true rfl) (fun zp ze zs zm zb zt zc ls C hr hlk hR hS hl => ?_)
  have hl : lv_has ls 3 [(0, .ref d), (1, .int (nI j)), (2, .int t)] := hl
  refine lv_aload_n C.1 C.2.1 dX4_bid_0 rfl (lv_at hl 0 rfl) ?_
  refine lv_iload_n C.1 C.2.1 dX4_bid_1 rfl (lv_at hl 1 rfl) ?_
  refine cxV (b := d) (As := [.int (nI j)]) (rest := []) (ci := 4) (q := (RX4, TX4, 36)) C (mis_ok l g d N M G hN j (by omega)) cf_X4_isStation ml_X4_168 ⟨by decide, by decide⟩ ⟨rfl, rfl⟩ rfl (hR.1) rfl hl.1 rfl (Nat.le_of_ble_eq_true rfl) dX4_bid_2 hR ⟨Nat.zero_le _, Nat.zero_le _⟩ hS (fun _ h => h) (fun H locs hR hS _ _ => ?_)
  simp only [Option.toList, List.cons_append, List.nil_append]
  refine lv_if_eq (tgt := 19) C.1 C.2.1 dX4_bid_5 (by decide) (fun c5 => ?_) (fun c5 => ?_)
  · skip
    exact absurd c5 (by decide)
  · skip
    refine lv_iload_n C.1 C.2.1 dX4_bid_8 rfl (lv_at hl 2 rfl) ?_
    refine lv_iconst (v := nI 4) C.1 C.2.1 dX4_bid_9 (by decide) ?_
    refine lv_icmp_lt (tgt := 19) C.1 C.2.1 dX4_bid_10 (by decide) (fun c10 => ?_) (fun c10 => ?_)
    · skip
      refine lv_iconst (v := nI 0) C.1 C.2.1 dX4_bid_19 (by decide) ?_
      have hs : s_X4_bid_ok M j t = M := (if_pos c10).trans (rfl)
      rw [hs]
      have hv : r_X4_bid_ok M j t = nI 0 := (if_pos c10).trans (rfl)
      rw [hv]
      exact endz C hr hlk (Or.inl rfl) hR hS dX4_bid_20
    · skip
      refine lv_iload_n C.1 C.2.1 dX4_bid_13 rfl (lv_at hl 2 rfl) ?_
      refine lv_bipush (v := nI 60) C.1 C.2.1 dX4_bid_14 (by decide) ?_
      refine lv_icmp_le (tgt := 21) C.1 C.2.1 dX4_bid_16 (by decide) (fun c16 => ?_) (fun c16 => ?_)
      · skip
        refine lv_aload_n C.1 C.2.1 dX4_bid_21 rfl (lv_at hl 0 rfl) ?_
        refine m_get C hR 5 (by decide) rfl fl_X4_16 (v := .ref (mA d 5)) rfl dX4_bid_22 ?_
        refine lv_iload_n C.1 C.2.1 dX4_bid_25 rfl (lv_at hl 1 rfl) ?_
        refine lv_iload_n C.1 C.2.1 dX4_bid_26 rfl (lv_at hl 2 rfl) ?_
        refine mI_st (k := 5) (j := j) C hR hS (by simp only [mAr]; decide) rfl (show j < 6 by omega) dX4_bid_27 (fun zM1 H locs ezM1 hR hS => ?_)
        refine lv_iconst (v := nI 1) C.1 C.2.1 dX4_bid_28 (by decide) ?_
        have hs : s_X4_bid_ok M j t = zM1 := (if_neg c10).trans ((if_pos c16).trans (by rw [ezM1]))
        rw [hs]
        have hv : r_X4_bid_ok M j t = nI 1 := (if_neg c10).trans ((if_pos c16).trans (rfl))
        rw [hv]
        exact endz C hr hlk (Or.inr rfl) hR hS dX4_bid_29
      · skip
        refine lv_iconst (v := nI 0) C.1 C.2.1 dX4_bid_19 (by decide) ?_
        have hs : s_X4_bid_ok M j t = M := (if_neg c10).trans ((if_neg c16).trans (rfl))
        rw [hs]
        have hv : r_X4_bid_ok M j t = nI 0 := (if_neg c10).trans ((if_neg c16).trans (rfl))
        rw [hv]
        exact endz C hr hlk (Or.inl rfl) hR hS dX4_bid_20

set_option maxHeartbeats 4000000 in
set_option maxRecDepth 100000 in
theorem k_X4_allot_bad (l : Launch) (g : GX) (d N : Nat) (M : SX) (G : FX) (hN : N ≤ 6) (x t : Int32) (hb : bad N x)  : MR l yX4_allot (.code yX4_allot cX4_allot 3 (some .boolean) :: tb) (rmk 1 21) g (RepM g d N M G) (RepM g d N M G) (AM d) [.ref d, .int x, .int t] (some (.int (nI 0))) := by
  refine MR.start RX4 (by decide) rfl (Nat.le_of_ble_eq_true rfl) (fun zp ze zs zm zb zt zc ls C hr hlk hR hS hl => ?_)
  have hl : lv_has ls 3 [(0, .ref d), (1, .int x), (2, .int t)] := hl
  refine lv_aload_n C.1 C.2.1 dX4_allot_0 rfl (lv_at hl 0 rfl) ?_
  refine lv_iload_n C.1 C.2.1 dX4_allot_1 rfl (lv_at hl 1 rfl) ?_
  refine cxV (b := d) (As := [.int x]) (rest := []) (ci := 4) (q := (RX4, TX4, 36)) C (mis_bad l g d N M G hN x hb) cf_X4_isStation ml_X4_168 ⟨by decide, by decide⟩ ⟨rfl, rfl⟩ rfl (hR.1) rfl hl.1 rfl (Nat.le_of_ble_eq_true rfl) dX4_allot_2 hR ⟨Nat.zero_le _, Nat.zero_le _⟩ hS (fun _ h => h) (fun H locs hR hS _ _ => ?_)
  simp only [Option.toList, List.cons_append, List.nil_append]
  refine lv_if_eq (tgt := 18) C.1 C.2.1 dX4_allot_5 (by decide) (fun c5 => ?_) (fun c5 => ?_)
  · skip
    refine lv_iconst (v := nI 0) C.1 C.2.1 dX4_allot_18 (by decide) ?_
    skip
    exact endz C hr hlk (Or.inl rfl) hR hS dX4_allot_19
  · skip
    exact absurd c5 (by decide)

def s_X4_allot_ok (M : SX) (j : Nat) (t : Int32) : SX := if t < 0 then M else (if t ≤ nI 20 then (up2 M 6 j t) else M)
def r_X4_allot_ok (M : SX) (j : Nat) (t : Int32) : Int32 := if t < 0 then (nI 0) else (if t ≤ nI 20 then (nI 1) else (nI 0))
set_option maxHeartbeats 4000000 in
set_option maxRecDepth 100000 in
theorem k_X4_allot_ok (l : Launch) (g : GX) (d N : Nat) (M : SX) (G : FX) (hN : N ≤ 6) (j : Nat) (hj : j < N) (t : Int32)  : MR l yX4_allot (.code yX4_allot cX4_allot 3 (some .boolean) :: tb) (rmk 1 21) g (RepM g d N M G) (RepM g d N (s_X4_allot_ok M j t) G) (AM d) [.ref d, .int (nI j), .int t] (some (.int (r_X4_allot_ok M j t))) := by
  refine MR.start RX4 (by decide) rfl (Nat.le_of_ble_eq_true rfl) (fun zp ze zs zm zb zt zc ls C hr hlk hR hS hl => ?_)
  have hl : lv_has ls 3 [(0, .ref d), (1, .int (nI j)), (2, .int t)] := hl
  refine lv_aload_n C.1 C.2.1 dX4_allot_0 rfl (lv_at hl 0 rfl) ?_
  refine lv_iload_n C.1 C.2.1 dX4_allot_1 rfl (lv_at hl 1 rfl) ?_
  refine cxV (b := d) (As := [.int (nI j)]) (rest := []) (ci := 4) (q := (RX4, TX4, 36)) C (mis_ok l g d N M G hN j (by omega)) cf_X4_isStation ml_X4_168 ⟨by decide, by decide⟩ ⟨rfl, rfl⟩ rfl (hR.1) rfl hl.1 rfl (Nat.le_of_ble_eq_true rfl) dX4_allot_2 hR ⟨Nat.zero_le _, Nat.zero_le _⟩ hS (fun _ h => h) (fun H locs hR hS _ _ => ?_)
  simp only [Option.toList, List.cons_append, List.nil_append]
  refine lv_if_eq (tgt := 18) C.1 C.2.1 dX4_allot_5 (by decide) (fun c5 => ?_) (fun c5 => ?_)
  · skip
    exact absurd c5 (by decide)
  · skip
    refine lv_iload_n C.1 C.2.1 dX4_allot_8 rfl (lv_at hl 2 rfl) ?_
    refine lv_if_lt (tgt := 18) C.1 C.2.1 dX4_allot_9 (by decide) (fun c9 => ?_) (fun c9 => ?_)
    · skip
      refine lv_iconst (v := nI 0) C.1 C.2.1 dX4_allot_18 (by decide) ?_
      have hs : s_X4_allot_ok M j t = M := (if_pos c9).trans (rfl)
      rw [hs]
      have hv : r_X4_allot_ok M j t = nI 0 := (if_pos c9).trans (rfl)
      rw [hv]
      exact endz C hr hlk (Or.inl rfl) hR hS dX4_allot_19
    · skip
      refine lv_iload_n C.1 C.2.1 dX4_allot_12 rfl (lv_at hl 2 rfl) ?_
      refine lv_bipush (v := nI 20) C.1 C.2.1 dX4_allot_13 (by decide) ?_
      refine lv_icmp_le (tgt := 20) C.1 C.2.1 dX4_allot_15 (by decide) (fun c15 => ?_) (fun c15 => ?_)
      · skip
        refine lv_aload_n C.1 C.2.1 dX4_allot_20 rfl (lv_at hl 0 rfl) ?_
        refine m_get C hR 6 (by decide) rfl fl_X4_20 (v := .ref (mA d 6)) rfl dX4_allot_21 ?_
        refine lv_iload_n C.1 C.2.1 dX4_allot_24 rfl (lv_at hl 1 rfl) ?_
        refine lv_iload_n C.1 C.2.1 dX4_allot_25 rfl (lv_at hl 2 rfl) ?_
        refine mI_st (k := 6) (j := j) C hR hS (by simp only [mAr]; decide) rfl (show j < 6 by omega) dX4_allot_26 (fun zM1 H locs ezM1 hR hS => ?_)
        refine lv_iconst (v := nI 1) C.1 C.2.1 dX4_allot_27 (by decide) ?_
        have hs : s_X4_allot_ok M j t = zM1 := (if_neg c9).trans ((if_pos c15).trans (by rw [ezM1]))
        rw [hs]
        have hv : r_X4_allot_ok M j t = nI 1 := (if_neg c9).trans ((if_pos c15).trans (rfl))
        rw [hv]
        exact endz C hr hlk (Or.inr rfl) hR hS dX4_allot_28
      · skip
        refine lv_iconst (v := nI 0) C.1 C.2.1 dX4_allot_18 (by decide) ?_
        have hs : s_X4_allot_ok M j t = M := (if_neg c9).trans ((if_neg c15).trans (rfl))
        rw [hs]
        have hv : r_X4_allot_ok M j t = nI 0 := (if_neg c9).trans ((if_neg c15).trans (rfl))
        rw [hv]
        exact endz C hr hlk (Or.inl rfl) hR hS dX4_allot_19

set_option maxHeartbeats 4000000 in
set_option maxRecDepth 100000 in
theorem k_X4_send_bad (l : Launch) (g : GX) (d N : Nat) (M : SX) (G : FX) (hN : N ≤ 6) (x y n pr : Int32) (hb : bad N x)  : MR l yX4_send (.code yX4_send cX4_send 7 (some .boolean) :: tb) (rmk 1 21) g (RepM g d N M G) (RepM g d N M G) (AM d) [.ref d, .int x, .int y, .int n, .int pr] (some (.int (nI 0))) := by
  refine MR.start RX4 (by decide) rfl (Nat.le_of_ble_eq_true rfl) (fun zp ze zs zm zb zt zc ls C hr hlk hR hS hl => ?_)
  have hl : lv_has ls 7 [(0, .ref d), (1, .int x), (2, .int y), (3, .int n), (4, .int pr)] := hl
  refine lv_aload_n C.1 C.2.1 dX4_send_0 rfl (lv_at hl 0 rfl) ?_
  refine lv_iload_n C.1 C.2.1 dX4_send_1 rfl (lv_at hl 1 rfl) ?_
  refine cxV (b := d) (As := [.int x]) (rest := []) (ci := 4) (q := (RX4, TX4, 36)) C (mis_bad l g d N M G hN x hb) cf_X4_isStation ml_X4_168 ⟨by decide, by decide⟩ ⟨rfl, rfl⟩ rfl (hR.1) rfl hl.1 rfl (Nat.le_of_ble_eq_true rfl) dX4_send_2 hR ⟨Nat.zero_le _, Nat.zero_le _⟩ hS (fun _ h => h) (fun H locs hR hS _ _ => ?_)
  simp only [Option.toList, List.cons_append, List.nil_append]
  refine lv_if_eq (tgt := 43) C.1 C.2.1 dX4_send_5 (by decide) (fun c5 => ?_) (fun c5 => ?_)
  · skip
    refine lv_iconst (v := nI 0) C.1 C.2.1 dX4_send_43 (by decide) ?_
    skip
    exact endz C hr hlk (Or.inl rfl) hR hS dX4_send_44
  · skip
    exact absurd c5 (by decide)

set_option maxHeartbeats 4000000 in
set_option maxRecDepth 100000 in
theorem k_X4_send_bad2 (l : Launch) (g : GX) (d N : Nat) (M : SX) (G : FX) (hN : N ≤ 6) (j : Nat) (hj : j < N) (y n pr : Int32) (hb : bad N y)  : MR l yX4_send (.code yX4_send cX4_send 7 (some .boolean) :: tb) (rmk 1 21) g (RepM g d N M G) (RepM g d N M G) (AM d) [.ref d, .int (nI j), .int y, .int n, .int pr] (some (.int (nI 0))) := by
  refine MR.start RX4 (by decide) rfl (Nat.le_of_ble_eq_true rfl) (fun zp ze zs zm zb zt zc ls C hr hlk hR hS hl => ?_)
  have hl : lv_has ls 7 [(0, .ref d), (1, .int (nI j)), (2, .int y), (3, .int n), (4, .int pr)] := hl
  refine lv_aload_n C.1 C.2.1 dX4_send_0 rfl (lv_at hl 0 rfl) ?_
  refine lv_iload_n C.1 C.2.1 dX4_send_1 rfl (lv_at hl 1 rfl) ?_
  refine cxV (b := d) (As := [.int (nI j)]) (rest := []) (ci := 4) (q := (RX4, TX4, 36)) C (mis_ok l g d N M G hN j (by omega)) cf_X4_isStation ml_X4_168 ⟨by decide, by decide⟩ ⟨rfl, rfl⟩ rfl (hR.1) rfl hl.1 rfl (Nat.le_of_ble_eq_true rfl) dX4_send_2 hR ⟨Nat.zero_le _, Nat.zero_le _⟩ hS (fun _ h => h) (fun H locs hR hS _ _ => ?_)
  simp only [Option.toList, List.cons_append, List.nil_append]
  refine lv_if_eq (tgt := 43) C.1 C.2.1 dX4_send_5 (by decide) (fun c5 => ?_) (fun c5 => ?_)
  · skip
    exact absurd c5 (by decide)
  · skip
    refine lv_aload_n C.1 C.2.1 dX4_send_8 rfl (lv_at hl 0 rfl) ?_
    refine lv_iload_n C.1 C.2.1 dX4_send_9 rfl (lv_at hl 2 rfl) ?_
    refine cxV (b := d) (As := [.int y]) (rest := []) (ci := 4) (q := (RX4, TX4, 36)) C (mis_bad l g d N M G hN y hb) cf_X4_isStation ml_X4_168 ⟨by decide, by decide⟩ ⟨rfl, rfl⟩ rfl (hR.1) rfl hl.1 rfl (Nat.le_of_ble_eq_true rfl) dX4_send_10 hR ⟨Nat.zero_le _, Nat.zero_le _⟩ hS (fun _ h => h) (fun H locs hR hS _ _ => ?_)
    simp only [Option.toList, List.cons_append, List.nil_append]
    refine lv_if_eq (tgt := 43) C.1 C.2.1 dX4_send_13 (by decide) (fun c13 => ?_) (fun c13 => ?_)
    · skip
      refine lv_iconst (v := nI 0) C.1 C.2.1 dX4_send_43 (by decide) ?_
      skip
      exact endz C hr hlk (Or.inl rfl) hR hS dX4_send_44
    · skip
      exact absurd c13 (by decide)

def s_X4_send_ok (M : SX) (j t : Nat) (n pr : Int32) (z0 z1 : Nat) : SX := if j = t then M else (if n < nI 1 then M else (if nI 10 < n then M else (if pr < 0 then M else (if pr ≤ nI 3 then (if pr = nI 3 then (if z1 < 5 then (up2 (up2 (up2 (up2 M 22 (5 * (2 * j) + z1) (nI t)) 23 (5 * (2 * j) + z1) n) 24 (5 * (2 * j) + z1) pr) 21 (2 * j) (nI (z1 + 1))) else M) else (if z0 < 5 then (up2 (up2 (up2 (up2 M 22 (5 * (2 * j + 1) + z0) (nI t)) 23 (5 * (2 * j + 1) + z0) n) 24 (5 * (2 * j + 1) + z0) pr) 21 (2 * j + 1) (nI (z0 + 1))) else M)) else M))))
def r_X4_send_ok (M : SX) (j t : Nat) (n pr : Int32) (z0 z1 : Nat) : Int32 := if j = t then (nI 0) else (if n < nI 1 then (nI 0) else (if nI 10 < n then (nI 0) else (if pr < 0 then (nI 0) else (if pr ≤ nI 3 then (if pr = nI 3 then (if z1 < 5 then (nI 1) else (nI 0)) else (if z0 < 5 then (nI 1) else (nI 0))) else (nI 0)))))
set_option maxHeartbeats 4000000 in
set_option maxRecDepth 100000 in
theorem k_X4_send_ok (l : Launch) (g : GX) (d N : Nat) (M : SX) (G : FX) (hN : N ≤ 6) (j : Nat) (hj : j < N) (t : Nat) (ht : t < N) (n pr : Int32) (z0 z1 : Nat) (hz0 : z0 ≤ 5) (hz1 : z1 ≤ 5) (h21a : M 21 (2 * j) = nI z1) (h21b : M 21 (2 * j + 1) = nI z0)  : MR l yX4_send (.code yX4_send cX4_send 7 (some .boolean) :: tb) (rmk 1 21) g (RepM g d N M G) (RepM g d N (s_X4_send_ok M j t n pr z0 z1) G) (AM d) [.ref d, .int (nI j), .int (nI t), .int n, .int pr] (some (.int (r_X4_send_ok M j t n pr z0 z1))) := by
  refine MR.start RX4 (by decide) rfl (Nat.le_of_ble_eq_true rfl) (fun zp ze zs zm zb zt zc ls C hr hlk hR hS hl => ?_)
  have hl : lv_has ls 7 [(0, .ref d), (1, .int (nI j)), (2, .int (nI t)), (3, .int n), (4, .int pr)] := hl
  refine lv_aload_n C.1 C.2.1 dX4_send_0 rfl (lv_at hl 0 rfl) ?_
  refine lv_iload_n C.1 C.2.1 dX4_send_1 rfl (lv_at hl 1 rfl) ?_
  refine cxV (b := d) (As := [.int (nI j)]) (rest := []) (ci := 4) (q := (RX4, TX4, 36)) C (mis_ok l g d N M G hN j (by omega)) cf_X4_isStation ml_X4_168 ⟨by decide, by decide⟩ ⟨rfl, rfl⟩ rfl (hR.1) rfl hl.1 rfl (Nat.le_of_ble_eq_true rfl) dX4_send_2 hR ⟨Nat.zero_le _, Nat.zero_le _⟩ hS (fun _ h => h) (fun H locs hR hS _ _ => ?_)
  simp only [Option.toList, List.cons_append, List.nil_append]
  refine lv_if_eq (tgt := 43) C.1 C.2.1 dX4_send_5 (by decide) (fun c5 => ?_) (fun c5 => ?_)
  · skip
    exact absurd c5 (by decide)
  · skip
    refine lv_aload_n C.1 C.2.1 dX4_send_8 rfl (lv_at hl 0 rfl) ?_
    refine lv_iload_n C.1 C.2.1 dX4_send_9 rfl (lv_at hl 2 rfl) ?_
    refine cxV (b := d) (As := [.int (nI t)]) (rest := []) (ci := 4) (q := (RX4, TX4, 36)) C (mis_ok l g d N M G hN t (by omega)) cf_X4_isStation ml_X4_168 ⟨by decide, by decide⟩ ⟨rfl, rfl⟩ rfl (hR.1) rfl hl.1 rfl (Nat.le_of_ble_eq_true rfl) dX4_send_10 hR ⟨Nat.zero_le _, Nat.zero_le _⟩ hS (fun _ h => h) (fun H locs hR hS _ _ => ?_)
    simp only [Option.toList, List.cons_append, List.nil_append]
    refine lv_if_eq (tgt := 43) C.1 C.2.1 dX4_send_13 (by decide) (fun c13 => ?_) (fun c13 => ?_)
    · skip
      exact absurd c13 (by decide)
    · skip
      refine lv_iload_n C.1 C.2.1 dX4_send_16 rfl (lv_at hl 1 rfl) ?_
      refine lv_iload_n C.1 C.2.1 dX4_send_17 rfl (lv_at hl 2 rfl) ?_
      refine lv_icmp_eq (tgt := 43) C.1 C.2.1 dX4_send_18 (by decide) (fun c18 => ?_) (fun c18 => ?_)
      · skip
        have c18 : j = t := (nI_eq (a := j) (b := t) (by omega) (by omega)).mp c18
        refine lv_iconst (v := nI 0) C.1 C.2.1 dX4_send_43 (by decide) ?_
        have hs : s_X4_send_ok M j t n pr z0 z1 = M := (if_pos c18).trans (rfl)
        rw [hs]
        have hv : r_X4_send_ok M j t n pr z0 z1 = nI 0 := (if_pos c18).trans (rfl)
        rw [hv]
        exact endz C hr hlk (Or.inl rfl) hR hS dX4_send_44
      · skip
        have c18 : ¬ (j = t) := mt (nI_eq (a := j) (b := t) (by omega) (by omega)).mpr c18
        refine lv_iload_n C.1 C.2.1 dX4_send_21 rfl (lv_at hl 3 rfl) ?_
        refine lv_iconst (v := nI 1) C.1 C.2.1 dX4_send_22 (by decide) ?_
        refine lv_icmp_lt (tgt := 43) C.1 C.2.1 dX4_send_23 (by decide) (fun c23 => ?_) (fun c23 => ?_)
        · skip
          refine lv_iconst (v := nI 0) C.1 C.2.1 dX4_send_43 (by decide) ?_
          have hs : s_X4_send_ok M j t n pr z0 z1 = M := (if_neg c18).trans ((if_pos c23).trans (rfl))
          rw [hs]
          have hv : r_X4_send_ok M j t n pr z0 z1 = nI 0 := (if_neg c18).trans ((if_pos c23).trans (rfl))
          rw [hv]
          exact endz C hr hlk (Or.inl rfl) hR hS dX4_send_44
        · skip
          refine lv_iload_n C.1 C.2.1 dX4_send_26 rfl (lv_at hl 3 rfl) ?_
          refine lv_bipush (v := nI 10) C.1 C.2.1 dX4_send_27 (by decide) ?_
          refine lv_icmp_gt (tgt := 43) C.1 C.2.1 dX4_send_29 (by decide) (fun c29 => ?_) (fun c29 => ?_)
          · skip
            refine lv_iconst (v := nI 0) C.1 C.2.1 dX4_send_43 (by decide) ?_
            have hs : s_X4_send_ok M j t n pr z0 z1 = M := (if_neg c18).trans ((if_neg c23).trans ((if_pos c29).trans (rfl)))
            rw [hs]
            have hv : r_X4_send_ok M j t n pr z0 z1 = nI 0 := (if_neg c18).trans ((if_neg c23).trans ((if_pos c29).trans (rfl)))
            rw [hv]
            exact endz C hr hlk (Or.inl rfl) hR hS dX4_send_44
          · skip
            refine lv_iload C.1 C.2.1 dX4_send_32 (lv_at hl 4 rfl) ?_
            refine lv_if_lt (tgt := 43) C.1 C.2.1 dX4_send_34 (by decide) (fun c34 => ?_) (fun c34 => ?_)
            · skip
              refine lv_iconst (v := nI 0) C.1 C.2.1 dX4_send_43 (by decide) ?_
              have hs : s_X4_send_ok M j t n pr z0 z1 = M := (if_neg c18).trans ((if_neg c23).trans ((if_neg c29).trans ((if_pos c34).trans (rfl))))
              rw [hs]
              have hv : r_X4_send_ok M j t n pr z0 z1 = nI 0 := (if_neg c18).trans ((if_neg c23).trans ((if_neg c29).trans ((if_pos c34).trans (rfl))))
              rw [hv]
              exact endz C hr hlk (Or.inl rfl) hR hS dX4_send_44
            · skip
              refine lv_iload C.1 C.2.1 dX4_send_37 (lv_at hl 4 rfl) ?_
              refine lv_iconst (v := nI 3) C.1 C.2.1 dX4_send_39 (by decide) ?_
              refine lv_icmp_le (tgt := 45) C.1 C.2.1 dX4_send_40 (by decide) (fun c40 => ?_) (fun c40 => ?_)
              · skip
                refine lv_iload C.1 C.2.1 dX4_send_45 (lv_at hl 4 rfl) ?_
                refine lv_iconst (v := nI 3) C.1 C.2.1 dX4_send_47 (by decide) ?_
                refine lv_icmp_ne (tgt := 57) C.1 C.2.1 dX4_send_48 (by decide) (fun c48 => ?_) (fun c48 => ?_)
                · skip
                  refine lv_iconst (v := nI 2) C.1 C.2.1 dX4_send_57 (by decide) ?_
                  refine lv_iload_n C.1 C.2.1 dX4_send_58 rfl (lv_at hl 1 rfl) ?_
                  refine n_imul (z := 2 * j) C dX4_send_59 (by omega) ?_
                  refine lv_iconst (v := nI 1) C.1 C.2.1 dX4_send_60 (by decide) ?_
                  refine n_iadd (z := 2 * j + 1) C dX4_send_61 (by omega) ?_
                  refine lv_istore (lv' := [(5, .int (nI (2 * j + 1))), (0, .ref d), (1, .int (nI j)), (2, .int (nI t)), (3, .int n), (4, .int pr)]) C.1 C.2.1 dX4_send_62 hl (by decide) rfl (fun ls hl => ?_)
                  refine lv_aload_n C.1 C.2.1 dX4_send_64 rfl (lv_at hl 1 rfl) ?_
                  refine m_get C hR 21 (by decide) rfl fl_X4_66 (v := .ref (mA d 21)) rfl dX4_send_65 ?_
                  refine lv_iload C.1 C.2.1 dX4_send_68 (lv_at hl 0 rfl) ?_
                  refine mI_ld (k := 21) (j := 2 * j + 1) C hR (by simp only [mAr]; decide) rfl (show 2 * j + 1 < 12 by omega) dX4_send_70 ?_
                  refine lv_re (y := nI z0) (by rw [h21b]) ?_
                  refine lv_iconst (v := nI 5) C.1 C.2.1 dX4_send_71 (by decide) ?_
                  refine lv_icmp_lt (tgt := 77) C.1 C.2.1 dX4_send_72 (by decide) (fun c72 => ?_) (fun c72 => ?_)
                  · skip
                    have c72 : z0 < 5 := (nI_ltI (a := z0) (b := 5) (by omega) (by omega)).mp c72
                    refine lv_iconst (v := nI 5) C.1 C.2.1 dX4_send_77 (by decide) ?_
                    refine lv_iload C.1 C.2.1 dX4_send_78 (lv_at hl 0 rfl) ?_
                    refine n_imul (z := 5 * (2 * j + 1)) C dX4_send_80 (by omega) ?_
                    refine lv_aload_n C.1 C.2.1 dX4_send_81 rfl (lv_at hl 1 rfl) ?_
                    refine m_get C hR 21 (by decide) rfl fl_X4_66 (v := .ref (mA d 21)) rfl dX4_send_82 ?_
                    refine lv_iload C.1 C.2.1 dX4_send_85 (lv_at hl 0 rfl) ?_
                    refine mI_ld (k := 21) (j := 2 * j + 1) C hR (by simp only [mAr]; decide) rfl (show 2 * j + 1 < 12 by omega) dX4_send_87 ?_
                    refine lv_re (y := nI z0) (by rw [h21b]) ?_
                    refine n_iadd (z := 5 * (2 * j + 1) + z0) C dX4_send_88 (by omega) ?_
                    refine lv_istore (lv' := [(6, .int (nI (5 * (2 * j + 1) + z0))), (5, .int (nI (2 * j + 1))), (0, .ref d), (1, .int (nI j)), (2, .int (nI t)), (3, .int n), (4, .int pr)]) C.1 C.2.1 dX4_send_89 hl (by decide) rfl (fun ls hl => ?_)
                    refine lv_aload_n C.1 C.2.1 dX4_send_91 rfl (lv_at hl 2 rfl) ?_
                    refine m_get C hR 22 (by decide) rfl fl_X4_69 (v := .ref (mA d 22)) rfl dX4_send_92 ?_
                    refine lv_iload C.1 C.2.1 dX4_send_95 (lv_at hl 0 rfl) ?_
                    refine lv_iload_n C.1 C.2.1 dX4_send_97 rfl (lv_at hl 4 rfl) ?_
                    refine mI_st (k := 22) (j := 5 * (2 * j + 1) + z0) C hR hS (by simp only [mAr]; decide) rfl (show 5 * (2 * j + 1) + z0 < 60 by omega) dX4_send_98 (fun zM1 H locs ezM1 hR hS => ?_)
                    refine lv_aload_n C.1 C.2.1 dX4_send_99 rfl (lv_at hl 2 rfl) ?_
                    refine m_get C hR 23 (by decide) rfl fl_X4_72 (v := .ref (mA d 23)) rfl dX4_send_100 ?_
                    refine lv_iload C.1 C.2.1 dX4_send_103 (lv_at hl 0 rfl) ?_
                    refine lv_iload_n C.1 C.2.1 dX4_send_105 rfl (lv_at hl 5 rfl) ?_
                    refine mI_st (k := 23) (j := 5 * (2 * j + 1) + z0) C hR hS (by simp only [mAr]; decide) rfl (show 5 * (2 * j + 1) + z0 < 60 by omega) dX4_send_106 (fun zM2 H locs ezM2 hR hS => ?_)
                    refine lv_aload_n C.1 C.2.1 dX4_send_107 rfl (lv_at hl 2 rfl) ?_
                    refine m_get C hR 24 (by decide) rfl fl_X4_75 (v := .ref (mA d 24)) rfl dX4_send_108 ?_
                    refine lv_iload C.1 C.2.1 dX4_send_111 (lv_at hl 0 rfl) ?_
                    refine lv_iload C.1 C.2.1 dX4_send_113 (lv_at hl 6 rfl) ?_
                    refine mI_st (k := 24) (j := 5 * (2 * j + 1) + z0) C hR hS (by simp only [mAr]; decide) rfl (show 5 * (2 * j + 1) + z0 < 60 by omega) dX4_send_115 (fun zM3 H locs ezM3 hR hS => ?_)
                    refine lv_aload_n C.1 C.2.1 dX4_send_116 rfl (lv_at hl 2 rfl) ?_
                    refine m_get C hR 21 (by decide) rfl fl_X4_66 (v := .ref (mA d 21)) rfl dX4_send_117 ?_
                    refine lv_iload C.1 C.2.1 dX4_send_120 (lv_at hl 1 rfl) ?_
                    refine lv_aload_n C.1 C.2.1 dX4_send_122 rfl (lv_at hl 2 rfl) ?_
                    refine m_get C hR 21 (by decide) rfl fl_X4_66 (v := .ref (mA d 21)) rfl dX4_send_123 ?_
                    refine lv_iload C.1 C.2.1 dX4_send_126 (lv_at hl 1 rfl) ?_
                    refine mI_ld (k := 21) (j := 2 * j + 1) C hR (by simp only [mAr]; decide) rfl (show 2 * j + 1 < 12 by omega) dX4_send_128 ?_
                    refine lv_re (y := nI z0) (by rw [ezM3, up2_f (by decide), ezM2, up2_f (by decide), ezM1, up2_f (by decide), h21b]) ?_
                    refine lv_iconst (v := nI 1) C.1 C.2.1 dX4_send_129 (by decide) ?_
                    refine n_iadd (z := z0 + 1) C dX4_send_130 (by omega) ?_
                    refine mI_st (k := 21) (j := 2 * j + 1) C hR hS (by simp only [mAr]; decide) rfl (show 2 * j + 1 < 12 by omega) dX4_send_131 (fun zM4 H locs ezM4 hR hS => ?_)
                    refine lv_iconst (v := nI 1) C.1 C.2.1 dX4_send_132 (by decide) ?_
                    have hs : s_X4_send_ok M j t n pr z0 z1 = zM4 := (if_neg c18).trans ((if_neg c23).trans ((if_neg c29).trans ((if_neg c34).trans ((if_pos c40).trans ((if_neg c48).trans ((if_pos c72).trans (by rw [ezM4, ezM3, ezM2, ezM1])))))))
                    rw [hs]
                    have hv : r_X4_send_ok M j t n pr z0 z1 = nI 1 := (if_neg c18).trans ((if_neg c23).trans ((if_neg c29).trans ((if_neg c34).trans ((if_pos c40).trans ((if_neg c48).trans ((if_pos c72).trans (rfl)))))))
                    rw [hv]
                    exact endz C hr hlk (Or.inr rfl) hR hS dX4_send_133
                  · skip
                    have c72 : ¬ (z0 < 5) := mt (nI_ltI (a := z0) (b := 5) (by omega) (by omega)).mpr c72
                    refine lv_iconst (v := nI 0) C.1 C.2.1 dX4_send_75 (by decide) ?_
                    have hs : s_X4_send_ok M j t n pr z0 z1 = M := (if_neg c18).trans ((if_neg c23).trans ((if_neg c29).trans ((if_neg c34).trans ((if_pos c40).trans ((if_neg c48).trans ((if_neg c72).trans (rfl)))))))
                    rw [hs]
                    have hv : r_X4_send_ok M j t n pr z0 z1 = nI 0 := (if_neg c18).trans ((if_neg c23).trans ((if_neg c29).trans ((if_neg c34).trans ((if_pos c40).trans ((if_neg c48).trans ((if_neg c72).trans (rfl)))))))
                    rw [hv]
                    exact endz C hr hlk (Or.inl rfl) hR hS dX4_send_76
                · skip
                  refine lv_iconst (v := nI 2) C.1 C.2.1 dX4_send_51 (by decide) ?_
                  refine lv_iload_n C.1 C.2.1 dX4_send_52 rfl (lv_at hl 1 rfl) ?_
                  refine n_imul (z := 2 * j) C dX4_send_53 (by omega) ?_
                  refine lv_goto (tgt := 62) C.1 C.2.1 dX4_send_54 (by decide) ?_
                  refine lv_istore (lv' := [(5, .int (nI (2 * j))), (0, .ref d), (1, .int (nI j)), (2, .int (nI t)), (3, .int n), (4, .int pr)]) C.1 C.2.1 dX4_send_62 hl (by decide) rfl (fun ls hl => ?_)
                  refine lv_aload_n C.1 C.2.1 dX4_send_64 rfl (lv_at hl 1 rfl) ?_
                  refine m_get C hR 21 (by decide) rfl fl_X4_66 (v := .ref (mA d 21)) rfl dX4_send_65 ?_
                  refine lv_iload C.1 C.2.1 dX4_send_68 (lv_at hl 0 rfl) ?_
                  refine mI_ld (k := 21) (j := 2 * j) C hR (by simp only [mAr]; decide) rfl (show 2 * j < 12 by omega) dX4_send_70 ?_
                  refine lv_re (y := nI z1) (by rw [h21a]) ?_
                  refine lv_iconst (v := nI 5) C.1 C.2.1 dX4_send_71 (by decide) ?_
                  refine lv_icmp_lt (tgt := 77) C.1 C.2.1 dX4_send_72 (by decide) (fun c72 => ?_) (fun c72 => ?_)
                  · skip
                    have c72 : z1 < 5 := (nI_ltI (a := z1) (b := 5) (by omega) (by omega)).mp c72
                    refine lv_iconst (v := nI 5) C.1 C.2.1 dX4_send_77 (by decide) ?_
                    refine lv_iload C.1 C.2.1 dX4_send_78 (lv_at hl 0 rfl) ?_
                    refine n_imul (z := 5 * (2 * j)) C dX4_send_80 (by omega) ?_
                    refine lv_aload_n C.1 C.2.1 dX4_send_81 rfl (lv_at hl 1 rfl) ?_
                    refine m_get C hR 21 (by decide) rfl fl_X4_66 (v := .ref (mA d 21)) rfl dX4_send_82 ?_
                    refine lv_iload C.1 C.2.1 dX4_send_85 (lv_at hl 0 rfl) ?_
                    refine mI_ld (k := 21) (j := 2 * j) C hR (by simp only [mAr]; decide) rfl (show 2 * j < 12 by omega) dX4_send_87 ?_
                    refine lv_re (y := nI z1) (by rw [h21a]) ?_
                    refine n_iadd (z := 5 * (2 * j) + z1) C dX4_send_88 (by omega) ?_
                    refine lv_istore (lv' := [(6, .int (nI (5 * (2 * j) + z1))), (5, .int (nI (2 * j))), (0, .ref d), (1, .int (nI j)), (2, .int (nI t)), (3, .int n), (4, .int pr)]) C.1 C.2.1 dX4_send_89 hl (by decide) rfl (fun ls hl => ?_)
                    refine lv_aload_n C.1 C.2.1 dX4_send_91 rfl (lv_at hl 2 rfl) ?_
                    refine m_get C hR 22 (by decide) rfl fl_X4_69 (v := .ref (mA d 22)) rfl dX4_send_92 ?_
                    refine lv_iload C.1 C.2.1 dX4_send_95 (lv_at hl 0 rfl) ?_
                    refine lv_iload_n C.1 C.2.1 dX4_send_97 rfl (lv_at hl 4 rfl) ?_
                    refine mI_st (k := 22) (j := 5 * (2 * j) + z1) C hR hS (by simp only [mAr]; decide) rfl (show 5 * (2 * j) + z1 < 60 by omega) dX4_send_98 (fun zM5 H locs ezM5 hR hS => ?_)
                    refine lv_aload_n C.1 C.2.1 dX4_send_99 rfl (lv_at hl 2 rfl) ?_
                    refine m_get C hR 23 (by decide) rfl fl_X4_72 (v := .ref (mA d 23)) rfl dX4_send_100 ?_
                    refine lv_iload C.1 C.2.1 dX4_send_103 (lv_at hl 0 rfl) ?_
                    refine lv_iload_n C.1 C.2.1 dX4_send_105 rfl (lv_at hl 5 rfl) ?_
                    refine mI_st (k := 23) (j := 5 * (2 * j) + z1) C hR hS (by simp only [mAr]; decide) rfl (show 5 * (2 * j) + z1 < 60 by omega) dX4_send_106 (fun zM6 H locs ezM6 hR hS => ?_)
                    refine lv_aload_n C.1 C.2.1 dX4_send_107 rfl (lv_at hl 2 rfl) ?_
                    refine m_get C hR 24 (by decide) rfl fl_X4_75 (v := .ref (mA d 24)) rfl dX4_send_108 ?_
                    refine lv_iload C.1 C.2.1 dX4_send_111 (lv_at hl 0 rfl) ?_
                    refine lv_iload C.1 C.2.1 dX4_send_113 (lv_at hl 6 rfl) ?_
                    refine mI_st (k := 24) (j := 5 * (2 * j) + z1) C hR hS (by simp only [mAr]; decide) rfl (show 5 * (2 * j) + z1 < 60 by omega) dX4_send_115 (fun zM7 H locs ezM7 hR hS => ?_)
                    refine lv_aload_n C.1 C.2.1 dX4_send_116 rfl (lv_at hl 2 rfl) ?_
                    refine m_get C hR 21 (by decide) rfl fl_X4_66 (v := .ref (mA d 21)) rfl dX4_send_117 ?_
                    refine lv_iload C.1 C.2.1 dX4_send_120 (lv_at hl 1 rfl) ?_
                    refine lv_aload_n C.1 C.2.1 dX4_send_122 rfl (lv_at hl 2 rfl) ?_
                    refine m_get C hR 21 (by decide) rfl fl_X4_66 (v := .ref (mA d 21)) rfl dX4_send_123 ?_
                    refine lv_iload C.1 C.2.1 dX4_send_126 (lv_at hl 1 rfl) ?_
                    refine mI_ld (k := 21) (j := 2 * j) C hR (by simp only [mAr]; decide) rfl (show 2 * j < 12 by omega) dX4_send_128 ?_
                    refine lv_re (y := nI z1) (by rw [ezM7, up2_f (by decide), ezM6, up2_f (by decide), ezM5, up2_f (by decide), h21a]) ?_
                    refine lv_iconst (v := nI 1) C.1 C.2.1 dX4_send_129 (by decide) ?_
                    refine n_iadd (z := z1 + 1) C dX4_send_130 (by omega) ?_
                    refine mI_st (k := 21) (j := 2 * j) C hR hS (by simp only [mAr]; decide) rfl (show 2 * j < 12 by omega) dX4_send_131 (fun zM8 H locs ezM8 hR hS => ?_)
                    refine lv_iconst (v := nI 1) C.1 C.2.1 dX4_send_132 (by decide) ?_
                    have hs : s_X4_send_ok M j t n pr z0 z1 = zM8 := (if_neg c18).trans ((if_neg c23).trans ((if_neg c29).trans ((if_neg c34).trans ((if_pos c40).trans ((if_pos c48).trans ((if_pos c72).trans (by rw [ezM8, ezM7, ezM6, ezM5])))))))
                    rw [hs]
                    have hv : r_X4_send_ok M j t n pr z0 z1 = nI 1 := (if_neg c18).trans ((if_neg c23).trans ((if_neg c29).trans ((if_neg c34).trans ((if_pos c40).trans ((if_pos c48).trans ((if_pos c72).trans (rfl)))))))
                    rw [hv]
                    exact endz C hr hlk (Or.inr rfl) hR hS dX4_send_133
                  · skip
                    have c72 : ¬ (z1 < 5) := mt (nI_ltI (a := z1) (b := 5) (by omega) (by omega)).mpr c72
                    refine lv_iconst (v := nI 0) C.1 C.2.1 dX4_send_75 (by decide) ?_
                    have hs : s_X4_send_ok M j t n pr z0 z1 = M := (if_neg c18).trans ((if_neg c23).trans ((if_neg c29).trans ((if_neg c34).trans ((if_pos c40).trans ((if_pos c48).trans ((if_neg c72).trans (rfl)))))))
                    rw [hs]
                    have hv : r_X4_send_ok M j t n pr z0 z1 = nI 0 := (if_neg c18).trans ((if_neg c23).trans ((if_neg c29).trans ((if_neg c34).trans ((if_pos c40).trans ((if_pos c48).trans ((if_neg c72).trans (rfl)))))))
                    rw [hv]
                    exact endz C hr hlk (Or.inl rfl) hR hS dX4_send_76
              · skip
                refine lv_iconst (v := nI 0) C.1 C.2.1 dX4_send_43 (by decide) ?_
                have hs : s_X4_send_ok M j t n pr z0 z1 = M := (if_neg c18).trans ((if_neg c23).trans ((if_neg c29).trans ((if_neg c34).trans ((if_neg c40).trans (rfl)))))
                rw [hs]
                have hv : r_X4_send_ok M j t n pr z0 z1 = nI 0 := (if_neg c18).trans ((if_neg c23).trans ((if_neg c29).trans ((if_neg c34).trans ((if_neg c40).trans (rfl)))))
                rw [hv]
                exact endz C hr hlk (Or.inl rfl) hR hS dX4_send_44

set_option maxHeartbeats 4000000 in
set_option maxRecDepth 100000 in
theorem k_X4_ring_bad (l : Launch) (g : GX) (d N : Nat) (M : SX) (G : FX) (hN : N ≤ 6) (x : Int32) (hb : bad N x)  : MR l yX4_ring (.code yX4_ring cX4_ring 2 (some .int) :: tb) (rmk 1 21) g (RepM g d N M G) (RepM g d N M G) (AM d) [.ref d, .int x] (some (.int ((-1)))) := by
  refine MR.start RX4 (by decide) rfl (Nat.le_of_ble_eq_true rfl) (fun zp ze zs zm zb zt zc ls C hr hlk hR hS hl => ?_)
  have hl : lv_has ls 2 [(0, .ref d), (1, .int x)] := hl
  refine lv_aload_n C.1 C.2.1 dX4_ring_0 rfl (lv_at hl 0 rfl) ?_
  refine lv_iload_n C.1 C.2.1 dX4_ring_1 rfl (lv_at hl 1 rfl) ?_
  refine cxV (b := d) (As := [.int x]) (rest := []) (ci := 4) (q := (RX4, TX4, 36)) C (mis_bad l g d N M G hN x hb) cf_X4_isStation ml_X4_168 ⟨by decide, by decide⟩ ⟨rfl, rfl⟩ rfl (hR.1) rfl hl.1 rfl (Nat.le_of_ble_eq_true rfl) dX4_ring_2 hR ⟨Nat.zero_le _, Nat.zero_le _⟩ hS (fun _ h => h) (fun H locs hR hS _ _ => ?_)
  simp only [Option.toList, List.cons_append, List.nil_append]
  refine lv_if_eq (tgt := 17) C.1 C.2.1 dX4_ring_5 (by decide) (fun c5 => ?_) (fun c5 => ?_)
  · skip
    refine lv_iconst (v := (-1)) C.1 C.2.1 dX4_ring_17 (by decide) ?_
    skip
    exact endi C hr hlk hR hS dX4_ring_18
  · skip
    exact absurd c5 (by decide)

set_option maxHeartbeats 4000000 in
set_option maxRecDepth 100000 in
theorem k_X4_ring_ok (l : Launch) (g : GX) (d N : Nat) (M : SX) (G : FX) (hN : N ≤ 6) (j : Nat) (hj : j < N)  : MR l yX4_ring (.code yX4_ring cX4_ring 2 (some .int) :: tb) (rmk 1 21) g (RepM g d N M G) (RepM g d N M G) (AM d) [.ref d, .int (nI j)] (some (.int (M 34 j))) := by
  refine MR.start RX4 (by decide) rfl (Nat.le_of_ble_eq_true rfl) (fun zp ze zs zm zb zt zc ls C hr hlk hR hS hl => ?_)
  have hl : lv_has ls 2 [(0, .ref d), (1, .int (nI j))] := hl
  refine lv_aload_n C.1 C.2.1 dX4_ring_0 rfl (lv_at hl 0 rfl) ?_
  refine lv_iload_n C.1 C.2.1 dX4_ring_1 rfl (lv_at hl 1 rfl) ?_
  refine cxV (b := d) (As := [.int (nI j)]) (rest := []) (ci := 4) (q := (RX4, TX4, 36)) C (mis_ok l g d N M G hN j (by omega)) cf_X4_isStation ml_X4_168 ⟨by decide, by decide⟩ ⟨rfl, rfl⟩ rfl (hR.1) rfl hl.1 rfl (Nat.le_of_ble_eq_true rfl) dX4_ring_2 hR ⟨Nat.zero_le _, Nat.zero_le _⟩ hS (fun _ h => h) (fun H locs hR hS _ _ => ?_)
  simp only [Option.toList, List.cons_append, List.nil_append]
  refine lv_if_eq (tgt := 17) C.1 C.2.1 dX4_ring_5 (by decide) (fun c5 => ?_) (fun c5 => ?_)
  · skip
    exact absurd c5 (by decide)
  · skip
    refine lv_aload_n C.1 C.2.1 dX4_ring_8 rfl (lv_at hl 0 rfl) ?_
    refine m_get C hR 34 (by decide) rfl fl_X4_105 (v := .ref (mA d 34)) rfl dX4_ring_9 ?_
    refine lv_iload_n C.1 C.2.1 dX4_ring_12 rfl (lv_at hl 1 rfl) ?_
    refine mI_ld (k := 34) (j := j) C hR (by simp only [mAr]; decide) rfl (show j < 6 by omega) dX4_ring_13 ?_
    refine lv_goto (tgt := 18) C.1 C.2.1 dX4_ring_14 (by decide) ?_
    skip
    exact endi C hr hlk hR hS dX4_ring_18

set_option maxHeartbeats 4000000 in
set_option maxRecDepth 100000 in
theorem k_X4_state_bad (l : Launch) (g : GX) (d N : Nat) (M : SX) (G : FX) (hN : N ≤ 6) (x : Int32) (hb : bad N x)  : MR l yX4_state (.code yX4_state cX4_state 3 (some .int) :: tb) (rmk 2 42) g (RepM g d N M G) (RepM g d N M G) (AM d) [.ref d, .int x] (some (.int (nI 0))) := by
  refine MR.start RX4 (by decide) rfl (Nat.le_of_ble_eq_true rfl) (fun zp ze zs zm zb zt zc ls C hr hlk hR hS hl => ?_)
  have hl : lv_has ls 3 [(0, .ref d), (1, .int x)] := hl
  refine lv_aload_n C.1 C.2.1 dX4_state_0 rfl (lv_at hl 0 rfl) ?_
  refine lv_iload_n C.1 C.2.1 dX4_state_1 rfl (lv_at hl 1 rfl) ?_
  refine cxV (b := d) (As := [.int x]) (rest := []) (ci := 4) (q := (RX4, TX4, 36)) C (k_X4_ring_bad l g d N M G hN x hb) cf_X4_ring ml_X4_177 ⟨by decide, by decide⟩ ⟨rfl, rfl⟩ rfl (hR.1) rfl hl.1 rfl (Nat.le_of_ble_eq_true rfl) dX4_state_2 hR ⟨Nat.zero_le _, Nat.zero_le _⟩ hS (fun _ h => h) (fun H locs hR hS _ _ => ?_)
  simp only [Option.toList, List.cons_append, List.nil_append]
  refine lv_if_ge (tgt := 10) C.1 C.2.1 dX4_state_5 (by decide) (fun c5 => ?_) (fun c5 => ?_)
  · skip
    exact absurd c5 (by decide)
  · skip
    refine lv_iconst (v := nI 0) C.1 C.2.1 dX4_state_8 (by decide) ?_
    skip
    exact endi C hr hlk hR hS dX4_state_9

set_option maxHeartbeats 4000000 in
set_option maxRecDepth 100000 in
theorem k_X4_state_off (l : Launch) (g : GX) (d N : Nat) (M : SX) (G : FX) (hN : N ≤ 6) (j : Nat) (hj : j < N) (h34 : M 34 j = -1)  : MR l yX4_state (.code yX4_state cX4_state 3 (some .int) :: tb) (rmk 2 42) g (RepM g d N M G) (RepM g d N M G) (AM d) [.ref d, .int (nI j)] (some (.int (nI 0))) := by
  refine MR.start RX4 (by decide) rfl (Nat.le_of_ble_eq_true rfl) (fun zp ze zs zm zb zt zc ls C hr hlk hR hS hl => ?_)
  have hl : lv_has ls 3 [(0, .ref d), (1, .int (nI j))] := hl
  refine lv_aload_n C.1 C.2.1 dX4_state_0 rfl (lv_at hl 0 rfl) ?_
  refine lv_iload_n C.1 C.2.1 dX4_state_1 rfl (lv_at hl 1 rfl) ?_
  refine cxV (b := d) (As := [.int (nI j)]) (rest := []) (ci := 4) (q := (RX4, TX4, 36)) C (k_X4_ring_ok l g d N M G hN j (by omega)) cf_X4_ring ml_X4_177 ⟨by decide, by decide⟩ ⟨rfl, rfl⟩ rfl (hR.1) rfl hl.1 rfl (Nat.le_of_ble_eq_true rfl) dX4_state_2 hR ⟨Nat.zero_le _, Nat.zero_le _⟩ hS (fun _ h => h) (fun H locs hR hS _ _ => ?_)
  simp only [Option.toList, List.cons_append, List.nil_append]
  refine lv_re (y := (-1)) h34 ?_
  refine lv_if_ge (tgt := 10) C.1 C.2.1 dX4_state_5 (by decide) (fun c5 => ?_) (fun c5 => ?_)
  · skip
    exact absurd c5 (by decide)
  · skip
    refine lv_iconst (v := nI 0) C.1 C.2.1 dX4_state_8 (by decide) ?_
    skip
    exact endi C hr hlk hR hS dX4_state_9

def r_X4_state_on (M : SX) (j f p h : Nat) : Int32 := if M 28 f ≤ 0 then (if h = j then (if M 31 f ≤ 0 then (if 0 ≤ M 32 f then (nI 4) else (nI 3)) else (nI 2)) else (nI 2)) else (nI 1)
set_option maxHeartbeats 4000000 in
set_option maxRecDepth 100000 in
theorem k_X4_state_on (l : Launch) (g : GX) (d N : Nat) (M : SX) (G : FX) (hN : N ≤ 6) (j : Nat) (hj : j < N) (f p h : Nat) (hf : f < N) (hp : p < 6) (h30 : M 30 f = nI p) (hh : M 26 (6 * f + p) = nI h) (hh6 : h < 6) (h34 : M 34 j = nI f)  : MR l yX4_state (.code yX4_state cX4_state 3 (some .int) :: tb) (rmk 2 42) g (RepM g d N M G) (RepM g d N M G) (AM d) [.ref d, .int (nI j)] (some (.int (r_X4_state_on M j f p h))) := by
  refine MR.start RX4 (by decide) rfl (Nat.le_of_ble_eq_true rfl) (fun zp ze zs zm zb zt zc ls C hr hlk hR hS hl => ?_)
  have hl : lv_has ls 3 [(0, .ref d), (1, .int (nI j))] := hl
  refine lv_aload_n C.1 C.2.1 dX4_state_0 rfl (lv_at hl 0 rfl) ?_
  refine lv_iload_n C.1 C.2.1 dX4_state_1 rfl (lv_at hl 1 rfl) ?_
  refine cxV (b := d) (As := [.int (nI j)]) (rest := []) (ci := 4) (q := (RX4, TX4, 36)) C (k_X4_ring_ok l g d N M G hN j (by omega)) cf_X4_ring ml_X4_177 ⟨by decide, by decide⟩ ⟨rfl, rfl⟩ rfl (hR.1) rfl hl.1 rfl (Nat.le_of_ble_eq_true rfl) dX4_state_2 hR ⟨Nat.zero_le _, Nat.zero_le _⟩ hS (fun _ h => h) (fun H locs hR hS _ _ => ?_)
  simp only [Option.toList, List.cons_append, List.nil_append]
  refine lv_re (y := nI f) h34 ?_
  refine lv_if_ge (tgt := 10) C.1 C.2.1 dX4_state_5 (by decide) (fun c5 => ?_) (fun c5 => ?_)
  · skip
    have c5 : 0 ≤ f := (nI_leI (a := 0) (b := f) (by omega) (by omega)).mp c5
    refine lv_aload_n C.1 C.2.1 dX4_state_10 rfl (lv_at hl 0 rfl) ?_
    refine m_get C hR 34 (by decide) rfl fl_X4_105 (v := .ref (mA d 34)) rfl dX4_state_11 ?_
    refine lv_iload_n C.1 C.2.1 dX4_state_14 rfl (lv_at hl 1 rfl) ?_
    refine mI_ld (k := 34) (j := j) C hR (by simp only [mAr]; decide) rfl (show j < 6 by omega) dX4_state_15 ?_
    refine lv_re (y := nI f) (by rw [h34]) ?_
    refine lv_istore_n (lv' := [(2, .int (nI f)), (0, .ref d), (1, .int (nI j))]) C.1 C.2.1 dX4_state_16 rfl hl (by decide) rfl (fun ls hl => ?_)
    refine lv_aload_n C.1 C.2.1 dX4_state_17 rfl (lv_at hl 1 rfl) ?_
    refine m_get C hR 28 (by decide) rfl fl_X4_87 (v := .ref (mA d 28)) rfl dX4_state_18 ?_
    refine lv_iload_n C.1 C.2.1 dX4_state_21 rfl (lv_at hl 0 rfl) ?_
    refine mI_ld (k := 28) (j := f) C hR (by simp only [mAr]; decide) rfl (show f < 6 by omega) dX4_state_22 ?_
    refine lv_if_le (tgt := 28) C.1 C.2.1 dX4_state_23 (by decide) (fun c23 => ?_) (fun c23 => ?_)
    · skip
      refine lv_aload_n C.1 C.2.1 dX4_state_28 rfl (lv_at hl 1 rfl) ?_
      refine lv_iload_n C.1 C.2.1 dX4_state_29 rfl (lv_at hl 0 rfl) ?_
      refine cxV (b := d) (As := [.int (nI f)]) (rest := []) (ci := 4) (q := (RX4, TX4, 36)) C (k_X4_holder l g d N M G hN f p (h) (by omega) (by omega) (by rw [h30]) (by rw [hh])) cf_X4_holder ml_X4_146 ⟨by decide, by decide⟩ ⟨rfl, rfl⟩ rfl (hR.1) rfl hl.1 rfl (Nat.le_of_ble_eq_true rfl) dX4_state_30 hR ⟨Nat.zero_le _, Nat.zero_le _⟩ hS (fun _ h => h) (fun H locs hR hS _ _ => ?_)
      simp only [Option.toList, List.cons_append, List.nil_append]
      refine lv_iload_n C.1 C.2.1 dX4_state_33 rfl (lv_at hl 2 rfl) ?_
      refine lv_icmp_ne (tgt := 46) C.1 C.2.1 dX4_state_34 (by decide) (fun c34 => ?_) (fun c34 => ?_)
      · skip
        have c34 : ¬ (h = j) := mt (nI_eq (a := h) (b := j) (by omega) (by omega)).mpr c34
        refine lv_iconst (v := nI 2) C.1 C.2.1 dX4_state_46 (by decide) ?_
        refine lv_goto (tgt := 64) C.1 C.2.1 dX4_state_47 (by decide) ?_
        have hv : r_X4_state_on M j f p h = nI 2 := (if_pos c23).trans ((if_neg c34).trans (rfl))
        rw [hv]
        exact endi C hr hlk hR hS dX4_state_64
      · skip
        have c34 : h = j := (nI_eq (a := h) (b := j) (by omega) (by omega)).mp c34
        refine lv_aload_n C.1 C.2.1 dX4_state_37 rfl (lv_at hl 1 rfl) ?_
        refine m_get C hR 31 (by decide) rfl fl_X4_96 (v := .ref (mA d 31)) rfl dX4_state_38 ?_
        refine lv_iload_n C.1 C.2.1 dX4_state_41 rfl (lv_at hl 0 rfl) ?_
        refine mI_ld (k := 31) (j := f) C hR (by simp only [mAr]; decide) rfl (show f < 6 by omega) dX4_state_42 ?_
        refine lv_if_le (tgt := 50) C.1 C.2.1 dX4_state_43 (by decide) (fun c43 => ?_) (fun c43 => ?_)
        · skip
          refine lv_aload_n C.1 C.2.1 dX4_state_50 rfl (lv_at hl 1 rfl) ?_
          refine m_get C hR 32 (by decide) rfl fl_X4_99 (v := .ref (mA d 32)) rfl dX4_state_51 ?_
          refine lv_iload_n C.1 C.2.1 dX4_state_54 rfl (lv_at hl 0 rfl) ?_
          refine mI_ld (k := 32) (j := f) C hR (by simp only [mAr]; decide) rfl (show f < 6 by omega) dX4_state_55 ?_
          refine lv_if_ge (tgt := 63) C.1 C.2.1 dX4_state_56 (by decide) (fun c56 => ?_) (fun c56 => ?_)
          · skip
            refine lv_iconst (v := nI 4) C.1 C.2.1 dX4_state_63 (by decide) ?_
            have hv : r_X4_state_on M j f p h = nI 4 := (if_pos c23).trans ((if_pos c34).trans ((if_pos c43).trans ((if_pos c56).trans (rfl))))
            rw [hv]
            exact endi C hr hlk hR hS dX4_state_64
          · skip
            refine lv_iconst (v := nI 3) C.1 C.2.1 dX4_state_59 (by decide) ?_
            refine lv_goto (tgt := 64) C.1 C.2.1 dX4_state_60 (by decide) ?_
            have hv : r_X4_state_on M j f p h = nI 3 := (if_pos c23).trans ((if_pos c34).trans ((if_pos c43).trans ((if_neg c56).trans (rfl))))
            rw [hv]
            exact endi C hr hlk hR hS dX4_state_64
        · skip
          refine lv_iconst (v := nI 2) C.1 C.2.1 dX4_state_46 (by decide) ?_
          refine lv_goto (tgt := 64) C.1 C.2.1 dX4_state_47 (by decide) ?_
          have hv : r_X4_state_on M j f p h = nI 2 := (if_pos c23).trans ((if_pos c34).trans ((if_neg c43).trans (rfl)))
          rw [hv]
          exact endi C hr hlk hR hS dX4_state_64
    · skip
      refine lv_iconst (v := nI 1) C.1 C.2.1 dX4_state_26 (by decide) ?_
      have hv : r_X4_state_on M j f p h = nI 1 := (if_neg c23).trans (rfl)
      rw [hv]
      exact endi C hr hlk hR hS dX4_state_27
  · skip
    exact absurd (nI_pos' (by omega)) c5

set_option maxHeartbeats 4000000 in
set_option maxRecDepth 100000 in
theorem k_X4_operating_bad (l : Launch) (g : GX) (d N : Nat) (M : SX) (G : FX) (hN : N ≤ 6) (x : Int32) (hb : bad N x)  : MR l yX4_operating (.code yX4_operating cX4_operating 2 (some .int) :: tb) (rmk 2 42) g (RepM g d N M G) (RepM g d N M G) (AM d) [.ref d, .int x] (some (.int (nI 0))) := by
  refine MR.start RX4 (by decide) rfl (Nat.le_of_ble_eq_true rfl) (fun zp ze zs zm zb zt zc ls C hr hlk hR hS hl => ?_)
  have hl : lv_has ls 2 [(0, .ref d), (1, .int x)] := hl
  refine lv_aload_n C.1 C.2.1 dX4_operating_0 rfl (lv_at hl 0 rfl) ?_
  refine lv_iload_n C.1 C.2.1 dX4_operating_1 rfl (lv_at hl 1 rfl) ?_
  refine cxV (b := d) (As := [.int x]) (rest := []) (ci := 4) (q := (RX4, TX4, 36)) C (k_X4_ring_bad l g d N M G hN x hb) cf_X4_ring ml_X4_177 ⟨by decide, by decide⟩ ⟨rfl, rfl⟩ rfl (hR.1) rfl hl.1 rfl (Nat.le_of_ble_eq_true rfl) dX4_operating_2 hR ⟨Nat.zero_le _, Nat.zero_le _⟩ hS (fun _ h => h) (fun H locs hR hS _ _ => ?_)
  simp only [Option.toList, List.cons_append, List.nil_append]
  refine lv_if_ge (tgt := 12) C.1 C.2.1 dX4_operating_5 (by decide) (fun c5 => ?_) (fun c5 => ?_)
  · skip
    exact absurd c5 (by decide)
  · skip
    refine lv_iconst (v := nI 0) C.1 C.2.1 dX4_operating_8 (by decide) ?_
    refine lv_goto (tgt := 23) C.1 C.2.1 dX4_operating_9 (by decide) ?_
    skip
    exact endi C hr hlk hR hS dX4_operating_23

set_option maxHeartbeats 4000000 in
set_option maxRecDepth 100000 in
theorem k_X4_operating_off (l : Launch) (g : GX) (d N : Nat) (M : SX) (G : FX) (hN : N ≤ 6) (j : Nat) (hj : j < N) (h34 : M 34 j = -1)  : MR l yX4_operating (.code yX4_operating cX4_operating 2 (some .int) :: tb) (rmk 2 42) g (RepM g d N M G) (RepM g d N M G) (AM d) [.ref d, .int (nI j)] (some (.int (nI 0))) := by
  refine MR.start RX4 (by decide) rfl (Nat.le_of_ble_eq_true rfl) (fun zp ze zs zm zb zt zc ls C hr hlk hR hS hl => ?_)
  have hl : lv_has ls 2 [(0, .ref d), (1, .int (nI j))] := hl
  refine lv_aload_n C.1 C.2.1 dX4_operating_0 rfl (lv_at hl 0 rfl) ?_
  refine lv_iload_n C.1 C.2.1 dX4_operating_1 rfl (lv_at hl 1 rfl) ?_
  refine cxV (b := d) (As := [.int (nI j)]) (rest := []) (ci := 4) (q := (RX4, TX4, 36)) C (k_X4_ring_ok l g d N M G hN j (by omega)) cf_X4_ring ml_X4_177 ⟨by decide, by decide⟩ ⟨rfl, rfl⟩ rfl (hR.1) rfl hl.1 rfl (Nat.le_of_ble_eq_true rfl) dX4_operating_2 hR ⟨Nat.zero_le _, Nat.zero_le _⟩ hS (fun _ h => h) (fun H locs hR hS _ _ => ?_)
  simp only [Option.toList, List.cons_append, List.nil_append]
  refine lv_re (y := (-1)) h34 ?_
  refine lv_if_ge (tgt := 12) C.1 C.2.1 dX4_operating_5 (by decide) (fun c5 => ?_) (fun c5 => ?_)
  · skip
    exact absurd c5 (by decide)
  · skip
    refine lv_iconst (v := nI 0) C.1 C.2.1 dX4_operating_8 (by decide) ?_
    refine lv_goto (tgt := 23) C.1 C.2.1 dX4_operating_9 (by decide) ?_
    skip
    exact endi C hr hlk hR hS dX4_operating_23

set_option maxHeartbeats 4000000 in
set_option maxRecDepth 100000 in
theorem k_X4_operating_on (l : Launch) (g : GX) (d N : Nat) (M : SX) (G : FX) (hN : N ≤ 6) (j : Nat) (hj : j < N) (f p h : Nat) (hf : f < N) (hp : p < 6) (h30 : M 30 f = nI p) (hh : M 26 (6 * f + p) = nI h) (hh6 : h < 6) (h34 : M 34 j = nI f)  : MR l yX4_operating (.code yX4_operating cX4_operating 2 (some .int) :: tb) (rmk 2 42) g (RepM g d N M G) (RepM g d N M G) (AM d) [.ref d, .int (nI j)] (some (.int (M 29 f))) := by
  refine MR.start RX4 (by decide) rfl (Nat.le_of_ble_eq_true rfl) (fun zp ze zs zm zb zt zc ls C hr hlk hR hS hl => ?_)
  have hl : lv_has ls 2 [(0, .ref d), (1, .int (nI j))] := hl
  refine lv_aload_n C.1 C.2.1 dX4_operating_0 rfl (lv_at hl 0 rfl) ?_
  refine lv_iload_n C.1 C.2.1 dX4_operating_1 rfl (lv_at hl 1 rfl) ?_
  refine cxV (b := d) (As := [.int (nI j)]) (rest := []) (ci := 4) (q := (RX4, TX4, 36)) C (k_X4_ring_ok l g d N M G hN j (by omega)) cf_X4_ring ml_X4_177 ⟨by decide, by decide⟩ ⟨rfl, rfl⟩ rfl (hR.1) rfl hl.1 rfl (Nat.le_of_ble_eq_true rfl) dX4_operating_2 hR ⟨Nat.zero_le _, Nat.zero_le _⟩ hS (fun _ h => h) (fun H locs hR hS _ _ => ?_)
  simp only [Option.toList, List.cons_append, List.nil_append]
  refine lv_re (y := nI f) h34 ?_
  refine lv_if_ge (tgt := 12) C.1 C.2.1 dX4_operating_5 (by decide) (fun c5 => ?_) (fun c5 => ?_)
  · skip
    have c5 : 0 ≤ f := (nI_leI (a := 0) (b := f) (by omega) (by omega)).mp c5
    refine lv_aload_n C.1 C.2.1 dX4_operating_12 rfl (lv_at hl 0 rfl) ?_
    refine m_get C hR 29 (by decide) rfl fl_X4_90 (v := .ref (mA d 29)) rfl dX4_operating_13 ?_
    refine lv_aload_n C.1 C.2.1 dX4_operating_16 rfl (lv_at hl 0 rfl) ?_
    refine m_get C hR 34 (by decide) rfl fl_X4_105 (v := .ref (mA d 34)) rfl dX4_operating_17 ?_
    refine lv_iload_n C.1 C.2.1 dX4_operating_20 rfl (lv_at hl 1 rfl) ?_
    refine mI_ld (k := 34) (j := j) C hR (by simp only [mAr]; decide) rfl (show j < 6 by omega) dX4_operating_21 ?_
    refine lv_re (y := nI f) (by rw [h34]) ?_
    refine mI_ld (k := 29) (j := f) C hR (by simp only [mAr]; decide) rfl (show f < 6 by omega) dX4_operating_22 ?_
    skip
    exact endi C hr hlk hR hS dX4_operating_23
  · skip
    exact absurd (nI_pos' (by omega)) c5

set_option maxHeartbeats 4000000 in
set_option maxRecDepth 100000 in
theorem k_X4_station_bad (l : Launch) (g : GX) (d N : Nat) (M : SX) (G : FX) (hN : N ≤ 6) (x w : Int32) (hb : bad N x)  : MR l yX4_station (.code yX4_station cX4_station 3 (some .int) :: tb) (rmk 1 21) g (RepM g d N M G) (RepM g d N M G) (AM d) [.ref d, .int x, .int w] (some (.int ((-1)))) := by
  refine MR.start RX4 (by decide) rfl (Nat.le_of_ble_eq_true rfl) (fun zp ze zs zm zb zt zc ls C hr hlk hR hS hl => ?_)
  have hl : lv_has ls 3 [(0, .ref d), (1, .int x), (2, .int w)] := hl
  refine lv_aload_n C.1 C.2.1 dX4_station_0 rfl (lv_at hl 0 rfl) ?_
  refine lv_iload_n C.1 C.2.1 dX4_station_1 rfl (lv_at hl 1 rfl) ?_
  refine cxV (b := d) (As := [.int x]) (rest := []) (ci := 4) (q := (RX4, TX4, 36)) C (mis_bad l g d N M G hN x hb) cf_X4_isStation ml_X4_168 ⟨by decide, by decide⟩ ⟨rfl, rfl⟩ rfl (hR.1) rfl hl.1 rfl (Nat.le_of_ble_eq_true rfl) dX4_station_2 hR ⟨Nat.zero_le _, Nat.zero_le _⟩ hS (fun _ h => h) (fun H locs hR hS _ _ => ?_)
  simp only [Option.toList, List.cons_append, List.nil_append]
  refine lv_if_ne (tgt := 10) C.1 C.2.1 dX4_station_5 (by decide) (fun c5 => ?_) (fun c5 => ?_)
  · skip
    exact absurd c5 (by decide)
  · skip
    refine lv_iconst (v := (-1)) C.1 C.2.1 dX4_station_8 (by decide) ?_
    skip
    exact endi C hr hlk hR hS dX4_station_9

def r_X4_station_ok (M : SX) (j : Nat) (w : Int32) : Int32 := if nI 4 ≤ w then (if nI 8 ≤ w then (if w = nI 8 then (M 16 j) else (if w = nI 9 then (M 17 j) else (if w = nI 10 then (M 18 j) else (if w = nI 11 then (M 19 j) else (-1))))) else (if w = nI 4 then (M 21 (2 * j)) else (if w = nI 5 then (M 21 (2 * j + 1)) else (if w = nI 6 then (M 14 j) else (M 15 j))))) else (if w = 0 then (M 7 j) else (if w = nI 1 then (M 8 j) else (if w = nI 2 then (M 9 j) else (if w = nI 3 then (M 10 j) else (-1)))))
set_option maxHeartbeats 4000000 in
set_option maxRecDepth 100000 in
theorem k_X4_station_ok (l : Launch) (g : GX) (d N : Nat) (M : SX) (G : FX) (hN : N ≤ 6) (j : Nat) (hj : j < N) (w : Int32)  : MR l yX4_station (.code yX4_station cX4_station 3 (some .int) :: tb) (rmk 1 21) g (RepM g d N M G) (RepM g d N M G) (AM d) [.ref d, .int (nI j), .int w] (some (.int (r_X4_station_ok M j w))) := by
  refine MR.start RX4 (by decide) rfl (Nat.le_of_ble_eq_true rfl) (fun zp ze zs zm zb zt zc ls C hr hlk hR hS hl => ?_)
  have hl : lv_has ls 3 [(0, .ref d), (1, .int (nI j)), (2, .int w)] := hl
  refine lv_aload_n C.1 C.2.1 dX4_station_0 rfl (lv_at hl 0 rfl) ?_
  refine lv_iload_n C.1 C.2.1 dX4_station_1 rfl (lv_at hl 1 rfl) ?_
  refine cxV (b := d) (As := [.int (nI j)]) (rest := []) (ci := 4) (q := (RX4, TX4, 36)) C (mis_ok l g d N M G hN j (by omega)) cf_X4_isStation ml_X4_168 ⟨by decide, by decide⟩ ⟨rfl, rfl⟩ rfl (hR.1) rfl hl.1 rfl (Nat.le_of_ble_eq_true rfl) dX4_station_2 hR ⟨Nat.zero_le _, Nat.zero_le _⟩ hS (fun _ h => h) (fun H locs hR hS _ _ => ?_)
  simp only [Option.toList, List.cons_append, List.nil_append]
  refine lv_if_ne (tgt := 10) C.1 C.2.1 dX4_station_5 (by decide) (fun c5 => ?_) (fun c5 => ?_)
  · skip
    refine lv_iload_n C.1 C.2.1 dX4_station_10 rfl (lv_at hl 2 rfl) ?_
    refine lv_iconst (v := nI 4) C.1 C.2.1 dX4_station_11 (by decide) ?_
    refine lv_icmp_ge (tgt := 72) C.1 C.2.1 dX4_station_12 (by decide) (fun c12 => ?_) (fun c12 => ?_)
    · skip
      refine lv_iload_n C.1 C.2.1 dX4_station_72 rfl (lv_at hl 2 rfl) ?_
      refine lv_bipush (v := nI 8) C.1 C.2.1 dX4_station_73 (by decide) ?_
      refine lv_icmp_ge (tgt := 134) C.1 C.2.1 dX4_station_75 (by decide) (fun c75 => ?_) (fun c75 => ?_)
      · skip
        refine lv_iload_n C.1 C.2.1 dX4_station_134 rfl (lv_at hl 2 rfl) ?_
        refine lv_bipush (v := nI 8) C.1 C.2.1 dX4_station_135 (by decide) ?_
        refine lv_icmp_ne (tgt := 149) C.1 C.2.1 dX4_station_137 (by decide) (fun c137 => ?_) (fun c137 => ?_)
        · skip
          refine lv_iload_n C.1 C.2.1 dX4_station_149 rfl (lv_at hl 2 rfl) ?_
          refine lv_bipush (v := nI 9) C.1 C.2.1 dX4_station_150 (by decide) ?_
          refine lv_icmp_ne (tgt := 164) C.1 C.2.1 dX4_station_152 (by decide) (fun c152 => ?_) (fun c152 => ?_)
          · skip
            refine lv_iload_n C.1 C.2.1 dX4_station_164 rfl (lv_at hl 2 rfl) ?_
            refine lv_bipush (v := nI 10) C.1 C.2.1 dX4_station_165 (by decide) ?_
            refine lv_icmp_ne (tgt := 179) C.1 C.2.1 dX4_station_167 (by decide) (fun c167 => ?_) (fun c167 => ?_)
            · skip
              refine lv_iload_n C.1 C.2.1 dX4_station_179 rfl (lv_at hl 2 rfl) ?_
              refine lv_bipush (v := nI 11) C.1 C.2.1 dX4_station_180 (by decide) ?_
              refine lv_icmp_ne (tgt := 194) C.1 C.2.1 dX4_station_182 (by decide) (fun c182 => ?_) (fun c182 => ?_)
              · skip
                refine lv_iconst (v := (-1)) C.1 C.2.1 dX4_station_194 (by decide) ?_
                have hv : r_X4_station_ok M j w = (-1) := (if_pos c12).trans ((if_pos c75).trans ((if_neg c137).trans ((if_neg c152).trans ((if_neg c167).trans ((if_neg c182).trans (rfl))))))
                rw [hv]
                exact endi C hr hlk hR hS dX4_station_195
              · skip
                refine lv_aload_n C.1 C.2.1 dX4_station_185 rfl (lv_at hl 0 rfl) ?_
                refine m_get C hR 19 (by decide) rfl fl_X4_59 (v := .ref (mA d 19)) rfl dX4_station_186 ?_
                refine lv_iload_n C.1 C.2.1 dX4_station_189 rfl (lv_at hl 1 rfl) ?_
                refine mI_ld (k := 19) (j := j) C hR (by simp only [mAr]; decide) rfl (show j < 6 by omega) dX4_station_190 ?_
                refine lv_goto (tgt := 195) C.1 C.2.1 dX4_station_191 (by decide) ?_
                have hv : r_X4_station_ok M j w = M 19 j := (if_pos c12).trans ((if_pos c75).trans ((if_neg c137).trans ((if_neg c152).trans ((if_neg c167).trans ((if_pos c182).trans (rfl))))))
                rw [hv]
                exact endi C hr hlk hR hS dX4_station_195
            · skip
              refine lv_aload_n C.1 C.2.1 dX4_station_170 rfl (lv_at hl 0 rfl) ?_
              refine m_get C hR 18 (by decide) rfl fl_X4_56 (v := .ref (mA d 18)) rfl dX4_station_171 ?_
              refine lv_iload_n C.1 C.2.1 dX4_station_174 rfl (lv_at hl 1 rfl) ?_
              refine mI_ld (k := 18) (j := j) C hR (by simp only [mAr]; decide) rfl (show j < 6 by omega) dX4_station_175 ?_
              refine lv_goto (tgt := 195) C.1 C.2.1 dX4_station_176 (by decide) ?_
              have hv : r_X4_station_ok M j w = M 18 j := (if_pos c12).trans ((if_pos c75).trans ((if_neg c137).trans ((if_neg c152).trans ((if_pos c167).trans (rfl)))))
              rw [hv]
              exact endi C hr hlk hR hS dX4_station_195
          · skip
            refine lv_aload_n C.1 C.2.1 dX4_station_155 rfl (lv_at hl 0 rfl) ?_
            refine m_get C hR 17 (by decide) rfl fl_X4_53 (v := .ref (mA d 17)) rfl dX4_station_156 ?_
            refine lv_iload_n C.1 C.2.1 dX4_station_159 rfl (lv_at hl 1 rfl) ?_
            refine mI_ld (k := 17) (j := j) C hR (by simp only [mAr]; decide) rfl (show j < 6 by omega) dX4_station_160 ?_
            refine lv_goto (tgt := 195) C.1 C.2.1 dX4_station_161 (by decide) ?_
            have hv : r_X4_station_ok M j w = M 17 j := (if_pos c12).trans ((if_pos c75).trans ((if_neg c137).trans ((if_pos c152).trans (rfl))))
            rw [hv]
            exact endi C hr hlk hR hS dX4_station_195
        · skip
          refine lv_aload_n C.1 C.2.1 dX4_station_140 rfl (lv_at hl 0 rfl) ?_
          refine m_get C hR 16 (by decide) rfl fl_X4_50 (v := .ref (mA d 16)) rfl dX4_station_141 ?_
          refine lv_iload_n C.1 C.2.1 dX4_station_144 rfl (lv_at hl 1 rfl) ?_
          refine mI_ld (k := 16) (j := j) C hR (by simp only [mAr]; decide) rfl (show j < 6 by omega) dX4_station_145 ?_
          refine lv_goto (tgt := 195) C.1 C.2.1 dX4_station_146 (by decide) ?_
          have hv : r_X4_station_ok M j w = M 16 j := (if_pos c12).trans ((if_pos c75).trans ((if_pos c137).trans (rfl)))
          rw [hv]
          exact endi C hr hlk hR hS dX4_station_195
      · skip
        refine lv_iload_n C.1 C.2.1 dX4_station_78 rfl (lv_at hl 2 rfl) ?_
        refine lv_iconst (v := nI 4) C.1 C.2.1 dX4_station_79 (by decide) ?_
        refine lv_icmp_ne (tgt := 94) C.1 C.2.1 dX4_station_80 (by decide) (fun c80 => ?_) (fun c80 => ?_)
        · skip
          refine lv_iload_n C.1 C.2.1 dX4_station_94 rfl (lv_at hl 2 rfl) ?_
          refine lv_iconst (v := nI 5) C.1 C.2.1 dX4_station_95 (by decide) ?_
          refine lv_icmp_ne (tgt := 112) C.1 C.2.1 dX4_station_96 (by decide) (fun c96 => ?_) (fun c96 => ?_)
          · skip
            refine lv_iload_n C.1 C.2.1 dX4_station_112 rfl (lv_at hl 2 rfl) ?_
            refine lv_bipush (v := nI 6) C.1 C.2.1 dX4_station_113 (by decide) ?_
            refine lv_icmp_ne (tgt := 127) C.1 C.2.1 dX4_station_115 (by decide) (fun c115 => ?_) (fun c115 => ?_)
            · skip
              refine lv_aload_n C.1 C.2.1 dX4_station_127 rfl (lv_at hl 0 rfl) ?_
              refine m_get C hR 15 (by decide) rfl fl_X4_47 (v := .ref (mA d 15)) rfl dX4_station_128 ?_
              refine lv_iload_n C.1 C.2.1 dX4_station_131 rfl (lv_at hl 1 rfl) ?_
              refine mI_ld (k := 15) (j := j) C hR (by simp only [mAr]; decide) rfl (show j < 6 by omega) dX4_station_132 ?_
              have hv : r_X4_station_ok M j w = M 15 j := (if_pos c12).trans ((if_neg c75).trans ((if_neg c80).trans ((if_neg c96).trans ((if_neg c115).trans (rfl)))))
              rw [hv]
              exact endi C hr hlk hR hS dX4_station_133
            · skip
              refine lv_aload_n C.1 C.2.1 dX4_station_118 rfl (lv_at hl 0 rfl) ?_
              refine m_get C hR 14 (by decide) rfl fl_X4_44 (v := .ref (mA d 14)) rfl dX4_station_119 ?_
              refine lv_iload_n C.1 C.2.1 dX4_station_122 rfl (lv_at hl 1 rfl) ?_
              refine mI_ld (k := 14) (j := j) C hR (by simp only [mAr]; decide) rfl (show j < 6 by omega) dX4_station_123 ?_
              refine lv_goto (tgt := 133) C.1 C.2.1 dX4_station_124 (by decide) ?_
              have hv : r_X4_station_ok M j w = M 14 j := (if_pos c12).trans ((if_neg c75).trans ((if_neg c80).trans ((if_neg c96).trans ((if_pos c115).trans (rfl)))))
              rw [hv]
              exact endi C hr hlk hR hS dX4_station_133
          · skip
            refine lv_aload_n C.1 C.2.1 dX4_station_99 rfl (lv_at hl 0 rfl) ?_
            refine m_get C hR 21 (by decide) rfl fl_X4_66 (v := .ref (mA d 21)) rfl dX4_station_100 ?_
            refine lv_iconst (v := nI 2) C.1 C.2.1 dX4_station_103 (by decide) ?_
            refine lv_iload_n C.1 C.2.1 dX4_station_104 rfl (lv_at hl 1 rfl) ?_
            refine n_imul (z := 2 * j) C dX4_station_105 (by omega) ?_
            refine lv_iconst (v := nI 1) C.1 C.2.1 dX4_station_106 (by decide) ?_
            refine n_iadd (z := 2 * j + 1) C dX4_station_107 (by omega) ?_
            refine mI_ld (k := 21) (j := 2 * j + 1) C hR (by simp only [mAr]; decide) rfl (show 2 * j + 1 < 12 by omega) dX4_station_108 ?_
            refine lv_goto (tgt := 133) C.1 C.2.1 dX4_station_109 (by decide) ?_
            have hv : r_X4_station_ok M j w = M 21 (2 * j + 1) := (if_pos c12).trans ((if_neg c75).trans ((if_neg c80).trans ((if_pos c96).trans (rfl))))
            rw [hv]
            exact endi C hr hlk hR hS dX4_station_133
        · skip
          refine lv_aload_n C.1 C.2.1 dX4_station_83 rfl (lv_at hl 0 rfl) ?_
          refine m_get C hR 21 (by decide) rfl fl_X4_66 (v := .ref (mA d 21)) rfl dX4_station_84 ?_
          refine lv_iconst (v := nI 2) C.1 C.2.1 dX4_station_87 (by decide) ?_
          refine lv_iload_n C.1 C.2.1 dX4_station_88 rfl (lv_at hl 1 rfl) ?_
          refine n_imul (z := 2 * j) C dX4_station_89 (by omega) ?_
          refine mI_ld (k := 21) (j := 2 * j) C hR (by simp only [mAr]; decide) rfl (show 2 * j < 12 by omega) dX4_station_90 ?_
          refine lv_goto (tgt := 133) C.1 C.2.1 dX4_station_91 (by decide) ?_
          have hv : r_X4_station_ok M j w = M 21 (2 * j) := (if_pos c12).trans ((if_neg c75).trans ((if_pos c80).trans (rfl)))
          rw [hv]
          exact endi C hr hlk hR hS dX4_station_133
    · skip
      refine lv_iload_n C.1 C.2.1 dX4_station_15 rfl (lv_at hl 2 rfl) ?_
      refine lv_if_ne (tgt := 28) C.1 C.2.1 dX4_station_16 (by decide) (fun c16 => ?_) (fun c16 => ?_)
      · skip
        refine lv_iload_n C.1 C.2.1 dX4_station_28 rfl (lv_at hl 2 rfl) ?_
        refine lv_iconst (v := nI 1) C.1 C.2.1 dX4_station_29 (by decide) ?_
        refine lv_icmp_ne (tgt := 42) C.1 C.2.1 dX4_station_30 (by decide) (fun c30 => ?_) (fun c30 => ?_)
        · skip
          refine lv_iload_n C.1 C.2.1 dX4_station_42 rfl (lv_at hl 2 rfl) ?_
          refine lv_iconst (v := nI 2) C.1 C.2.1 dX4_station_43 (by decide) ?_
          refine lv_icmp_ne (tgt := 56) C.1 C.2.1 dX4_station_44 (by decide) (fun c44 => ?_) (fun c44 => ?_)
          · skip
            refine lv_iload_n C.1 C.2.1 dX4_station_56 rfl (lv_at hl 2 rfl) ?_
            refine lv_iconst (v := nI 3) C.1 C.2.1 dX4_station_57 (by decide) ?_
            refine lv_icmp_ne (tgt := 70) C.1 C.2.1 dX4_station_58 (by decide) (fun c58 => ?_) (fun c58 => ?_)
            · skip
              refine lv_iconst (v := (-1)) C.1 C.2.1 dX4_station_70 (by decide) ?_
              have hv : r_X4_station_ok M j w = (-1) := (if_neg c12).trans ((if_neg c16).trans ((if_neg c30).trans ((if_neg c44).trans ((if_neg c58).trans (rfl)))))
              rw [hv]
              exact endi C hr hlk hR hS dX4_station_71
            · skip
              refine lv_aload_n C.1 C.2.1 dX4_station_61 rfl (lv_at hl 0 rfl) ?_
              refine m_get C hR 10 (by decide) rfl fl_X4_32 (v := .ref (mA d 10)) rfl dX4_station_62 ?_
              refine lv_iload_n C.1 C.2.1 dX4_station_65 rfl (lv_at hl 1 rfl) ?_
              refine mI_ld (k := 10) (j := j) C hR (by simp only [mAr]; decide) rfl (show j < 6 by omega) dX4_station_66 ?_
              refine lv_goto (tgt := 71) C.1 C.2.1 dX4_station_67 (by decide) ?_
              have hv : r_X4_station_ok M j w = M 10 j := (if_neg c12).trans ((if_neg c16).trans ((if_neg c30).trans ((if_neg c44).trans ((if_pos c58).trans (rfl)))))
              rw [hv]
              exact endi C hr hlk hR hS dX4_station_71
          · skip
            refine lv_aload_n C.1 C.2.1 dX4_station_47 rfl (lv_at hl 0 rfl) ?_
            refine m_get C hR 9 (by decide) rfl fl_X4_29 (v := .ref (mA d 9)) rfl dX4_station_48 ?_
            refine lv_iload_n C.1 C.2.1 dX4_station_51 rfl (lv_at hl 1 rfl) ?_
            refine mI_ld (k := 9) (j := j) C hR (by simp only [mAr]; decide) rfl (show j < 6 by omega) dX4_station_52 ?_
            refine lv_goto (tgt := 71) C.1 C.2.1 dX4_station_53 (by decide) ?_
            have hv : r_X4_station_ok M j w = M 9 j := (if_neg c12).trans ((if_neg c16).trans ((if_neg c30).trans ((if_pos c44).trans (rfl))))
            rw [hv]
            exact endi C hr hlk hR hS dX4_station_71
        · skip
          refine lv_aload_n C.1 C.2.1 dX4_station_33 rfl (lv_at hl 0 rfl) ?_
          refine m_get C hR 8 (by decide) rfl fl_X4_26 (v := .ref (mA d 8)) rfl dX4_station_34 ?_
          refine lv_iload_n C.1 C.2.1 dX4_station_37 rfl (lv_at hl 1 rfl) ?_
          refine mI_ld (k := 8) (j := j) C hR (by simp only [mAr]; decide) rfl (show j < 6 by omega) dX4_station_38 ?_
          refine lv_goto (tgt := 71) C.1 C.2.1 dX4_station_39 (by decide) ?_
          have hv : r_X4_station_ok M j w = M 8 j := (if_neg c12).trans ((if_neg c16).trans ((if_pos c30).trans (rfl)))
          rw [hv]
          exact endi C hr hlk hR hS dX4_station_71
      · skip
        refine lv_aload_n C.1 C.2.1 dX4_station_19 rfl (lv_at hl 0 rfl) ?_
        refine m_get C hR 7 (by decide) rfl fl_X4_23 (v := .ref (mA d 7)) rfl dX4_station_20 ?_
        refine lv_iload_n C.1 C.2.1 dX4_station_23 rfl (lv_at hl 1 rfl) ?_
        refine mI_ld (k := 7) (j := j) C hR (by simp only [mAr]; decide) rfl (show j < 6 by omega) dX4_station_24 ?_
        refine lv_goto (tgt := 71) C.1 C.2.1 dX4_station_25 (by decide) ?_
        have hv : r_X4_station_ok M j w = M 7 j := (if_neg c12).trans ((if_pos c16).trans (rfl))
        rw [hv]
        exact endi C hr hlk hR hS dX4_station_71
  · skip
    exact absurd c5 (by decide)

set_option maxHeartbeats 4000000 in
set_option maxRecDepth 100000 in
theorem k_X4_rotation_bad (l : Launch) (g : GX) (d N : Nat) (M : SX) (G : FX) (hN : N ≤ 6) (x : Int32) (hb : bad N x)  : MR l yX4_rotation (.code yX4_rotation cX4_rotation 2 (some .float) :: tb) (rmk 1 21) g (RepM g d N M G) (RepM g d N M G) (AM d) [.ref d, .int x] (some (.float (FP.fconst0))) := by
  refine MR.start RX4 (by decide) rfl (Nat.le_of_ble_eq_true rfl) (fun zp ze zs zm zb zt zc ls C hr hlk hR hS hl => ?_)
  have hl : lv_has ls 2 [(0, .ref d), (1, .int x)] := hl
  refine lv_aload_n C.1 C.2.1 dX4_rotation_0 rfl (lv_at hl 0 rfl) ?_
  refine lv_iload_n C.1 C.2.1 dX4_rotation_1 rfl (lv_at hl 1 rfl) ?_
  refine cxV (b := d) (As := [.int x]) (rest := []) (ci := 4) (q := (RX4, TX4, 36)) C (mis_bad l g d N M G hN x hb) cf_X4_isStation ml_X4_168 ⟨by decide, by decide⟩ ⟨rfl, rfl⟩ rfl (hR.1) rfl hl.1 rfl (Nat.le_of_ble_eq_true rfl) dX4_rotation_2 hR ⟨Nat.zero_le _, Nat.zero_le _⟩ hS (fun _ h => h) (fun H locs hR hS _ _ => ?_)
  simp only [Option.toList, List.cons_append, List.nil_append]
  refine lv_if_eq (tgt := 17) C.1 C.2.1 dX4_rotation_5 (by decide) (fun c5 => ?_) (fun c5 => ?_)
  · skip
    refine lv_fconst0 C.1 C.2.1 dX4_rotation_17 ?_
    skip
    exact endf C hr hlk hR hS dX4_rotation_18
  · skip
    exact absurd c5 (by decide)

set_option maxHeartbeats 4000000 in
set_option maxRecDepth 100000 in
theorem k_X4_rotation_ok (l : Launch) (g : GX) (d N : Nat) (M : SX) (G : FX) (hN : N ≤ 6) (j : Nat) (hj : j < N)  : MR l yX4_rotation (.code yX4_rotation cX4_rotation 2 (some .float) :: tb) (rmk 1 21) g (RepM g d N M G) (RepM g d N M G) (AM d) [.ref d, .int (nI j)] (some (.float (G j))) := by
  refine MR.start RX4 (by decide) rfl (Nat.le_of_ble_eq_true rfl) (fun zp ze zs zm zb zt zc ls C hr hlk hR hS hl => ?_)
  have hl : lv_has ls 2 [(0, .ref d), (1, .int (nI j))] := hl
  refine lv_aload_n C.1 C.2.1 dX4_rotation_0 rfl (lv_at hl 0 rfl) ?_
  refine lv_iload_n C.1 C.2.1 dX4_rotation_1 rfl (lv_at hl 1 rfl) ?_
  refine cxV (b := d) (As := [.int (nI j)]) (rest := []) (ci := 4) (q := (RX4, TX4, 36)) C (mis_ok l g d N M G hN j (by omega)) cf_X4_isStation ml_X4_168 ⟨by decide, by decide⟩ ⟨rfl, rfl⟩ rfl (hR.1) rfl hl.1 rfl (Nat.le_of_ble_eq_true rfl) dX4_rotation_2 hR ⟨Nat.zero_le _, Nat.zero_le _⟩ hS (fun _ h => h) (fun H locs hR hS _ _ => ?_)
  simp only [Option.toList, List.cons_append, List.nil_append]
  refine lv_if_eq (tgt := 17) C.1 C.2.1 dX4_rotation_5 (by decide) (fun c5 => ?_) (fun c5 => ?_)
  · skip
    exact absurd c5 (by decide)
  · skip
    refine lv_aload_n C.1 C.2.1 dX4_rotation_8 rfl (lv_at hl 0 rfl) ?_
    refine m_get C hR 20 (by decide) rfl fl_X4_62 (v := .ref (mA d 20)) rfl dX4_rotation_9 ?_
    refine lv_iload_n C.1 C.2.1 dX4_rotation_12 rfl (lv_at hl 1 rfl) ?_
    refine mF_ld (j := j) C hR (by omega) dX4_rotation_13 ?_
    refine lv_goto (tgt := 18) C.1 C.2.1 dX4_rotation_14 (by decide) ?_
    skip
    exact endf C hr hlk hR hS dX4_rotation_18

theorem pos_n0 {x : Int32} (h : ¬ x ≤ 0) : ¬ x = 0 := fun e => h (by rw [e]; decide)
set_option maxHeartbeats 4000000 in
set_option maxRecDepth 100000 in
theorem k_X4_share_bad (l : Launch) (g : GX) (d N : Nat) (M : SX) (G : FX) (hN : N ≤ 6) (x : Int32) (hb : bad N x)  : MR l yX4_share (.code yX4_share cX4_share 2 (some .double) :: tb) (rmk 1 21) g (RepM g d N M G) (RepM g d N M G) (AM d) [.ref d, .int x] (some (.double (FP.dconst0))) := by
  refine MR.start RX4 (by decide) rfl (Nat.le_of_ble_eq_true rfl) (fun zp ze zs zm zb zt zc ls C hr hlk hR hS hl => ?_)
  have hl : lv_has ls 2 [(0, .ref d), (1, .int x)] := hl
  refine lv_aload_n C.1 C.2.1 dX4_share_0 rfl (lv_at hl 0 rfl) ?_
  refine lv_iload_n C.1 C.2.1 dX4_share_1 rfl (lv_at hl 1 rfl) ?_
  refine cxV (b := d) (As := [.int x]) (rest := []) (ci := 4) (q := (RX4, TX4, 36)) C (mis_bad l g d N M G hN x hb) cf_X4_isStation ml_X4_168 ⟨by decide, by decide⟩ ⟨rfl, rfl⟩ rfl (hR.1) rfl hl.1 rfl (Nat.le_of_ble_eq_true rfl) dX4_share_2 hR ⟨Nat.zero_le _, Nat.zero_le _⟩ hS (fun _ h => h) (fun H locs hR hS _ _ => ?_)
  simp only [Option.toList, List.cons_append, List.nil_append]
  refine lv_if_eq (tgt := 31) C.1 C.2.1 dX4_share_5 (by decide) (fun c5 => ?_) (fun c5 => ?_)
  · skip
    refine lv_dconst0 C.1 C.2.1 dX4_share_31 ?_
    skip
    exact endd C hr hlk hR hS dX4_share_32
  · skip
    exact absurd c5 (by decide)

def r_X4_share_ok (M : SX) (j : Nat) : UInt64 := if M 3 0 ≤ 0 then (FP.dconst0) else (FP.ddiv (FP.i2d (M 18 j)) (FP.i2d (M 3 0)))
set_option maxHeartbeats 4000000 in
set_option maxRecDepth 100000 in
theorem k_X4_share_ok (l : Launch) (g : GX) (d N : Nat) (M : SX) (G : FX) (hN : N ≤ 6) (j : Nat) (hj : j < N)  : MR l yX4_share (.code yX4_share cX4_share 2 (some .double) :: tb) (rmk 1 21) g (RepM g d N M G) (RepM g d N M G) (AM d) [.ref d, .int (nI j)] (some (.double (r_X4_share_ok M j))) := by
  refine MR.start RX4 (by decide) rfl (Nat.le_of_ble_eq_true rfl) (fun zp ze zs zm zb zt zc ls C hr hlk hR hS hl => ?_)
  have hl : lv_has ls 2 [(0, .ref d), (1, .int (nI j))] := hl
  refine lv_aload_n C.1 C.2.1 dX4_share_0 rfl (lv_at hl 0 rfl) ?_
  refine lv_iload_n C.1 C.2.1 dX4_share_1 rfl (lv_at hl 1 rfl) ?_
  refine cxV (b := d) (As := [.int (nI j)]) (rest := []) (ci := 4) (q := (RX4, TX4, 36)) C (mis_ok l g d N M G hN j (by omega)) cf_X4_isStation ml_X4_168 ⟨by decide, by decide⟩ ⟨rfl, rfl⟩ rfl (hR.1) rfl hl.1 rfl (Nat.le_of_ble_eq_true rfl) dX4_share_2 hR ⟨Nat.zero_le _, Nat.zero_le _⟩ hS (fun _ h => h) (fun H locs hR hS _ _ => ?_)
  simp only [Option.toList, List.cons_append, List.nil_append]
  refine lv_if_eq (tgt := 31) C.1 C.2.1 dX4_share_5 (by decide) (fun c5 => ?_) (fun c5 => ?_)
  · skip
    exact absurd c5 (by decide)
  · skip
    refine lv_aload_n C.1 C.2.1 dX4_share_8 rfl (lv_at hl 0 rfl) ?_
    refine m_get C hR 3 (by decide) rfl fl_X4_171 (v := .int (M 3 0)) rfl dX4_share_9 ?_
    refine lv_if_le (tgt := 31) C.1 C.2.1 dX4_share_12 (by decide) (fun c12 => ?_) (fun c12 => ?_)
    · skip
      refine lv_dconst0 C.1 C.2.1 dX4_share_31 ?_
      have hv : r_X4_share_ok M j = FP.dconst0 := (if_pos c12).trans (rfl)
      rw [hv]
      exact endd C hr hlk hR hS dX4_share_32
    · skip
      refine lv_aload_n C.1 C.2.1 dX4_share_15 rfl (lv_at hl 0 rfl) ?_
      refine m_get C hR 18 (by decide) rfl fl_X4_56 (v := .ref (mA d 18)) rfl dX4_share_16 ?_
      refine lv_iload_n C.1 C.2.1 dX4_share_19 rfl (lv_at hl 1 rfl) ?_
      refine mI_ld (k := 18) (j := j) C hR (by simp only [mAr]; decide) rfl (show j < 6 by omega) dX4_share_20 ?_
      refine lv_i2d C.1 C.2.1 dX4_share_21 ?_
      refine lv_aload_n C.1 C.2.1 dX4_share_22 rfl (lv_at hl 0 rfl) ?_
      refine m_get C hR 3 (by decide) rfl fl_X4_171 (v := .int (M 3 0)) rfl dX4_share_23 ?_
      refine lv_i2d C.1 C.2.1 dX4_share_26 ?_
      refine lv_ddiv C.1 C.2.1 dX4_share_27 (ddiv_ok _ (pos_n0 c12)) ?_
      refine lv_goto (tgt := 32) C.1 C.2.1 dX4_share_28 (by decide) ?_
      have hv : r_X4_share_ok M j = FP.ddiv (FP.i2d (M 18 j)) (FP.i2d (M 3 0)) := (if_neg c12).trans (rfl)
      rw [hv]
      exact endd C hr hlk hR hS dX4_share_32

set_option maxHeartbeats 4000000 in
set_option maxRecDepth 100000 in
theorem k_X4_longest (l : Launch) (g : GX) (d N : Nat) (M : SX) (G : FX) (hN : N ≤ 6)   : MR l yX4_longest (.code yX4_longest cX4_longest 1 (some .int) :: tb) (rmk 0 0) g (RepM g d N M G) (RepM g d N M G) (AM d) [.ref d] (some (.int (M 4 0))) := by
  refine MR.start RX4 (by decide) rfl (Nat.le_of_ble_eq_true rfl) (fun zp ze zs zm zb zt zc ls C hr hlk hR hS hl => ?_)
  have hl : lv_has ls 1 [(0, .ref d)] := hl
  refine lv_aload_n C.1 C.2.1 dX4_longest_0 rfl (lv_at hl 0 rfl) ?_
  refine m_get C hR 4 (by decide) rfl fl_X4_150 (v := .int (M 4 0)) rfl dX4_longest_1 ?_
  skip
  exact endi C hr hlk hR hS dX4_longest_4

set_option maxHeartbeats 4000000 in
set_option maxRecDepth 100000 in
theorem k_X4_cable_bad (l : Launch) (g : GX) (d N : Nat) (M : SX) (G : FX) (hN : N ≤ 6) (x on : Int32) (hb : bad N x)  : MR l yX4_cable (.code yX4_cable cX4_cable 3 (some .boolean) :: tb) (rmk 4 90) g (RepM g d N M G) (RepM g d N M G) (AM d) [.ref d, .int x, .int on] (some (.int (nI 0))) := by
  refine MR.start RX4 (by decide) rfl (Nat.le_of_ble_eq_true rfl) (fun zp ze zs zm zb zt zc ls C hr hlk hR hS hl => ?_)
  have hl : lv_has ls 3 [(0, .ref d), (1, .int x), (2, .int on)] := hl
  refine lv_aload_n C.1 C.2.1 dX4_cable_0 rfl (lv_at hl 0 rfl) ?_
  refine lv_iload_n C.1 C.2.1 dX4_cable_1 rfl (lv_at hl 1 rfl) ?_
  refine cxV (b := d) (As := [.int x]) (rest := []) (ci := 4) (q := (RX4, TX4, 36)) C (mis_bad l g d N M G hN x hb) cf_X4_isStation ml_X4_168 ⟨by decide, by decide⟩ ⟨rfl, rfl⟩ rfl (hR.1) rfl hl.1 rfl (Nat.le_of_ble_eq_true rfl) dX4_cable_2 hR ⟨Nat.zero_le _, Nat.zero_le _⟩ hS (fun _ h => h) (fun H locs hR hS _ _ => ?_)
  simp only [Option.toList, List.cons_append, List.nil_append]
  refine lv_if_eq (tgt := 18) C.1 C.2.1 dX4_cable_5 (by decide) (fun c5 => ?_) (fun c5 => ?_)
  · skip
    refine lv_iconst (v := nI 0) C.1 C.2.1 dX4_cable_18 (by decide) ?_
    skip
    exact endz C hr hlk (Or.inl rfl) hR hS dX4_cable_19
  · skip
    exact absurd c5 (by decide)

def s_X4_cable_ok (M : SX) (N : Nat) (j : Nat) (on : Int32) : SX := if M 2 j = on then M else (marr N (up2 M 2 j on))
def r_X4_cable_ok (M : SX) (j : Nat) (on : Int32) : Int32 := if M 2 j = on then (nI 0) else (nI 1)
set_option maxHeartbeats 4000000 in
set_option maxRecDepth 100000 in
theorem k_X4_cable_ok (l : Launch) (g : GX) (d N : Nat) (M : SX) (G : FX) (hN : N ≤ 6) (j : Nat) (hj : j < N) (on : Int32) (hon : on = 0 ∨ on = 1) (hJ : JM N M)  : MR l yX4_cable (.code yX4_cable cX4_cable 3 (some .boolean) :: tb) (rmk 4 90) g (RepM g d N M G) (RepM g d N (s_X4_cable_ok M N j on) G) (AM d) [.ref d, .int (nI j), .int on] (some (.int (r_X4_cable_ok M j on))) := by
  refine MR.start RX4 (by decide) rfl (Nat.le_of_ble_eq_true rfl) (fun zp ze zs zm zb zt zc ls C hr hlk hR hS hl => ?_)
  have hl : lv_has ls 3 [(0, .ref d), (1, .int (nI j)), (2, .int on)] := hl
  refine lv_aload_n C.1 C.2.1 dX4_cable_0 rfl (lv_at hl 0 rfl) ?_
  refine lv_iload_n C.1 C.2.1 dX4_cable_1 rfl (lv_at hl 1 rfl) ?_
  refine cxV (b := d) (As := [.int (nI j)]) (rest := []) (ci := 4) (q := (RX4, TX4, 36)) C (mis_ok l g d N M G hN j (by omega)) cf_X4_isStation ml_X4_168 ⟨by decide, by decide⟩ ⟨rfl, rfl⟩ rfl (hR.1) rfl hl.1 rfl (Nat.le_of_ble_eq_true rfl) dX4_cable_2 hR ⟨Nat.zero_le _, Nat.zero_le _⟩ hS (fun _ h => h) (fun H locs hR hS _ _ => ?_)
  simp only [Option.toList, List.cons_append, List.nil_append]
  refine lv_if_eq (tgt := 18) C.1 C.2.1 dX4_cable_5 (by decide) (fun c5 => ?_) (fun c5 => ?_)
  · skip
    exact absurd c5 (by decide)
  · skip
    refine lv_aload_n C.1 C.2.1 dX4_cable_8 rfl (lv_at hl 0 rfl) ?_
    refine m_get C hR 2 (by decide) rfl fl_X4_13 (v := .ref (mA d 2)) rfl dX4_cable_9 ?_
    refine lv_iload_n C.1 C.2.1 dX4_cable_12 rfl (lv_at hl 1 rfl) ?_
    refine mZ_ld (k := 2) (j := j) C hR (by simp only [mAr]; decide) rfl (show j < 6 by omega) dX4_cable_13 ?_
    refine lv_iload_n C.1 C.2.1 dX4_cable_14 rfl (lv_at hl 2 rfl) ?_
    refine lv_icmp_ne (tgt := 20) C.1 C.2.1 dX4_cable_15 (by decide) (fun c15 => ?_) (fun c15 => ?_)
    · skip
      refine lv_aload_n C.1 C.2.1 dX4_cable_20 rfl (lv_at hl 0 rfl) ?_
      refine m_get C hR 2 (by decide) rfl fl_X4_13 (v := .ref (mA d 2)) rfl dX4_cable_21 ?_
      refine lv_iload_n C.1 C.2.1 dX4_cable_24 rfl (lv_at hl 1 rfl) ?_
      refine lv_iload_n C.1 C.2.1 dX4_cable_25 rfl (lv_at hl 2 rfl) ?_
      refine mZ_st (k := 2) (j := j) C hR hS (by simp only [mAr]; decide) rfl (show j < 6 by omega) hon dX4_cable_26 (fun zM1 H locs ezM1 hR hS => ?_)
      refine lv_aload_n C.1 C.2.1 dX4_cable_27 rfl (lv_at hl 0 rfl) ?_
      refine cxV (b := d) (As := []) (rest := []) (ci := 4) (q := (RX4, TX4, 36)) C (k_X4_arrange l g d N zM1 G hN (by rw [ezM1]; exact up_JM hJ (by decide) (by decide) (by decide))) cf_X4_arrange ml_X4_115 ⟨by decide, by decide⟩ ⟨rfl, rfl⟩ rfl (hR.1) rfl hl.1 rfl (Nat.le_of_ble_eq_true rfl) dX4_cable_28 hR ⟨Nat.zero_le _, Nat.zero_le _⟩ hS (fun _ h => h) (fun H locs hR hS _ _ => ?_)
      obtain ⟨zM2, ezM2⟩ : ∃ y, y = marr N zM1 := ⟨_, rfl⟩
      rw [← ezM2] at hR
      simp only [Option.toList, List.nil_append]
      refine lv_iconst (v := nI 1) C.1 C.2.1 dX4_cable_31 (by decide) ?_
      have hs : s_X4_cable_ok M N j on = zM2 := (if_neg c15).trans (by rw [ezM2, ezM1])
      rw [hs]
      have hv : r_X4_cable_ok M j on = nI 1 := (if_neg c15).trans (rfl)
      rw [hv]
      exact endz C hr hlk (Or.inr rfl) hR hS dX4_cable_32
    · skip
      refine lv_iconst (v := nI 0) C.1 C.2.1 dX4_cable_18 (by decide) ?_
      have hs : s_X4_cable_ok M N j on = M := (if_pos c15).trans (rfl)
      rw [hs]
      have hv : r_X4_cable_ok M j on = nI 0 := (if_pos c15).trans (rfl)
      rw [hv]
      exact endz C hr hlk (Or.inl rfl) hR hS dX4_cable_19

set_option maxHeartbeats 4000000 in
set_option maxRecDepth 100000 in
theorem k_X4_power_bad (l : Launch) (g : GX) (d N : Nat) (M : SX) (G : FX) (hN : N ≤ 6) (x on : Int32) (hb : bad N x)  : MR l yX4_power (.code yX4_power cX4_power 3 (some .boolean) :: tb) (rmk 4 90) g (RepM g d N M G) (RepM g d N M G) (AM d) [.ref d, .int x, .int on] (some (.int (nI 0))) := by
  refine MR.start RX4 (by decide) rfl (Nat.le_of_ble_eq_true rfl) (fun zp ze zs zm zb zt zc ls C hr hlk hR hS hl => ?_)
  have hl : lv_has ls 3 [(0, .ref d), (1, .int x), (2, .int on)] := hl
  refine lv_aload_n C.1 C.2.1 dX4_power_0 rfl (lv_at hl 0 rfl) ?_
  refine lv_iload_n C.1 C.2.1 dX4_power_1 rfl (lv_at hl 1 rfl) ?_
  refine cxV (b := d) (As := [.int x]) (rest := []) (ci := 4) (q := (RX4, TX4, 36)) C (mis_bad l g d N M G hN x hb) cf_X4_isStation ml_X4_168 ⟨by decide, by decide⟩ ⟨rfl, rfl⟩ rfl (hR.1) rfl hl.1 rfl (Nat.le_of_ble_eq_true rfl) dX4_power_2 hR ⟨Nat.zero_le _, Nat.zero_le _⟩ hS (fun _ h => h) (fun H locs hR hS _ _ => ?_)
  simp only [Option.toList, List.cons_append, List.nil_append]
  refine lv_if_eq (tgt := 18) C.1 C.2.1 dX4_power_5 (by decide) (fun c5 => ?_) (fun c5 => ?_)
  · skip
    refine lv_iconst (v := nI 0) C.1 C.2.1 dX4_power_18 (by decide) ?_
    skip
    exact endz C hr hlk (Or.inl rfl) hR hS dX4_power_19
  · skip
    exact absurd c5 (by decide)

def s_X4_power_ok (M : SX) (N : Nat) (j : Nat) (on : Int32) : SX := if M 1 j = on then M else (if on = 0 then (up2 (up2 (marr N (up2 M 1 j on)) 21 (2 * j) (nI 0)) 21 (2 * j + 1) (nI 0)) else (up2 (up2 (marr N (up2 M 1 j on)) 21 (2 * j) ((marr N (up2 M 1 j on)) 21 (2 * j))) 21 (2 * j + 1) ((up2 (marr N (up2 M 1 j on)) 21 (2 * j) ((marr N (up2 M 1 j on)) 21 (2 * j))) 21 (2 * j + 1))))
def r_X4_power_ok (M : SX) (j : Nat) (on : Int32) : Int32 := if M 1 j = on then (nI 0) else (nI 1)
set_option maxHeartbeats 4000000 in
set_option maxRecDepth 100000 in
theorem k_X4_power_ok (l : Launch) (g : GX) (d N : Nat) (M : SX) (G : FX) (hN : N ≤ 6) (j : Nat) (hj : j < N) (on : Int32) (hon : on = 0 ∨ on = 1) (hJ : JM N M)  : MR l yX4_power (.code yX4_power cX4_power 3 (some .boolean) :: tb) (rmk 4 90) g (RepM g d N M G) (RepM g d N (s_X4_power_ok M N j on) G) (AM d) [.ref d, .int (nI j), .int on] (some (.int (r_X4_power_ok M j on))) := by
  refine MR.start RX4 (by decide) rfl (Nat.le_of_ble_eq_true rfl) (fun zp ze zs zm zb zt zc ls C hr hlk hR hS hl => ?_)
  have hl : lv_has ls 3 [(0, .ref d), (1, .int (nI j)), (2, .int on)] := hl
  refine lv_aload_n C.1 C.2.1 dX4_power_0 rfl (lv_at hl 0 rfl) ?_
  refine lv_iload_n C.1 C.2.1 dX4_power_1 rfl (lv_at hl 1 rfl) ?_
  refine cxV (b := d) (As := [.int (nI j)]) (rest := []) (ci := 4) (q := (RX4, TX4, 36)) C (mis_ok l g d N M G hN j (by omega)) cf_X4_isStation ml_X4_168 ⟨by decide, by decide⟩ ⟨rfl, rfl⟩ rfl (hR.1) rfl hl.1 rfl (Nat.le_of_ble_eq_true rfl) dX4_power_2 hR ⟨Nat.zero_le _, Nat.zero_le _⟩ hS (fun _ h => h) (fun H locs hR hS _ _ => ?_)
  simp only [Option.toList, List.cons_append, List.nil_append]
  refine lv_if_eq (tgt := 18) C.1 C.2.1 dX4_power_5 (by decide) (fun c5 => ?_) (fun c5 => ?_)
  · skip
    exact absurd c5 (by decide)
  · skip
    refine lv_aload_n C.1 C.2.1 dX4_power_8 rfl (lv_at hl 0 rfl) ?_
    refine m_get C hR 1 (by decide) rfl fl_X4_7 (v := .ref (mA d 1)) rfl dX4_power_9 ?_
    refine lv_iload_n C.1 C.2.1 dX4_power_12 rfl (lv_at hl 1 rfl) ?_
    refine mZ_ld (k := 1) (j := j) C hR (by simp only [mAr]; decide) rfl (show j < 6 by omega) dX4_power_13 ?_
    refine lv_iload_n C.1 C.2.1 dX4_power_14 rfl (lv_at hl 2 rfl) ?_
    refine lv_icmp_ne (tgt := 20) C.1 C.2.1 dX4_power_15 (by decide) (fun c15 => ?_) (fun c15 => ?_)
    · skip
      refine lv_aload_n C.1 C.2.1 dX4_power_20 rfl (lv_at hl 0 rfl) ?_
      refine m_get C hR 1 (by decide) rfl fl_X4_7 (v := .ref (mA d 1)) rfl dX4_power_21 ?_
      refine lv_iload_n C.1 C.2.1 dX4_power_24 rfl (lv_at hl 1 rfl) ?_
      refine lv_iload_n C.1 C.2.1 dX4_power_25 rfl (lv_at hl 2 rfl) ?_
      refine mZ_st (k := 1) (j := j) C hR hS (by simp only [mAr]; decide) rfl (show j < 6 by omega) hon dX4_power_26 (fun zM1 H locs ezM1 hR hS => ?_)
      refine lv_aload_n C.1 C.2.1 dX4_power_27 rfl (lv_at hl 0 rfl) ?_
      refine cxV (b := d) (As := []) (rest := []) (ci := 4) (q := (RX4, TX4, 36)) C (k_X4_arrange l g d N zM1 G hN (by rw [ezM1]; exact up_JM hJ (by decide) (by decide) (by decide))) cf_X4_arrange ml_X4_115 ⟨by decide, by decide⟩ ⟨rfl, rfl⟩ rfl (hR.1) rfl hl.1 rfl (Nat.le_of_ble_eq_true rfl) dX4_power_28 hR ⟨Nat.zero_le _, Nat.zero_le _⟩ hS (fun _ h => h) (fun H locs hR hS _ _ => ?_)
      obtain ⟨zM2, ezM2⟩ : ∃ y, y = marr N zM1 := ⟨_, rfl⟩
      rw [← ezM2] at hR
      simp only [Option.toList, List.nil_append]
      refine lv_aload_n C.1 C.2.1 dX4_power_31 rfl (lv_at hl 0 rfl) ?_
      refine m_get C hR 21 (by decide) rfl fl_X4_66 (v := .ref (mA d 21)) rfl dX4_power_32 ?_
      refine lv_iconst (v := nI 2) C.1 C.2.1 dX4_power_35 (by decide) ?_
      refine lv_iload_n C.1 C.2.1 dX4_power_36 rfl (lv_at hl 1 rfl) ?_
      refine n_imul (z := 2 * j) C dX4_power_37 (by omega) ?_
      refine lv_iload_n C.1 C.2.1 dX4_power_38 rfl (lv_at hl 2 rfl) ?_
      refine lv_if_eq (tgt := 53) C.1 C.2.1 dX4_power_39 (by decide) (fun c39 => ?_) (fun c39 => ?_)
      · skip
        refine lv_iconst (v := nI 0) C.1 C.2.1 dX4_power_53 (by decide) ?_
        refine mI_st (k := 21) (j := 2 * j) C hR hS (by simp only [mAr]; decide) rfl (show 2 * j < 12 by omega) dX4_power_54 (fun zM3 H locs ezM3 hR hS => ?_)
        refine lv_aload_n C.1 C.2.1 dX4_power_55 rfl (lv_at hl 0 rfl) ?_
        refine m_get C hR 21 (by decide) rfl fl_X4_66 (v := .ref (mA d 21)) rfl dX4_power_56 ?_
        refine lv_iconst (v := nI 2) C.1 C.2.1 dX4_power_59 (by decide) ?_
        refine lv_iload_n C.1 C.2.1 dX4_power_60 rfl (lv_at hl 1 rfl) ?_
        refine n_imul (z := 2 * j) C dX4_power_61 (by omega) ?_
        refine lv_iconst (v := nI 1) C.1 C.2.1 dX4_power_62 (by decide) ?_
        refine n_iadd (z := 2 * j + 1) C dX4_power_63 (by omega) ?_
        refine lv_iload_n C.1 C.2.1 dX4_power_64 rfl (lv_at hl 2 rfl) ?_
        refine lv_if_eq (tgt := 81) C.1 C.2.1 dX4_power_65 (by decide) (fun c65 => ?_) (fun c65 => ?_)
        · skip
          refine lv_iconst (v := nI 0) C.1 C.2.1 dX4_power_81 (by decide) ?_
          refine mI_st (k := 21) (j := 2 * j + 1) C hR hS (by simp only [mAr]; decide) rfl (show 2 * j + 1 < 12 by omega) dX4_power_82 (fun zM4 H locs ezM4 hR hS => ?_)
          refine lv_iconst (v := nI 1) C.1 C.2.1 dX4_power_83 (by decide) ?_
          have hs : s_X4_power_ok M N j on = zM4 := (if_neg c15).trans ((if_pos c39).trans (by rw [ezM4, ezM3, ezM2, ezM1]))
          rw [hs]
          have hv : r_X4_power_ok M j on = nI 1 := (if_neg c15).trans (rfl)
          rw [hv]
          exact endz C hr hlk (Or.inr rfl) hR hS dX4_power_84
        · skip
          exact absurd c39 c65
      · skip
        refine lv_aload_n C.1 C.2.1 dX4_power_42 rfl (lv_at hl 0 rfl) ?_
        refine m_get C hR 21 (by decide) rfl fl_X4_66 (v := .ref (mA d 21)) rfl dX4_power_43 ?_
        refine lv_iconst (v := nI 2) C.1 C.2.1 dX4_power_46 (by decide) ?_
        refine lv_iload_n C.1 C.2.1 dX4_power_47 rfl (lv_at hl 1 rfl) ?_
        refine n_imul (z := 2 * j) C dX4_power_48 (by omega) ?_
        refine mI_ld (k := 21) (j := 2 * j) C hR (by simp only [mAr]; decide) rfl (show 2 * j < 12 by omega) dX4_power_49 ?_
        refine lv_goto (tgt := 54) C.1 C.2.1 dX4_power_50 (by decide) ?_
        refine mI_st (k := 21) (j := 2 * j) C hR hS (by simp only [mAr]; decide) rfl (show 2 * j < 12 by omega) dX4_power_54 (fun zM5 H locs ezM5 hR hS => ?_)
        refine lv_aload_n C.1 C.2.1 dX4_power_55 rfl (lv_at hl 0 rfl) ?_
        refine m_get C hR 21 (by decide) rfl fl_X4_66 (v := .ref (mA d 21)) rfl dX4_power_56 ?_
        refine lv_iconst (v := nI 2) C.1 C.2.1 dX4_power_59 (by decide) ?_
        refine lv_iload_n C.1 C.2.1 dX4_power_60 rfl (lv_at hl 1 rfl) ?_
        refine n_imul (z := 2 * j) C dX4_power_61 (by omega) ?_
        refine lv_iconst (v := nI 1) C.1 C.2.1 dX4_power_62 (by decide) ?_
        refine n_iadd (z := 2 * j + 1) C dX4_power_63 (by omega) ?_
        refine lv_iload_n C.1 C.2.1 dX4_power_64 rfl (lv_at hl 2 rfl) ?_
        refine lv_if_eq (tgt := 81) C.1 C.2.1 dX4_power_65 (by decide) (fun c65 => ?_) (fun c65 => ?_)
        · skip
          exact absurd c65 c39
        · skip
          refine lv_aload_n C.1 C.2.1 dX4_power_68 rfl (lv_at hl 0 rfl) ?_
          refine m_get C hR 21 (by decide) rfl fl_X4_66 (v := .ref (mA d 21)) rfl dX4_power_69 ?_
          refine lv_iconst (v := nI 2) C.1 C.2.1 dX4_power_72 (by decide) ?_
          refine lv_iload_n C.1 C.2.1 dX4_power_73 rfl (lv_at hl 1 rfl) ?_
          refine n_imul (z := 2 * j) C dX4_power_74 (by omega) ?_
          refine lv_iconst (v := nI 1) C.1 C.2.1 dX4_power_75 (by decide) ?_
          refine n_iadd (z := 2 * j + 1) C dX4_power_76 (by omega) ?_
          refine mI_ld (k := 21) (j := 2 * j + 1) C hR (by simp only [mAr]; decide) rfl (show 2 * j + 1 < 12 by omega) dX4_power_77 ?_
          refine lv_goto (tgt := 82) C.1 C.2.1 dX4_power_78 (by decide) ?_
          refine mI_st (k := 21) (j := 2 * j + 1) C hR hS (by simp only [mAr]; decide) rfl (show 2 * j + 1 < 12 by omega) dX4_power_82 (fun zM6 H locs ezM6 hR hS => ?_)
          refine lv_iconst (v := nI 1) C.1 C.2.1 dX4_power_83 (by decide) ?_
          have hs : s_X4_power_ok M N j on = zM6 := (if_neg c15).trans ((if_neg c39).trans (by rw [ezM6, ezM5, ezM2, ezM1]))
          rw [hs]
          have hv : r_X4_power_ok M j on = nI 1 := (if_neg c15).trans (rfl)
          rw [hv]
          exact endz C hr hlk (Or.inr rfl) hR hS dX4_power_84
    · skip
      refine lv_iconst (v := nI 0) C.1 C.2.1 dX4_power_18 (by decide) ?_
      have hs : s_X4_power_ok M N j on = M := (if_pos c15).trans (rfl)
      rw [hs]
      have hv : r_X4_power_ok M j on = nI 0 := (if_pos c15).trans (rfl)
      rw [hv]
      exact endz C hr hlk (Or.inl rfl) hR hS dX4_power_19

def MP (N : Nat) (U : SX) (V : FX) (f : Nat) : Prop := ∃ L, 1 ≤ L ∧ L ≤ N ∧ U 25 f = nI L ∧ (∀ k, k < L → U 26 (6 * f + k) = nI (wr N (f + k))) ∧ (∀ j, j < N → fOK (V j)) ∧ (¬ U 28 f ≤ 0 ∨ (U 28 f ≤ 0 ∧ ∃ p, p < L ∧ U 30 f = nI p ∧ (U 32 f = -1 ∨ ∃ q z t, q < 12 ∧ 1 ≤ z ∧ z ≤ 5 ∧ t < 6 ∧ U 32 f = nI q ∧ U 21 q = nI z ∧ U 22 (5 * q) = nI t ∧ U 31 f ≤ 0)))
def mtS (N : Nat) (M : SX) (f : Nat) : SX := if M 28 f ≤ 0 then (if M 32 f = -1 then s_X4_tickRing_i M N f (nv (M 30 f)) (nv (M 25 f)) ((nv (M 30 f) + 1) % nv (M 25 f)) else s_X4_tickRing_s M N f (nv (M 30 f)) (nv (M 25 f)) ((nv (M 30 f) + 1) % nv (M 25 f)) (nv (M 32 f)) (nv (M 21 (nv (M 32 f)))) (nv (M 22 (5 * nv (M 32 f))))) else s_X4_tickRing_c M N f (nv (M 25 f))
def mtF (N : Nat) (M : SX) (G : FX) (f : Nat) : FX := if M 28 f ≤ 0 then (if M 32 f = -1 then f_X4_tickRing_i M G N f (nv (M 30 f)) (nv (M 25 f)) ((nv (M 30 f) + 1) % nv (M 25 f)) else G) else G
theorem kx_tickRing (l : Launch) (g : GX) (d N : Nat) (M : SX) (G : FX) (hN : N ≤ 6) (f : Nat) (hf : f < N) (h : MP N M G f) : MR l yX4_tickRing (.code yX4_tickRing cX4_tickRing 3 none :: tb) (rmk 2 48) g (RepM g d N M G) (RepM g d N (mtS N M f) (mtF N M G f)) (AM d) [.ref d, .int (nI f)] none := by
  obtain ⟨L, hL1, hL, h25, hrow, hF, h⟩ := h
  unfold mtS mtF
  rw [h25, nv_nI (by omega)]
  rcases h with h28 | ⟨h28, p, hp, h30, h⟩
  · rw [if_neg h28, if_neg h28]
    exact k_X4_tickRing_c l g d N M G hN f L hf hL1 hL h25 hrow h28
  · rw [if_pos h28, if_pos h28]
    have hc : (p + 1) % L < L := Nat.mod_lt _ (by omega)
    rw [h30, nv_nI (by omega)]
    rcases h with h | ⟨q, z, t, h1, h2, h3, h4, h5, h6, h7, h8⟩
    · rw [if_pos h, if_pos h]
      exact k_X4_tickRing_i l g d N M G hN f p L hf hp hL h30 h25 hrow _ rfl hc (hF _ (wr_lt (by omega))) h28 h
    · have hne : ¬ M 32 f = -1 := by rw [h5]; exact nI_nm1 (by omega)
      rw [if_neg hne, if_neg hne, h5, nv_nI (by omega), h6, nv_nI (by omega), h7, nv_nI (by omega)]
      exact k_X4_tickRing_s l g d N M G hN f p L hf hp hL h30 h25 hrow _ rfl hc (hF _ (wr_lt (by omega))) q z t h1 h2 h3 h4 h5 h6 h7 h28 h8
def mgS (N : Nat) (M : SX) (f : Nat) : SX := if nv (M 25 f) = 0 then M else mtS N M f
def mgF (N : Nat) (M : SX) (G : FX) (f : Nat) : FX := if nv (M 25 f) = 0 then G else mtF N M G f
def min_ (N : Nat) : Nat → SX × FX → SX × FX
  | 0, s => s
  | k + 1, s => (mgS N (min_ N k s).1 k, mgF N (min_ N k s).1 (min_ N k s).2 k)
def mck (s : SX × FX) : SX × FX := (up2 s.1 3 0 (s.1 3 0 + nI 1), s.2)
def mtk (N : Nat) : Nat → SX × FX → SX × FX
  | 0, s => s
  | k + 1, s => min_ N N (mck (mtk N k s))
def PM (N : Nat) (P : SX → FX → Prop) : Prop := (∀ U V, P U V → P (up2 U 3 0 (U 3 0 + nI 1)) V) ∧ (∀ U V f, f < N → P U V → P (mgS N U f) (mgF N U V f)) ∧ ∀ U V, P U V → ∀ f, f < N → ∃ L, L ≤ N ∧ U 25 f = nI L ∧ (1 ≤ L → MP N U V f)
set_option maxHeartbeats 4000000 in
set_option maxRecDepth 100000 in
theorem k_X4_tick_bad (l : Launch) (g : GX) (d N : Nat) (M : SX) (G : FX) (hN : N ≤ 6) (x : Int32) (hx : x < nI 1 ∨ ¬ x ≤ nI 100) : MR l yX4_tick (.code yX4_tick cX4_tick 4 (some .boolean) :: tb) (rmk 3 70) g (RepM g d N M G) (RepM g d N M G) (AM d) [.ref d, .int x] (some (.int (nI 0))) := by
  refine MR.start RX4 (by decide) rfl (Nat.le_of_ble_eq_true rfl) (fun zp ze zs zm zb zt zc ls C hr hlk hR hS hl => ?_)
  have hl : lv_has ls 4 [(0, .ref d), (1, .int x)] := hl
  refine lv_iload_n C.1 C.2.1 dX4_tick_0 rfl (lv_at hl 1 rfl) ?_
  refine lv_iconst (v := nI 1) C.1 C.2.1 dX4_tick_1 (by decide) ?_
  refine lv_icmp_lt (tgt := 11) C.1 C.2.1 dX4_tick_2 (by decide) (fun c2 => ?_) (fun c2 => ?_)
  · skip
    refine lv_iconst (v := nI 0) C.1 C.2.1 dX4_tick_11 (by decide) ?_
    skip
    exact endz C hr hlk (Or.inl rfl) hR hS dX4_tick_12
  · skip
    refine lv_iload_n C.1 C.2.1 dX4_tick_5 rfl (lv_at hl 1 rfl) ?_
    refine lv_bipush (v := nI 100) C.1 C.2.1 dX4_tick_6 (by decide) ?_
    refine lv_icmp_le (tgt := 13) C.1 C.2.1 dX4_tick_8 (by decide) (fun c8 => ?_) (fun c8 => ?_)
    · skip
      exact absurd hx (fun h => h.elim c2 (fun h => h c8))
    · skip
      refine lv_iconst (v := nI 0) C.1 C.2.1 dX4_tick_11 (by decide) ?_
      skip
      exact endz C hr hlk (Or.inl rfl) hR hS dX4_tick_12

set_option maxHeartbeats 4000000 in
set_option maxRecDepth 100000 in
theorem k_X4_tick_ok (l : Launch) (g : GX) (d N : Nat) (M : SX) (G : FX) (hN : N ≤ 6) (k : Nat) (hk1 : 1 ≤ k) (hk : k ≤ 100) (P : SX → FX → Prop) (hP : PM N P) (hU : P M G) : MR l yX4_tick (.code yX4_tick cX4_tick 4 (some .boolean) :: tb) (rmk 3 70) g (RepM g d N M G) (RepM g d N (mtk N k (M, G)).1 (mtk N k (M, G)).2) (AM d) [.ref d, .int (nI k)] (some (.int (nI 1))) := by
  refine MR.start RX4 (by decide) rfl (Nat.le_of_ble_eq_true rfl) (fun zp ze zs zm zb zt zc ls C hr hlk hR hS hl => ?_)
  have hl : lv_has ls 4 [(0, .ref d), (1, .int (nI k))] := hl
  refine lv_iload_n C.1 C.2.1 dX4_tick_0 rfl (lv_at hl 1 rfl) ?_
  refine lv_iconst (v := nI 1) C.1 C.2.1 dX4_tick_1 (by decide) ?_
  refine lv_icmp_lt (tgt := 11) C.1 C.2.1 dX4_tick_2 (by decide) (fun c2 => ?_) (fun c2 => ?_)
  · skip
    exact absurd c2 (nI_nlt (by omega) (by omega))
  · skip
    have c2 : ¬ (k < 1) := mt (nI_ltI (a := k) (b := 1) (by omega) (by omega)).mpr c2
    refine lv_iload_n C.1 C.2.1 dX4_tick_5 rfl (lv_at hl 1 rfl) ?_
    refine lv_bipush (v := nI 100) C.1 C.2.1 dX4_tick_6 (by decide) ?_
    refine lv_icmp_le (tgt := 13) C.1 C.2.1 dX4_tick_8 (by decide) (fun c8 => ?_) (fun c8 => ?_)
    · skip
      have c8 : k ≤ 100 := (nI_leI (a := k) (b := 100) (by omega) (by omega)).mp c8
      refine lv_iconst (v := nI 0) C.1 C.2.1 dX4_tick_13 (by decide) ?_
      refine lv_istore_n (lv' := [(2, .int (nI 0)), (0, .ref d), (1, .int (nI k))]) C.1 C.2.1 dX4_tick_14 rfl hl (by decide) rfl (fun ls hl => ?_)
      have lp : ∀ (zn : Nat) (i : Nat) (H : Heap) (locs : List Loc) (ls : Array Slot), k - i < zn → (i ≤ k) → (P (mtk N i (M, G)).1 (mtk N i (M, G)).2) → RepM g d N ((mtk N i (M, G)).1) ((mtk N i (M, G)).2) H → va_S (AM d) zs.heap H locs → lv_has ls 4 [(2, .int (nI i)), (0, .ref d), (1, .int (nI k))] → W zp l ze (rmk 3 70) zs zm ([.ref d, .int (nI k)] : List Value).toArray zb zt zc H locs 0 0 (MQ zb (QR (RepM g d N (mtk N k (M, G)).1 (mtk N k (M, G)).2) (AM d) (some (.int (nI 1)))) ([.ref d, .int (nI k)] : List Value).toArray zs 0 0 (AM d)) (F0 zm 15 ls []) := by
        intro zn
        induction zn with
        | zero => intro i H locs ls hm; exact absurd hm (Nat.not_lt_zero _)
        | succ zn ih =>
          intro i H locs ls hm hi hU hR hS hl
          obtain ⟨zM1, ezM1⟩ : ∃ y, y = (mtk N i (M, G)).1 := ⟨_, rfl⟩
          rw [← ezM1] at hR
          obtain ⟨F2, eF2⟩ : ∃ y, y = (mtk N i (M, G)).2 := ⟨_, rfl⟩
          rw [← eF2] at hR
          rw [← ezM1, ← eF2] at hU
          refine lv_iload_n C.1 C.2.1 dX4_tick_15 rfl (lv_at hl 0 rfl) ?_
          refine lv_iload_n C.1 C.2.1 dX4_tick_16 rfl (lv_at hl 2 rfl) ?_
          refine lv_icmp_ge (tgt := 66) C.1 C.2.1 dX4_tick_17 (by decide) (fun c17 => ?_) (fun c17 => ?_)
          · skip
            have c17 : k ≤ i := (nI_leI (a := k) (b := i) (by omega) (by omega)).mp c17
            refine lv_iconst (v := nI 1) C.1 C.2.1 dX4_tick_66 (by decide) ?_
            have hik : i = k := by omega
            rw [hik] at ezM1 eF2
            rw [ezM1, eF2] at hR
            exact endz C hr hlk (Or.inr rfl) hR hS dX4_tick_67
          · skip
            have c17 : ¬ (k ≤ i) := mt (nI_leI (a := k) (b := i) (by omega) (by omega)).mpr c17
            refine lv_aload_n C.1 C.2.1 dX4_tick_20 rfl (lv_at hl 1 rfl) ?_
            refine lv_aload_n C.1 C.2.1 dX4_tick_21 rfl (lv_at hl 1 rfl) ?_
            refine m_get C hR 3 (by decide) rfl fl_X4_171 (v := .int (zM1 3 0)) rfl dX4_tick_22 ?_
            refine lv_iconst (v := nI 1) C.1 C.2.1 dX4_tick_25 (by decide) ?_
            refine lv_iadd C.1 C.2.1 dX4_tick_26 ?_
            refine m_put C hR hS 3 (by decide) fl_X4_171 dX4_tick_27 (fun zM3 H locs ezM3 hR hS => ?_)
            refine lv_iconst (v := nI 0) C.1 C.2.1 dX4_tick_30 (by decide) ?_
            refine lv_istore_n (lv' := [(3, .int (nI 0)), (2, .int (nI i)), (0, .ref d), (1, .int (nI k))]) C.1 C.2.1 dX4_tick_31 rfl hl (by decide) rfl (fun ls hl => ?_)
            have hq1 : (min_ N 0 (mck (mtk N i (M, G)))).1 = zM3 := by rw [ezM3, ezM1]; rfl
            have hq2 : (min_ N 0 (mck (mtk N i (M, G)))).2 = F2 := by rw [eF2]; rfl
            have hU2 : P (min_ N 0 (mck (mtk N i (M, G)))).1 (min_ N 0 (mck (mtk N i (M, G)))).2 := hP.1 _ _ (by rw [ezM1, eF2] at hU; exact hU)
            rw [← hq1, ← hq2] at hR
            have lp2 : ∀ (zn2 : Nat) (f : Nat) (H : Heap) (locs : List Loc) (ls : Array Slot), N - f < zn2 → (f ≤ N) → (P (min_ N f (mck (mtk N i (M, G)))).1 (min_ N f (mck (mtk N i (M, G)))).2) → RepM g d N ((min_ N f (mck (mtk N i (M, G)))).1) ((min_ N f (mck (mtk N i (M, G)))).2) H → va_S (AM d) zs.heap H locs → lv_has ls 4 [(3, .int (nI f)), (2, .int (nI i)), (0, .ref d), (1, .int (nI k))] → W zp l ze (rmk 3 70) zs zm ([.ref d, .int (nI k)] : List Value).toArray zb zt zc H locs 0 0 (MQ zb (QR (RepM g d N (mtk N k (M, G)).1 (mtk N k (M, G)).2) (AM d) (some (.int (nI 1)))) ([.ref d, .int (nI k)] : List Value).toArray zs 0 0 (AM d)) (F0 zm 32 ls []) := by
              intro zn2
              induction zn2 with
              | zero => intro f H locs ls hm; exact absurd hm (Nat.not_lt_zero _)
              | succ zn2 ih2 =>
                intro f H locs ls hm hf hU hR hS hl
                obtain ⟨zM4, ezM4⟩ : ∃ y, y = (min_ N f (mck (mtk N i (M, G)))).1 := ⟨_, rfl⟩
                rw [← ezM4] at hR
                obtain ⟨F5, eF5⟩ : ∃ y, y = (min_ N f (mck (mtk N i (M, G)))).2 := ⟨_, rfl⟩
                rw [← eF5] at hR
                rw [← ezM4, ← eF5] at hU
                refine lv_iload_n C.1 C.2.1 dX4_tick_32 rfl (lv_at hl 0 rfl) ?_
                refine lv_aload_n C.1 C.2.1 dX4_tick_33 rfl (lv_at hl 2 rfl) ?_
                refine m_get C hR 0 (by decide) rfl fl_X4_111 (v := .int (nI N)) rfl dX4_tick_34 ?_
                refine lv_icmp_ge (tgt := 60) C.1 C.2.1 dX4_tick_37 (by decide) (fun c37 => ?_) (fun c37 => ?_)
                · skip
                  have c37 : N ≤ f := (nI_leI (a := N) (b := f) (by omega) (by omega)).mp c37
                  refine lv_iinc (v := nI (i + 1)) (lv' := [(2, .int (nI (i + 1))), (3, .int (nI f)), (0, .ref d), (1, .int (nI k))]) C.1 C.2.1 dX4_tick_60 hl (k := 1) rfl (nI_add _ _) (by decide) rfl (fun ls hl => ?_)
                  refine lv_goto (tgt := 15) C.1 C.2.1 dX4_tick_63 (by decide) ?_
                  have hfN : f = N := by omega
                  rw [hfN] at ezM4 eF5
                  rw [ezM4, eF5] at hR hU
                  exact ih (i + 1) H locs ls (by omega) (by omega) hU hR hS (lv_sub hl [0, 2, 3] rfl)
                · skip
                  have c37 : ¬ (N ≤ f) := mt (nI_leI (a := N) (b := f) (by omega) (by omega)).mpr c37
                  obtain ⟨L, hL, g25, hmp⟩ := hP.2.2 _ _ hU f (by omega)
                  refine lv_aload_n C.1 C.2.1 dX4_tick_40 rfl (lv_at hl 2 rfl) ?_
                  refine m_get C hR 25 (by decide) rfl fl_X4_78 (v := .ref (mA d 25)) rfl dX4_tick_41 ?_
                  refine lv_iload_n C.1 C.2.1 dX4_tick_44 rfl (lv_at hl 0 rfl) ?_
                  refine mI_ld (k := 25) (j := f) C hR (by simp only [mAr]; decide) rfl (show f < 6 by omega) dX4_tick_45 ?_
                  refine lv_re (y := nI L) (by rw [g25]) ?_
                  refine lv_if_le (tgt := 54) C.1 C.2.1 dX4_tick_46 (by decide) (fun c46 => ?_) (fun c46 => ?_)
                  · skip
                    have c46 : L ≤ 0 := (nI_leI (a := L) (b := 0) (by omega) (by omega)).mp c46
                    refine lv_iinc (v := nI (f + 1)) (lv' := [(3, .int (nI (f + 1))), (2, .int (nI i)), (0, .ref d), (1, .int (nI k))]) C.1 C.2.1 dX4_tick_54 hl (k := 0) rfl (nI_add _ _) (by decide) rfl (fun ls hl => ?_)
                    refine lv_goto (tgt := 32) C.1 C.2.1 dX4_tick_57 (by decide) ?_
                    have hn0 : nv (zM4 25 f) = 0 := by rw [g25, nv_nI (by omega)]; omega
                    have hb1 : (min_ N (f + 1) (mck (mtk N i (M, G)))).1 = zM4 := by show mgS N (min_ N f (mck (mtk N i (M, G)))).1 f = _; rw [← ezM4]; exact if_pos hn0
                    have hb2 : (min_ N (f + 1) (mck (mtk N i (M, G)))).2 = F5 := by show mgF N (min_ N f (mck (mtk N i (M, G)))).1 (min_ N f (mck (mtk N i (M, G)))).2 f = _; rw [← ezM4, ← eF5]; exact if_pos hn0
                    have hU3 : P (min_ N (f + 1) (mck (mtk N i (M, G)))).1 (min_ N (f + 1) (mck (mtk N i (M, G)))).2 := hP.2.1 _ _ f (by omega) (by rw [ezM4, eF5] at hU; exact hU)
                    rw [← hb1, ← hb2] at hR
                    exact ih2 (f + 1) H locs ls (by omega) (by omega) hU3 hR hS (lv_sub hl [0, 1, 2, 3] rfl)
                  · skip
                    have c46 : ¬ (L ≤ 0) := mt (nI_leI (a := L) (b := 0) (by omega) (by omega)).mpr c46
                    refine lv_aload_n C.1 C.2.1 dX4_tick_49 rfl (lv_at hl 2 rfl) ?_
                    refine lv_iload_n C.1 C.2.1 dX4_tick_50 rfl (lv_at hl 0 rfl) ?_
                    refine cxV (b := d) (As := [.int (nI f)]) (rest := []) (ci := 4) (q := (RX4, TX4, 36)) C (kx_tickRing l g d N zM4 F5 hN f (by omega) (hmp (by omega))) cf_X4_tickRing ml_X4_174 ⟨by decide, by decide⟩ ⟨rfl, rfl⟩ rfl (hR.1) rfl hl.1 rfl (Nat.le_of_ble_eq_true rfl) dX4_tick_51 hR ⟨Nat.zero_le _, Nat.zero_le _⟩ hS (fun _ h => h) (fun H locs hR hS _ _ => ?_)
                    obtain ⟨zM6, ezM6⟩ : ∃ y, y = mtS N zM4 f := ⟨_, rfl⟩
                    rw [← ezM6] at hR
                    obtain ⟨F7, eF7⟩ : ∃ y, y = mtF N zM4 F5 f := ⟨_, rfl⟩
                    rw [← eF7] at hR
                    simp only [Option.toList, List.nil_append]
                    refine lv_iinc (v := nI (f + 1)) (lv' := [(3, .int (nI (f + 1))), (2, .int (nI i)), (0, .ref d), (1, .int (nI k))]) C.1 C.2.1 dX4_tick_54 hl (k := 0) rfl (nI_add _ _) (by decide) rfl (fun ls hl => ?_)
                    refine lv_goto (tgt := 32) C.1 C.2.1 dX4_tick_57 (by decide) ?_
                    have hn0 : ¬ nv (zM4 25 f) = 0 := by rw [g25, nv_nI (by omega)]; omega
                    have hb1 : (min_ N (f + 1) (mck (mtk N i (M, G)))).1 = zM6 := by rw [ezM6]; show mgS N (min_ N f (mck (mtk N i (M, G)))).1 f = _; rw [← ezM4]; exact if_neg hn0
                    have hb2 : (min_ N (f + 1) (mck (mtk N i (M, G)))).2 = F7 := by rw [eF7]; show mgF N (min_ N f (mck (mtk N i (M, G)))).1 (min_ N f (mck (mtk N i (M, G)))).2 f = _; rw [← ezM4, ← eF5]; exact if_neg hn0
                    have hU3 : P (min_ N (f + 1) (mck (mtk N i (M, G)))).1 (min_ N (f + 1) (mck (mtk N i (M, G)))).2 := hP.2.1 _ _ f (by omega) (by rw [ezM4, eF5] at hU; exact hU)
                    rw [← hb1, ← hb2] at hR
                    exact ih2 (f + 1) H locs ls (by omega) (by omega) hU3 hR hS (lv_sub hl [0, 1, 2, 3] rfl)
            exact lp2 _ 0 _ _ ls (Nat.lt_succ_self _) (by omega) hU2 hR hS (lv_sub hl [0, 1, 2, 3] rfl)
      exact lp _ 0 _ _ ls (Nat.lt_succ_self _) (by omega) hU hR hS (lv_sub hl [0, 1, 2] rfl)
    · skip
      exact absurd (nI_le (by omega) (by omega)) c8

