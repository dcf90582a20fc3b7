set_option maxHeartbeats 4000000 in
set_option maxRecDepth 100000 in
theorem k_X4_state_cl (l : Launch) (g : GX) (d N : Nat) (M : SX) (G : FX) (hN : N ≤ 6) (j : Nat) (hj : j < N) (f : Nat) (hf : f < N) (h28 : ¬ M 28 f ≤ 0) (h34 : M 34 j = nI f)  : MR l yX4_state (.code yX4_state cX4_state 3 (some .int) :: tb) (rmk 2 42) g (RepM g d N M G) (RepM g d N M G) (AM d) [.ref d, .int (nI j)] (some (.int (nI 1))) := by
  refine MR.start RX4 (by decide) rfl (Nat.le_of_ble_eq_true rfl) (fun zp ze zs zm zb zt zc ls C hr hlk hR hS hl => ?_)
  have hl : lv_has ls 3 [(0, .ref d), (1, .int (nI j))] := hl
  refine lv_aload_n C.1 C.2.1 dX4_state_0 rfl (lv_at hl 0 rfl) ?_
  refine lv_iload_n C.1 C.2.1 dX4_state_1 rfl (lv_at hl 1 rfl) ?_
  refine cxV (b := d) (As := [.int (nI j)]) (rest := []) (ci := 4) (q := (RX4, TX4, 36)) C (k_X4_ring_ok l g d N M G hN j (by omega)) cf_X4_ring ml_X4_177 ⟨by decide, by decide⟩ ⟨rfl, rfl⟩ rfl (hR.1) rfl hl.1 rfl (Nat.le_of_ble_eq_true rfl) dX4_state_2 hR ⟨Nat.zero_le _, Nat.zero_le _⟩ hS (fun _ h => h) (fun H locs hR hS _ _ => ?_)
  simp only [Option.toList, List.cons_append, List.nil_append]
  refine lv_re (y := nI f) h34 ?_
  refine lv_if_ge (tgt := 10) C.1 C.2.1 dX4_state_5 (by decide) (fun c5 => ?_) (fun c5 => ?_)
  · skip
    have c5 : 0 ≤ f := (nI_leI (a := 0) (b := f) (by omega) (by omega)).mp c5
    refine lv_aload_n C.1 C.2.1 dX4_state_10 rfl (lv_at hl 0 rfl) ?_
    refine m_get C hR 34 (by decide) rfl fl_X4_105 (v := .ref (mA d 34)) rfl dX4_state_11 ?_
    refine lv_iload_n C.1 C.2.1 dX4_state_14 rfl (lv_at hl 1 rfl) ?_
    refine mI_ld (k := 34) (j := j) C hR (by simp only [mAr]; decide) rfl (show j < 6 by omega) dX4_state_15 ?_
    refine lv_re (y := nI f) (by rw [h34]) ?_
    refine lv_istore_n (lv' := [(2, .int (nI f)), (0, .ref d), (1, .int (nI j))]) C.1 C.2.1 dX4_state_16 rfl hl (by decide) rfl (fun ls hl => ?_)
    refine lv_aload_n C.1 C.2.1 dX4_state_17 rfl (lv_at hl 1 rfl) ?_
    refine m_get C hR 28 (by decide) rfl fl_X4_87 (v := .ref (mA d 28)) rfl dX4_state_18 ?_
    refine lv_iload_n C.1 C.2.1 dX4_state_21 rfl (lv_at hl 0 rfl) ?_
    refine mI_ld (k := 28) (j := f) C hR (by simp only [mAr]; decide) rfl (show f < 6 by omega) dX4_state_22 ?_
    refine lv_if_le (tgt := 28) C.1 C.2.1 dX4_state_23 (by decide) (fun c23 => ?_) (fun c23 => ?_)
    · exact absurd c23 h28
    · skip
      refine lv_iconst (v := nI 1) C.1 C.2.1 dX4_state_26 (by decide) ?_
      exact endi C hr hlk hR hS dX4_state_27
  · skip
    exact absurd (nI_pos' (by omega)) c5
set_option maxHeartbeats 4000000 in
set_option maxRecDepth 100000 in
theorem k_X4_operating_go (l : Launch) (g : GX) (d N : Nat) (M : SX) (G : FX) (hN : N ≤ 6) (j : Nat) (hj : j < N) (f : Nat) (hf : f < N) (h34 : M 34 j = nI f)  : MR l yX4_operating (.code yX4_operating cX4_operating 2 (some .int) :: tb) (rmk 2 42) g (RepM g d N M G) (RepM g d N M G) (AM d) [.ref d, .int (nI j)] (some (.int (M 29 f))) := by
  refine MR.start RX4 (by decide) rfl (Nat.le_of_ble_eq_true rfl) (fun zp ze zs zm zb zt zc ls C hr hlk hR hS hl => ?_)
  have hl : lv_has ls 2 [(0, .ref d), (1, .int (nI j))] := hl
  refine lv_aload_n C.1 C.2.1 dX4_operating_0 rfl (lv_at hl 0 rfl) ?_
  refine lv_iload_n C.1 C.2.1 dX4_operating_1 rfl (lv_at hl 1 rfl) ?_
  refine cxV (b := d) (As := [.int (nI j)]) (rest := []) (ci := 4) (q := (RX4, TX4, 36)) C (k_X4_ring_ok l g d N M G hN j (by omega)) cf_X4_ring ml_X4_177 ⟨by decide, by decide⟩ ⟨rfl, rfl⟩ rfl (hR.1) rfl hl.1 rfl (Nat.le_of_ble_eq_true rfl) dX4_operating_2 hR ⟨Nat.zero_le _, Nat.zero_le _⟩ hS (fun _ h => h) (fun H locs hR hS _ _ => ?_)
  simp only [Option.toList, List.cons_append, List.nil_append]
  refine lv_re (y := nI f) h34 ?_
  refine lv_if_ge (tgt := 12) C.1 C.2.1 dX4_operating_5 (by decide) (fun c5 => ?_) (fun c5 => ?_)
  · skip
    have c5 : 0 ≤ f := (nI_leI (a := 0) (b := f) (by omega) (by omega)).mp c5
    refine lv_aload_n C.1 C.2.1 dX4_operating_12 rfl (lv_at hl 0 rfl) ?_
    refine m_get C hR 29 (by decide) rfl fl_X4_90 (v := .ref (mA d 29)) rfl dX4_operating_13 ?_
    refine lv_aload_n C.1 C.2.1 dX4_operating_16 rfl (lv_at hl 0 rfl) ?_
    refine m_get C hR 34 (by decide) rfl fl_X4_105 (v := .ref (mA d 34)) rfl dX4_operating_17 ?_
    refine lv_iload_n C.1 C.2.1 dX4_operating_20 rfl (lv_at hl 1 rfl) ?_
    refine mI_ld (k := 34) (j := j) C hR (by simp only [mAr]; decide) rfl (show j < 6 by omega) dX4_operating_21 ?_
    refine lv_re (y := nI f) (by rw [h34]) ?_
    refine mI_ld (k := 29) (j := f) C hR (by simp only [mAr]; decide) rfl (show f < 6 by omega) dX4_operating_22 ?_
    skip
    exact endi C hr hlk hR hS dX4_operating_23
  · skip
    exact absurd (nI_pos' (by omega)) c5
