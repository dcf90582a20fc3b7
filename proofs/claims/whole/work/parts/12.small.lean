def nx (N j : Nat) : Nat := if j = N - 1 then 0 else j + 1
def pv (N j : Nat) : Nat := if j = 0 then N - 1 else j - 1
def wr (N i : Nat) : Nat := if i < N then i else i - N
theorem nx_lt {N j : Nat} (h : j < N) : nx N j < N := by unfold nx; split <;> omega
theorem pv_lt {N j : Nat} (h : j < N) : pv N j < N := by unfold pv; split <;> omega
theorem wr_lt {N i : Nat} (h : i < 2 * N) : wr N i < N := by unfold wr; split <;> omega
def qof (j : Nat) (x : Int32) : Nat := if x = 0 then 2 * j + 1 else 2 * j
theorem qof_lt {N j : Nat} {x : Int32} (h : j < N) : qof j x < 2 * N := by unfold qof; split <;> omega
theorem kq_X2_queueFor (l : Launch) (g : GX) (b N : Nat) (S : SX) (Fl : FX) (hN : N ≤ 6) (j : Nat) (hj : j < N) (x : Int32) : MR l yX2_queueFor (.code yX2_queueFor cX2_queueFor 2 (some (.object "DualRing$FrameQueue")) :: tb) (rmk 0 0) g (RepX g b N S Fl) (RepX g b N S Fl) (AX b N) [.ref (aSt b j), .int x] (some (.ref (aQ b (qof j x)))) := by
  have h : r_X2_queueFor S b j x = aQ b (qof j x) := by unfold r_X2_queueFor qof; split <;> rfl
  rw [← h]
  exact k_X2_queueFor l g b N S Fl hN j hj x
def r_X3_numberAfter (S : SX) (N : Nat) (j : Nat) : Int32 := if j = N - 1 then (nI 0) else (nI (j + 1))
set_option maxHeartbeats 4000000 in
set_option maxRecDepth 100000 in
theorem k_X3_numberAfter (l : Launch) (g : GX) (b N : Nat) (S : SX) (Fl : FX) (hN : N ≤ 6) (j : Nat) (hj : j < N)  : MR l yX3_numberAfter (.code yX3_numberAfter cX3_numberAfter 2 (some .int) :: tb) (rmk 0 0) g (RepX g b N S Fl) (RepX g b N S Fl) (AX b N) [.ref b, .int (nI j)] (some (.int (r_X3_numberAfter S N j))) := by
  refine MR.start RX3 (by decide) rfl (Nat.le_of_ble_eq_true rfl) (fun zp ze zs zm zb zt zc ls C hr hlk hR hS hl => ?_)
  have hl : lv_has ls 2 [(0, .ref b), (1, .int (nI j))] := hl
  refine lv_iload_n C.1 C.2.1 dX3_numberAfter_0 rfl (lv_at hl 1 rfl) ?_
  refine lv_aload_n C.1 C.2.1 dX3_numberAfter_1 rfl (lv_at hl 0 rfl) ?_
  refine xO_get C hR 0 (by decide) rfl fl_X3_9 (v := .int (nI N)) rfl dX3_numberAfter_2 ?_
  refine lv_iconst (v := nI 1) C.1 C.2.1 dX3_numberAfter_5 (by decide) ?_
  refine n_isub C (by omega) dX3_numberAfter_6 ?_
  refine lv_icmp_ne (tgt := 14) C.1 C.2.1 dX3_numberAfter_7 (by decide) (fun c7 => ?_) (fun c7 => ?_)
  · skip
    have c7 : ¬ (j = N - 1) := mt (nI_eq (a := j) (b := N - 1) (by omega) (by omega)).mpr c7
    refine lv_iload_n C.1 C.2.1 dX3_numberAfter_14 rfl (lv_at hl 1 rfl) ?_
    refine lv_iconst (v := nI 1) C.1 C.2.1 dX3_numberAfter_15 (by decide) ?_
    refine n_iadd (z := j + 1) C dX3_numberAfter_16 (by omega) ?_
    have hv : r_X3_numberAfter S N j = nI (j + 1) := (if_neg c7).trans (rfl)
    rw [hv]
    exact endi C hr hlk hR hS dX3_numberAfter_17
  · skip
    have c7 : j = N - 1 := (nI_eq (a := j) (b := N - 1) (by omega) (by omega)).mp c7
    refine lv_iconst (v := nI 0) C.1 C.2.1 dX3_numberAfter_10 (by decide) ?_
    refine lv_goto (tgt := 17) C.1 C.2.1 dX3_numberAfter_11 (by decide) ?_
    have hv : r_X3_numberAfter S N j = nI 0 := (if_pos c7).trans (rfl)
    rw [hv]
    exact endi C hr hlk hR hS dX3_numberAfter_17

def r_X3_numberBefore (S : SX) (N : Nat) (j : Nat) : Int32 := if j = 0 then (nI (N - 1)) else (nI (j - 1))
set_option maxHeartbeats 4000000 in
set_option maxRecDepth 100000 in
theorem k_X3_numberBefore (l : Launch) (g : GX) (b N : Nat) (S : SX) (Fl : FX) (hN : N ≤ 6) (j : Nat) (hj : j < N)  : MR l yX3_numberBefore (.code yX3_numberBefore cX3_numberBefore 2 (some .int) :: tb) (rmk 0 0) g (RepX g b N S Fl) (RepX g b N S Fl) (AX b N) [.ref b, .int (nI j)] (some (.int (r_X3_numberBefore S N j))) := by
  refine MR.start RX3 (by decide) rfl (Nat.le_of_ble_eq_true rfl) (fun zp ze zs zm zb zt zc ls C hr hlk hR hS hl => ?_)
  have hl : lv_has ls 2 [(0, .ref b), (1, .int (nI j))] := hl
  refine lv_iload_n C.1 C.2.1 dX3_numberBefore_0 rfl (lv_at hl 1 rfl) ?_
  refine lv_if_ne (tgt := 13) C.1 C.2.1 dX3_numberBefore_1 (by decide) (fun c1 => ?_) (fun c1 => ?_)
  · skip
    have c1 : ¬ (j = 0) := mt (nI_eq (a := j) (b := 0) (by omega) (by omega)).mpr c1
    refine lv_iload_n C.1 C.2.1 dX3_numberBefore_13 rfl (lv_at hl 1 rfl) ?_
    refine lv_iconst (v := nI 1) C.1 C.2.1 dX3_numberBefore_14 (by decide) ?_
    refine n_isub C (by omega) dX3_numberBefore_15 ?_
    have hv : r_X3_numberBefore S N j = nI (j - 1) := (if_neg c1).trans (rfl)
    rw [hv]
    exact endi C hr hlk hR hS dX3_numberBefore_16
  · skip
    have c1 : j = 0 := (nI_eq (a := j) (b := 0) (by omega) (by omega)).mp c1
    refine lv_aload_n C.1 C.2.1 dX3_numberBefore_4 rfl (lv_at hl 0 rfl) ?_
    refine xO_get C hR 0 (by decide) rfl fl_X3_9 (v := .int (nI N)) rfl dX3_numberBefore_5 ?_
    refine lv_iconst (v := nI 1) C.1 C.2.1 dX3_numberBefore_8 (by decide) ?_
    refine n_isub C (by omega) dX3_numberBefore_9 ?_
    refine lv_goto (tgt := 16) C.1 C.2.1 dX3_numberBefore_10 (by decide) ?_
    have hv : r_X3_numberBefore S N j = nI (N - 1) := (if_pos c1).trans (rfl)
    rw [hv]
    exact endi C hr hlk hR hS dX3_numberBefore_16

def r_X3_numberAt (S : SX) (N : Nat) (f p : Nat) : Int32 := if f + p < N then (nI (f + p)) else (nI (f + p - N))
set_option maxHeartbeats 4000000 in
set_option maxRecDepth 100000 in
theorem k_X3_numberAt (l : Launch) (g : GX) (b N : Nat) (S : SX) (Fl : FX) (hN : N ≤ 6) (f p : Nat) (hf : f < N) (hp : p < N) (h20 : S 20 f = nI f)  : MR l yX3_numberAt (.code yX3_numberAt cX3_numberAt 4 (some .int) :: tb) (rmk 0 0) g (RepX g b N S Fl) (RepX g b N S Fl) (AX b N) [.ref b, .ref (aRg b f), .int (nI p)] (some (.int (r_X3_numberAt S N f p))) := by
  refine MR.start RX3 (by decide) rfl (Nat.le_of_ble_eq_true rfl) (fun zp ze zs zm zb zt zc ls C hr hlk hR hS hl => ?_)
  have hl : lv_has ls 4 [(0, .ref b), (1, .ref (aRg b f)), (2, .int (nI p))] := hl
  refine lv_aload_n C.1 C.2.1 dX3_numberAt_0 rfl (lv_at hl 1 rfl) ?_
  refine xR_get (j := f) C hR (by omega) 0 (by decide) rfl fl_X3_144 (v := .int (S 20 f)) rfl dX3_numberAt_1 ?_
  refine lv_re (y := nI f) (by rw [h20]) ?_
  refine lv_iload_n C.1 C.2.1 dX3_numberAt_4 rfl (lv_at hl 2 rfl) ?_
  refine n_iadd (z := f + p) C dX3_numberAt_5 (by omega) ?_
  refine lv_istore_n (lv' := [(3, .int (nI (f + p))), (0, .ref b), (1, .ref (aRg b f)), (2, .int (nI p))]) C.1 C.2.1 dX3_numberAt_6 rfl hl (by decide) rfl (fun ls hl => ?_)
  refine lv_iload_n C.1 C.2.1 dX3_numberAt_7 rfl (lv_at hl 0 rfl) ?_
  refine lv_aload_n C.1 C.2.1 dX3_numberAt_8 rfl (lv_at hl 1 rfl) ?_
  refine xO_get C hR 0 (by decide) rfl fl_X3_9 (v := .int (nI N)) rfl dX3_numberAt_9 ?_
  refine lv_icmp_lt (tgt := 24) C.1 C.2.1 dX3_numberAt_12 (by decide) (fun c12 => ?_) (fun c12 => ?_)
  · skip
    have c12 : f + p < N := (nI_ltI (a := f + p) (b := N) (by omega) (by omega)).mp c12
    refine lv_iload_n C.1 C.2.1 dX3_numberAt_24 rfl (lv_at hl 0 rfl) ?_
    have hv : r_X3_numberAt S N f p = nI (f + p) := (if_pos c12).trans (rfl)
    rw [hv]
    exact endi C hr hlk hR hS dX3_numberAt_25
  · skip
    have c12 : ¬ (f + p < N) := mt (nI_ltI (a := f + p) (b := N) (by omega) (by omega)).mpr c12
    refine lv_iload_n C.1 C.2.1 dX3_numberAt_15 rfl (lv_at hl 0 rfl) ?_
    refine lv_aload_n C.1 C.2.1 dX3_numberAt_16 rfl (lv_at hl 1 rfl) ?_
    refine xO_get C hR 0 (by decide) rfl fl_X3_9 (v := .int (nI N)) rfl dX3_numberAt_17 ?_
    refine n_isub C (by omega) dX3_numberAt_20 ?_
    refine lv_goto (tgt := 25) C.1 C.2.1 dX3_numberAt_21 (by decide) ?_
    have hv : r_X3_numberAt S N f p = nI (f + p - N) := (if_neg c12).trans (rfl)
    rw [hv]
    exact endi C hr hlk hR hS dX3_numberAt_25

theorem kn_numberAfter (l : Launch) (g : GX) (b N : Nat) (S : SX) (Fl : FX) (hN : N ≤ 6) (j : Nat) (hj : j < N) : MR l yX3_numberAfter (.code yX3_numberAfter cX3_numberAfter 2 (some .int) :: tb) (rmk 0 0) g (RepX g b N S Fl) (RepX g b N S Fl) (AX b N) [.ref b, .int (nI j)] (some (.int (nI (nx N j)))) := by
  have h : r_X3_numberAfter S N j = nI (nx N j) := by unfold r_X3_numberAfter nx; split <;> rfl
  rw [← h]
  exact k_X3_numberAfter l g b N S Fl hN j hj
theorem kn_numberBefore (l : Launch) (g : GX) (b N : Nat) (S : SX) (Fl : FX) (hN : N ≤ 6) (j : Nat) (hj : j < N) : MR l yX3_numberBefore (.code yX3_numberBefore cX3_numberBefore 2 (some .int) :: tb) (rmk 0 0) g (RepX g b N S Fl) (RepX g b N S Fl) (AX b N) [.ref b, .int (nI j)] (some (.int (nI (pv N j)))) := by
  have h : r_X3_numberBefore S N j = nI (pv N j) := by unfold r_X3_numberBefore pv; split <;> rfl
  rw [← h]
  exact k_X3_numberBefore l g b N S Fl hN j hj
theorem kn_numberAt (l : Launch) (g : GX) (b N : Nat) (S : SX) (Fl : FX) (hN : N ≤ 6) (f p : Nat) (hf : f < N) (hp : p < N) (h20 : S 20 f = nI f) : MR l yX3_numberAt (.code yX3_numberAt cX3_numberAt 4 (some .int) :: tb) (rmk 0 0) g (RepX g b N S Fl) (RepX g b N S Fl) (AX b N) [.ref b, .ref (aRg b f), .int (nI p)] (some (.int (nI (wr N (f + p))))) := by
  have h : r_X3_numberAt S N f p = nI (wr N (f + p)) := by unfold r_X3_numberAt wr; split <;> rfl
  rw [← h]
  exact k_X3_numberAt l g b N S Fl hN f p hf hp h20
set_option maxHeartbeats 4000000 in
set_option maxRecDepth 100000 in
theorem k_X3_stationAt (l : Launch) (g : GX) (b N : Nat) (S : SX) (Fl : FX) (hN : N ≤ 6) (f p : Nat) (hf : f < N) (hp : p < N) (h20 : S 20 f = nI f)  : MR l yX3_stationAt (.code yX3_stationAt cX3_stationAt 3 (some (.object "DualRing$Station")) :: tb) (rmk 1 23) g (RepX g b N S Fl) (RepX g b N S Fl) (AX b N) [.ref b, .ref (aRg b f), .int (nI p)] (some (.ref (aSt b (wr N (f + p))))) := by
  refine MR.start RX3 (by decide) rfl (Nat.le_of_ble_eq_true rfl) (fun zp ze zs zm zb zt zc ls C hr hlk hR hS hl => ?_)
  have hl : lv_has ls 3 [(0, .ref b), (1, .ref (aRg b f)), (2, .int (nI p))] := hl
  refine lv_aload_n C.1 C.2.1 dX3_stationAt_0 rfl (lv_at hl 0 rfl) ?_
  refine xO_get C hR 1 (by decide) rfl fl_X3_15 (v := .ref (b + 1)) rfl dX3_stationAt_1 ?_
  refine lv_aload_n C.1 C.2.1 dX3_stationAt_4 rfl (lv_at hl 0 rfl) ?_
  refine lv_aload_n C.1 C.2.1 dX3_stationAt_5 rfl (lv_at hl 1 rfl) ?_
  refine lv_iload_n C.1 C.2.1 dX3_stationAt_6 rfl (lv_at hl 2 rfl) ?_
  refine cxV (b := b) (As := [.ref (aRg b f), .int (nI p)]) (rest := [.ref (b + 1)]) (ci := 3) (q := (RX3, TX3, 6)) C (kn_numberAt l g b N S Fl hN (f) (p) (by omega) (by omega) (by rw [h20])) cf_X3_numberAt ml_X3_87 ⟨by decide, by decide⟩ ⟨rfl, rfl⟩ rfl (hR.1) rfl hl.1 rfl (Nat.le_of_ble_eq_true rfl) dX3_stationAt_7 hR ⟨Nat.zero_le _, Nat.zero_le _⟩ hS (fun _ h => h) (fun H locs hR hS _ _ => ?_)
  simp only [Option.toList, List.cons_append, List.nil_append]
  have hw5 := wr_lt (N := N) (i := f + p) (by omega)
  refine xS_ald (j := wr N (f + p)) C hR (by omega) hN dX3_stationAt_10 ?_
  skip
  exact enda C hr hlk hR hS dX3_stationAt_11

def r_X3_isJoinedToNext (S : SX) (N : Nat) (j : Nat) : Int32 := if S 2 j = 0 then (nI 0) else (if S 40 j = 0 then (nI 0) else (if S 2 (nx N j) = 0 then (nI 0) else (nI 1)))
set_option maxHeartbeats 4000000 in
set_option maxRecDepth 100000 in
theorem k_X3_isJoinedToNext (l : Launch) (g : GX) (b N : Nat) (S : SX) (Fl : FX) (hN : N ≤ 6) (j : Nat) (hj : j < N)  : MR l yX3_isJoinedToNext (.code yX3_isJoinedToNext cX3_isJoinedToNext 2 (some .boolean) :: tb) (rmk 1 21) g (RepX g b N S Fl) (RepX g b N S Fl) (AX b N) [.ref b, .int (nI j)] (some (.int (r_X3_isJoinedToNext S N j))) := by
  refine MR.start RX3 (by decide) rfl (Nat.le_of_ble_eq_true rfl) (fun zp ze zs zm zb zt zc ls C hr hlk hR hS hl => ?_)
  have hl : lv_has ls 2 [(0, .ref b), (1, .int (nI j))] := hl
  refine lv_aload_n C.1 C.2.1 dX3_isJoinedToNext_0 rfl (lv_at hl 0 rfl) ?_
  refine xO_get C hR 1 (by decide) rfl fl_X3_15 (v := .ref (b + 1)) rfl dX3_isJoinedToNext_1 ?_
  refine lv_iload_n C.1 C.2.1 dX3_isJoinedToNext_4 rfl (lv_at hl 1 rfl) ?_
  refine xS_ald (j := j) C hR (by omega) hN dX3_isJoinedToNext_5 ?_
  refine xS_get (j := j) C hR (by omega) 2 (by decide) rfl fl_X3_56 (v := .int (S 2 j)) rfl dX3_isJoinedToNext_6 ?_
  refine lv_if_eq (tgt := 41) C.1 C.2.1 dX3_isJoinedToNext_9 (by decide) (fun c9 => ?_) (fun c9 => ?_)
  · skip
    refine lv_iconst (v := nI 0) C.1 C.2.1 dX3_isJoinedToNext_41 (by decide) ?_
    have hv : r_X3_isJoinedToNext S N j = nI 0 := (if_pos c9).trans (rfl)
    rw [hv]
    exact endz C hr hlk (Or.inl rfl) hR hS dX3_isJoinedToNext_42
  · skip
    refine lv_aload_n C.1 C.2.1 dX3_isJoinedToNext_12 rfl (lv_at hl 0 rfl) ?_
    refine xO_get C hR 2 (by decide) rfl fl_X3_19 (v := .ref (b + 2)) rfl dX3_isJoinedToNext_13 ?_
    refine lv_iload_n C.1 C.2.1 dX3_isJoinedToNext_16 rfl (lv_at hl 1 rfl) ?_
    refine xC_ld (j := j) C hR (by omega) hN dX3_isJoinedToNext_17 ?_
    refine lv_if_eq (tgt := 41) C.1 C.2.1 dX3_isJoinedToNext_18 (by decide) (fun c18 => ?_) (fun c18 => ?_)
    · skip
      refine lv_iconst (v := nI 0) C.1 C.2.1 dX3_isJoinedToNext_41 (by decide) ?_
      have hv : r_X3_isJoinedToNext S N j = nI 0 := (if_neg c9).trans ((if_pos c18).trans (rfl))
      rw [hv]
      exact endz C hr hlk (Or.inl rfl) hR hS dX3_isJoinedToNext_42
    · skip
      refine lv_aload_n C.1 C.2.1 dX3_isJoinedToNext_21 rfl (lv_at hl 0 rfl) ?_
      refine xO_get C hR 1 (by decide) rfl fl_X3_15 (v := .ref (b + 1)) rfl dX3_isJoinedToNext_22 ?_
      refine lv_aload_n C.1 C.2.1 dX3_isJoinedToNext_25 rfl (lv_at hl 0 rfl) ?_
      refine lv_iload_n C.1 C.2.1 dX3_isJoinedToNext_26 rfl (lv_at hl 1 rfl) ?_
      refine cxV (b := b) (As := [.int (nI j)]) (rest := [.ref (b + 1)]) (ci := 3) (q := (RX3, TX3, 6)) C (kn_numberAfter l g b N S Fl hN (j) (by omega)) cf_X3_numberAfter ml_X3_166 ⟨by decide, by decide⟩ ⟨rfl, rfl⟩ rfl (hR.1) rfl hl.1 rfl (Nat.le_of_ble_eq_true rfl) dX3_isJoinedToNext_27 hR ⟨Nat.zero_le _, Nat.zero_le _⟩ hS (fun _ h => h) (fun H locs hR hS _ _ => ?_)
      simp only [Option.toList, List.cons_append, List.nil_append]
      have hw25 := nx_lt (N := N) (j := j) (by omega)
      refine xS_ald (j := nx N j) C hR (by omega) hN dX3_isJoinedToNext_30 ?_
      refine xS_get (j := nx N j) C hR (by omega) 2 (by decide) rfl fl_X3_56 (v := .int (S 2 (nx N j))) rfl dX3_isJoinedToNext_31 ?_
      refine lv_if_eq (tgt := 41) C.1 C.2.1 dX3_isJoinedToNext_34 (by decide) (fun c34 => ?_) (fun c34 => ?_)
      · skip
        refine lv_iconst (v := nI 0) C.1 C.2.1 dX3_isJoinedToNext_41 (by decide) ?_
        have hv : r_X3_isJoinedToNext S N j = nI 0 := (if_neg c9).trans ((if_neg c18).trans ((if_pos c34).trans (rfl)))
        rw [hv]
        exact endz C hr hlk (Or.inl rfl) hR hS dX3_isJoinedToNext_42
      · skip
        refine lv_iconst (v := nI 1) C.1 C.2.1 dX3_isJoinedToNext_37 (by decide) ?_
        refine lv_goto (tgt := 42) C.1 C.2.1 dX3_isJoinedToNext_38 (by decide) ?_
        have hv : r_X3_isJoinedToNext S N j = nI 1 := (if_neg c9).trans ((if_neg c18).trans ((if_neg c34).trans (rfl)))
        rw [hv]
        exact endz C hr hlk (Or.inr rfl) hR hS dX3_isJoinedToNext_42

theorem ist_lo {N : Nat} {x : Int32} (h : x < 0) : ¬ ∃ j, j < N ∧ N ≤ 6 ∧ x = nI j := by
  rintro ⟨j, h1, h2, rfl⟩
  exact nI_pos (n := j) (by omega) h
def r_X3_isStation (S : SX) (N : Nat) (x : Int32) : Int32 := if x < 0 then (nI 0) else (if nI N ≤ x then (nI 0) else (nI 1))
set_option maxHeartbeats 4000000 in
set_option maxRecDepth 100000 in
theorem k_X3_isStation (l : Launch) (g : GX) (b N : Nat) (S : SX) (Fl : FX) (hN : N ≤ 6) (x : Int32)  : MR l yX3_isStation (.code yX3_isStation cX3_isStation 2 (some .boolean) :: tb) (rmk 0 0) g (RepX g b N S Fl) (RepX g b N S Fl) (AX b N) [.ref b, .int x] (some (.int (r_X3_isStation S N x))) := by
  refine MR.start RX3 (by decide) rfl (Nat.le_of_ble_eq_true rfl) (fun zp ze zs zm zb zt zc ls C hr hlk hR hS hl => ?_)
  have hl : lv_has ls 2 [(0, .ref b), (1, .int x)] := hl
  refine lv_iload_n C.1 C.2.1 dX3_isStation_0 rfl (lv_at hl 1 rfl) ?_
  refine lv_if_lt (tgt := 16) C.1 C.2.1 dX3_isStation_1 (by decide) (fun c1 => ?_) (fun c1 => ?_)
  · skip
    refine lv_iconst (v := nI 0) C.1 C.2.1 dX3_isStation_16 (by decide) ?_
    have hv : r_X3_isStation S N x = nI 0 := (if_pos c1).trans (rfl)
    rw [hv]
    exact endz C hr hlk (Or.inl rfl) hR hS dX3_isStation_17
  · skip
    refine lv_iload_n C.1 C.2.1 dX3_isStation_4 rfl (lv_at hl 1 rfl) ?_
    refine lv_aload_n C.1 C.2.1 dX3_isStation_5 rfl (lv_at hl 0 rfl) ?_
    refine xO_get C hR 0 (by decide) rfl fl_X3_9 (v := .int (nI N)) rfl dX3_isStation_6 ?_
    refine lv_icmp_ge (tgt := 16) C.1 C.2.1 dX3_isStation_9 (by decide) (fun c9 => ?_) (fun c9 => ?_)
    · skip
      refine lv_iconst (v := nI 0) C.1 C.2.1 dX3_isStation_16 (by decide) ?_
      have hv : r_X3_isStation S N x = nI 0 := (if_neg c1).trans ((if_pos c9).trans (rfl))
      rw [hv]
      exact endz C hr hlk (Or.inl rfl) hR hS dX3_isStation_17
    · skip
      refine lv_iconst (v := nI 1) C.1 C.2.1 dX3_isStation_12 (by decide) ?_
      refine lv_goto (tgt := 17) C.1 C.2.1 dX3_isStation_13 (by decide) ?_
      have hv : r_X3_isStation S N x = nI 1 := (if_neg c1).trans ((if_neg c9).trans (rfl))
      rw [hv]
      exact endz C hr hlk (Or.inr rfl) hR hS dX3_isStation_17

def s_X3_leave (S : SX) (f p L : Nat) : SX := if p = L - 1 then (if S 22 f = 0 then (up2 (up2 S 26 f (nI L)) 25 f (nI 0)) else (up2 (up2 S 26 f (nI 1)) 25 f (nI 0))) else (up2 (up2 S 26 f (nI 1)) 25 f (nI (p + 1)))
set_option maxHeartbeats 4000000 in
set_option maxRecDepth 100000 in
theorem k_X3_leave (l : Launch) (g : GX) (b N : Nat) (S : SX) (Fl : FX) (hN : N ≤ 6) (f p L : Nat) (hf : f < N) (hp : p < N) (hL : L ≤ N) (hL1 : 1 ≤ L) (h25 : S 25 f = nI p) (h21 : S 21 f = nI L)  : MR l yX3_leave (.code yX3_leave cX3_leave 3 none :: tb) (rmk 0 0) g (RepX g b N S Fl) (RepX g b N (s_X3_leave S f p L) Fl) (AX b N) [.ref b, .ref (aRg b f)] none := by
  refine MR.start RX3 (by decide) rfl (Nat.le_of_ble_eq_true rfl) (fun zp ze zs zm zb zt zc ls C hr hlk hR hS hl => ?_)
  have hl : lv_has ls 3 [(0, .ref b), (1, .ref (aRg b f))] := hl
  refine lv_aload_n C.1 C.2.1 dX3_leave_0 rfl (lv_at hl 1 rfl) ?_
  refine xR_get (j := f) C hR (by omega) 5 (by decide) rfl fl_X3_84 (v := .int (S 25 f)) rfl dX3_leave_1 ?_
  refine lv_re (y := nI p) (by rw [h25]) ?_
  refine lv_aload_n C.1 C.2.1 dX3_leave_4 rfl (lv_at hl 1 rfl) ?_
  refine xR_get (j := f) C hR (by omega) 1 (by decide) rfl fl_X3_153 (v := .int (S 21 f)) rfl dX3_leave_5 ?_
  refine lv_re (y := nI L) (by rw [h21]) ?_
  refine lv_iconst (v := nI 1) C.1 C.2.1 dX3_leave_8 (by decide) ?_
  refine n_isub C (by omega) dX3_leave_9 ?_
  refine lv_icmp_ne (tgt := 17) C.1 C.2.1 dX3_leave_10 (by decide) (fun c10 => ?_) (fun c10 => ?_)
  · skip
    have c10 : ¬ (p = L - 1) := mt (nI_eq (a := p) (b := L - 1) (by omega) (by omega)).mpr c10
    refine lv_iconst (v := nI 0) C.1 C.2.1 dX3_leave_17 (by decide) ?_
    refine lv_istore_n (lv' := [(2, .int (nI 0)), (0, .ref b), (1, .ref (aRg b f))]) C.1 C.2.1 dX3_leave_18 rfl hl (by decide) rfl (fun ls hl => ?_)
    refine lv_aload_n C.1 C.2.1 dX3_leave_19 rfl (lv_at hl 2 rfl) ?_
    refine lv_iload_n C.1 C.2.1 dX3_leave_20 rfl (lv_at hl 0 rfl) ?_
    refine lv_if_eq (tgt := 38) C.1 C.2.1 dX3_leave_21 (by decide) (fun c21 => ?_) (fun c21 => ?_)
    · skip
      refine lv_iconst (v := nI 1) C.1 C.2.1 dX3_leave_38 (by decide) ?_
      refine xR_put (j := f) C hR hS (by omega) 6 (by decide) rfl rfl fl_X3_81 rfl rfl rgS_6 dX3_leave_39 (fun S1 H locs eS1 hR hS => ?_)
      refine lv_aload_n C.1 C.2.1 dX3_leave_42 rfl (lv_at hl 2 rfl) ?_
      refine lv_iload_n C.1 C.2.1 dX3_leave_43 rfl (lv_at hl 0 rfl) ?_
      refine lv_if_eq (tgt := 51) C.1 C.2.1 dX3_leave_44 (by decide) (fun c44 => ?_) (fun c44 => ?_)
      · skip
        refine lv_aload_n C.1 C.2.1 dX3_leave_51 rfl (lv_at hl 2 rfl) ?_
        refine xR_get (j := f) C hR (by omega) 5 (by decide) rfl fl_X3_84 (v := .int (S1 25 f)) rfl dX3_leave_52 ?_
        refine lv_re (y := nI p) (by rw [eS1, up2_f (by decide), h25]) ?_
        refine lv_iconst (v := nI 1) C.1 C.2.1 dX3_leave_55 (by decide) ?_
        refine n_iadd (z := p + 1) C dX3_leave_56 (by omega) ?_
        refine xR_put (j := f) C hR hS (by omega) 5 (by decide) rfl rfl fl_X3_84 rfl rfl rgS_5 dX3_leave_57 (fun S2 H locs eS2 hR hS => ?_)
        have hs : s_X3_leave S f p L = S2 := (if_neg c10).trans (by rw [eS2, eS1])
        rw [hs]
        exact endv C hr hlk hR hS dX3_leave_60
      · skip
        exact absurd c44 (by decide)
    · skip
      exact absurd c21 (by decide)
  · skip
    have c10 : p = L - 1 := (nI_eq (a := p) (b := L - 1) (by omega) (by omega)).mp c10
    refine lv_iconst (v := nI 1) C.1 C.2.1 dX3_leave_13 (by decide) ?_
    refine lv_goto (tgt := 18) C.1 C.2.1 dX3_leave_14 (by decide) ?_
    refine lv_istore_n (lv' := [(2, .int (nI 1)), (0, .ref b), (1, .ref (aRg b f))]) C.1 C.2.1 dX3_leave_18 rfl hl (by decide) rfl (fun ls hl => ?_)
    refine lv_aload_n C.1 C.2.1 dX3_leave_19 rfl (lv_at hl 2 rfl) ?_
    refine lv_iload_n C.1 C.2.1 dX3_leave_20 rfl (lv_at hl 0 rfl) ?_
    refine lv_if_eq (tgt := 38) C.1 C.2.1 dX3_leave_21 (by decide) (fun c21 => ?_) (fun c21 => ?_)
    · skip
      exact absurd c21 (by decide)
    · skip
      refine lv_aload_n C.1 C.2.1 dX3_leave_24 rfl (lv_at hl 2 rfl) ?_
      refine xR_get (j := f) C hR (by omega) 2 (by decide) rfl fl_X3_156 (v := .int (S 22 f)) rfl dX3_leave_25 ?_
      refine lv_if_ne (tgt := 38) C.1 C.2.1 dX3_leave_28 (by decide) (fun c28 => ?_) (fun c28 => ?_)
      · skip
        refine lv_iconst (v := nI 1) C.1 C.2.1 dX3_leave_38 (by decide) ?_
        refine xR_put (j := f) C hR hS (by omega) 6 (by decide) rfl rfl fl_X3_81 rfl rfl rgS_6 dX3_leave_39 (fun S3 H locs eS3 hR hS => ?_)
        refine lv_aload_n C.1 C.2.1 dX3_leave_42 rfl (lv_at hl 2 rfl) ?_
        refine lv_iload_n C.1 C.2.1 dX3_leave_43 rfl (lv_at hl 0 rfl) ?_
        refine lv_if_eq (tgt := 51) C.1 C.2.1 dX3_leave_44 (by decide) (fun c44 => ?_) (fun c44 => ?_)
        · skip
          exact absurd c44 (by decide)
        · skip
          refine lv_iconst (v := nI 0) C.1 C.2.1 dX3_leave_47 (by decide) ?_
          refine lv_goto (tgt := 57) C.1 C.2.1 dX3_leave_48 (by decide) ?_
          refine xR_put (j := f) C hR hS (by omega) 5 (by decide) rfl rfl fl_X3_84 rfl rfl rgS_5 dX3_leave_57 (fun S4 H locs eS4 hR hS => ?_)
          have hs : s_X3_leave S f p L = S4 := (if_pos c10).trans ((if_neg c28).trans (by rw [eS4, eS3]))
          rw [hs]
          exact endv C hr hlk hR hS dX3_leave_60
      · skip
        refine lv_aload_n C.1 C.2.1 dX3_leave_31 rfl (lv_at hl 2 rfl) ?_
        refine xR_get (j := f) C hR (by omega) 1 (by decide) rfl fl_X3_153 (v := .int (S 21 f)) rfl dX3_leave_32 ?_
        refine lv_re (y := nI L) (by rw [h21]) ?_
        refine lv_goto (tgt := 39) C.1 C.2.1 dX3_leave_35 (by decide) ?_
        refine xR_put (j := f) C hR hS (by omega) 6 (by decide) rfl rfl fl_X3_81 rfl rfl rgS_6 dX3_leave_39 (fun S5 H locs eS5 hR hS => ?_)
        refine lv_aload_n C.1 C.2.1 dX3_leave_42 rfl (lv_at hl 2 rfl) ?_
        refine lv_iload_n C.1 C.2.1 dX3_leave_43 rfl (lv_at hl 0 rfl) ?_
        refine lv_if_eq (tgt := 51) C.1 C.2.1 dX3_leave_44 (by decide) (fun c44 => ?_) (fun c44 => ?_)
        · skip
          exact absurd c44 (by decide)
        · skip
          refine lv_iconst (v := nI 0) C.1 C.2.1 dX3_leave_47 (by decide) ?_
          refine lv_goto (tgt := 57) C.1 C.2.1 dX3_leave_48 (by decide) ?_
          refine xR_put (j := f) C hR hS (by omega) 5 (by decide) rfl rfl fl_X3_84 rfl rfl rgS_5 dX3_leave_57 (fun S6 H locs eS6 hR hS => ?_)
          have hs : s_X3_leave S f p L = S6 := (if_pos c10).trans ((if_pos c28).trans (by rw [eS6, eS5]))
          rw [hs]
          exact endv C hr hlk hR hS dX3_leave_60

set_option maxHeartbeats 4000000 in
set_option maxRecDepth 100000 in
theorem k_X3_longest (l : Launch) (g : GX) (b N : Nat) (S : SX) (Fl : FX) (hN : N ≤ 6)   : MR l yX3_longest (.code yX3_longest cX3_longest 1 (some .int) :: tb) (rmk 0 0) g (RepX g b N S Fl) (RepX g b N S Fl) (AX b N) [.ref b] (some (.int (S 46 0))) := by
  refine MR.start RX3 (by decide) rfl (Nat.le_of_ble_eq_true rfl) (fun zp ze zs zm zb zt zc ls C hr hlk hR hS hl => ?_)
  have hl : lv_has ls 1 [(0, .ref b)] := hl
  refine lv_aload_n C.1 C.2.1 dX3_longest_0 rfl (lv_at hl 0 rfl) ?_
  refine xO_get C hR 5 (by decide) rfl fl_X3_141 (v := .int (S 46 0)) rfl dX3_longest_1 ?_
  skip
  exact endi C hr hlk hR hS dX3_longest_4

