def r_X4_isStation (M : SX) (N : Nat) (x : Int32) : Int32 := if x < 0 then (nI 0) else (if nI N ≤ x then (nI 0) else (nI 1))
set_option maxHeartbeats 4000000 in
set_option maxRecDepth 100000 in
theorem k_X4_isStation (l : Launch) (g : GX) (d N : Nat) (M : SX) (G : FX) (hN : N ≤ 6) (x : Int32)  : MR l yX4_isStation (.code yX4_isStation cX4_isStation 2 (some .boolean) :: tb) (rmk 0 0) g (RepM g d N M G) (RepM g d N M G) (AM d) [.ref d, .int x] (some (.int (r_X4_isStation M N x))) := by
  refine MR.start RX4 (by decide) rfl (Nat.le_of_ble_eq_true rfl) (fun zp ze zs zm zb zt zc ls C hr hlk hR hS hl => ?_)
  have hl : lv_has ls 2 [(0, .ref d), (1, .int x)] := hl
  refine lv_iload_n C.1 C.2.1 dX4_isStation_0 rfl (lv_at hl 1 rfl) ?_
  refine lv_if_lt (tgt := 16) C.1 C.2.1 dX4_isStation_1 (by decide) (fun c1 => ?_) (fun c1 => ?_)
  · skip
    refine lv_iconst (v := nI 0) C.1 C.2.1 dX4_isStation_16 (by decide) ?_
    have hv : r_X4_isStation M N x = nI 0 := (if_pos c1).trans (rfl)
    rw [hv]
    exact endz C hr hlk (Or.inl rfl) hR hS dX4_isStation_17
  · skip
    refine lv_iload_n C.1 C.2.1 dX4_isStation_4 rfl (lv_at hl 1 rfl) ?_
    refine lv_aload_n C.1 C.2.1 dX4_isStation_5 rfl (lv_at hl 0 rfl) ?_
    refine m_get C hR 0 (by decide) rfl fl_X4_111 (v := .int (nI N)) rfl dX4_isStation_6 ?_
    refine lv_icmp_ge (tgt := 16) C.1 C.2.1 dX4_isStation_9 (by decide) (fun c9 => ?_) (fun c9 => ?_)
    · skip
      refine lv_iconst (v := nI 0) C.1 C.2.1 dX4_isStation_16 (by decide) ?_
      have hv : r_X4_isStation M N x = nI 0 := (if_neg c1).trans ((if_pos c9).trans (rfl))
      rw [hv]
      exact endz C hr hlk (Or.inl rfl) hR hS dX4_isStation_17
    · skip
      refine lv_iconst (v := nI 1) C.1 C.2.1 dX4_isStation_12 (by decide) ?_
      refine lv_goto (tgt := 17) C.1 C.2.1 dX4_isStation_13 (by decide) ?_
      have hv : r_X4_isStation M N x = nI 1 := (if_neg c1).trans ((if_neg c9).trans (rfl))
      rw [hv]
      exact endz C hr hlk (Or.inr rfl) hR hS dX4_isStation_17

set_option maxHeartbeats 4000000 in
set_option maxRecDepth 100000 in
theorem k_X4_next (l : Launch) (g : GX) (d N : Nat) (M : SX) (G : FX) (hN : N ≤ 6) (j : Nat) (hj : j < N)  : MR l yX4_next (.code yX4_next cX4_next 2 (some .int) :: tb) (rmk 0 0) g (RepM g d N M G) (RepM g d N M G) (AM d) [.ref d, .int (nI j)] (some (.int (nI ((j + 1) % N)))) := by
  refine MR.start RX4 (by decide) rfl (Nat.le_of_ble_eq_true rfl) (fun zp ze zs zm zb zt zc ls C hr hlk hR hS hl => ?_)
  have hl : lv_has ls 2 [(0, .ref d), (1, .int (nI j))] := hl
  refine lv_iload_n C.1 C.2.1 dX4_next_0 rfl (lv_at hl 1 rfl) ?_
  refine lv_iconst (v := nI 1) C.1 C.2.1 dX4_next_1 (by decide) ?_
  refine n_iadd (z := j + 1) C dX4_next_2 (by omega) ?_
  refine lv_aload_n C.1 C.2.1 dX4_next_3 rfl (lv_at hl 0 rfl) ?_
  refine m_get C hR 0 (by decide) rfl fl_X4_111 (v := .int (nI N)) rfl dX4_next_4 ?_
  refine n_irem C (by omega) (by omega) (by omega) dX4_next_7 ?_
  skip
  exact endi C hr hlk hR hS dX4_next_8

set_option maxHeartbeats 4000000 in
set_option maxRecDepth 100000 in
theorem k_X4_previous (l : Launch) (g : GX) (d N : Nat) (M : SX) (G : FX) (hN : N ≤ 6) (j : Nat) (hj : j < N)  : MR l yX4_previous (.code yX4_previous cX4_previous 2 (some .int) :: tb) (rmk 0 0) g (RepM g d N M G) (RepM g d N M G) (AM d) [.ref d, .int (nI j)] (some (.int (nI ((j + N - 1) % N)))) := by
  refine MR.start RX4 (by decide) rfl (Nat.le_of_ble_eq_true rfl) (fun zp ze zs zm zb zt zc ls C hr hlk hR hS hl => ?_)
  have hl : lv_has ls 2 [(0, .ref d), (1, .int (nI j))] := hl
  refine lv_iload_n C.1 C.2.1 dX4_previous_0 rfl (lv_at hl 1 rfl) ?_
  refine lv_aload_n C.1 C.2.1 dX4_previous_1 rfl (lv_at hl 0 rfl) ?_
  refine m_get C hR 0 (by decide) rfl fl_X4_111 (v := .int (nI N)) rfl dX4_previous_2 ?_
  refine n_iadd (z := j + N) C dX4_previous_5 (by omega) ?_
  refine lv_iconst (v := nI 1) C.1 C.2.1 dX4_previous_6 (by decide) ?_
  refine n_isub C (by omega) dX4_previous_7 ?_
  refine lv_aload_n C.1 C.2.1 dX4_previous_8 rfl (lv_at hl 0 rfl) ?_
  refine m_get C hR 0 (by decide) rfl fl_X4_111 (v := .int (nI N)) rfl dX4_previous_9 ?_
  refine n_irem C (by omega) (by omega) (by omega) dX4_previous_12 ?_
  skip
  exact endi C hr hlk hR hS dX4_previous_13

theorem nx_mod {N j : Nat} (h : j < N) : (j + 1) % N = nx N j := by
  unfold nx
  split
  · next e => rw [e, show N - 1 + 1 = N by omega, Nat.mod_self]
  · exact Nat.mod_eq_of_lt (by omega)
theorem pv_mod {N j : Nat} (h : j < N) : (j + N - 1) % N = pv N j := by
  unfold pv
  split
  · next e => rw [e, Nat.mod_eq_of_lt (by omega)]; omega
  · rw [show j + N - 1 = (j - 1) + N by omega, Nat.add_mod_right, Nat.mod_eq_of_lt (by omega)]
theorem nx_wr {N i : Nat} (h : i + 1 < 2 * N) : nx N (wr N i) = wr N (i + 1) := by
  unfold nx wr
  repeat' split
  all_goals omega
theorem mn_next (l : Launch) (g : GX) (d N : Nat) (M : SX) (G : FX) (hN : N ≤ 6) (j : Nat) (hj : j < N) : MR l yX4_next (.code yX4_next cX4_next 2 (some .int) :: tb) (rmk 0 0) g (RepM g d N M G) (RepM g d N M G) (AM d) [.ref d, .int (nI j)] (some (.int (nI (nx N j)))) := by
  rw [← nx_mod hj]
  exact k_X4_next l g d N M G hN j hj
theorem mn_previous (l : Launch) (g : GX) (d N : Nat) (M : SX) (G : FX) (hN : N ≤ 6) (j : Nat) (hj : j < N) : MR l yX4_previous (.code yX4_previous cX4_previous 2 (some .int) :: tb) (rmk 0 0) g (RepM g d N M G) (RepM g d N M G) (AM d) [.ref d, .int (nI j)] (some (.int (nI (pv N j)))) := by
  rw [← pv_mod hj]
  exact k_X4_previous l g d N M G hN j hj
def r_X4_isJoined (M : SX) (N : Nat) (j : Nat) : Int32 := if M 1 j = 0 then (nI 0) else (if M 2 j = 0 then (nI 0) else (if M 1 (nx N j) = 0 then (nI 0) else (nI 1)))
set_option maxHeartbeats 4000000 in
set_option maxRecDepth 100000 in
theorem k_X4_isJoined (l : Launch) (g : GX) (d N : Nat) (M : SX) (G : FX) (hN : N ≤ 6) (j : Nat) (hj : j < N)  : MR l yX4_isJoined (.code yX4_isJoined cX4_isJoined 2 (some .boolean) :: tb) (rmk 1 21) g (RepM g d N M G) (RepM g d N M G) (AM d) [.ref d, .int (nI j)] (some (.int (r_X4_isJoined M N j))) := by
  refine MR.start RX4 (by decide) rfl (Nat.le_of_ble_eq_true rfl) (fun zp ze zs zm zb zt zc ls C hr hlk hR hS hl => ?_)
  have hl : lv_has ls 2 [(0, .ref d), (1, .int (nI j))] := hl
  refine lv_aload_n C.1 C.2.1 dX4_isJoined_0 rfl (lv_at hl 0 rfl) ?_
  refine m_get C hR 1 (by decide) rfl fl_X4_7 (v := .ref (mA d 1)) rfl dX4_isJoined_1 ?_
  refine lv_iload_n C.1 C.2.1 dX4_isJoined_4 rfl (lv_at hl 1 rfl) ?_
  refine mZ_ld (k := 1) (j := j) C hR (by simp only [mAr]; decide) rfl (show j < 6 by omega) dX4_isJoined_5 ?_
  refine lv_if_eq (tgt := 35) C.1 C.2.1 dX4_isJoined_6 (by decide) (fun c6 => ?_) (fun c6 => ?_)
  · skip
    refine lv_iconst (v := nI 0) C.1 C.2.1 dX4_isJoined_35 (by decide) ?_
    have hv : r_X4_isJoined M N j = nI 0 := (if_pos c6).trans (rfl)
    rw [hv]
    exact endz C hr hlk (Or.inl rfl) hR hS dX4_isJoined_36
  · skip
    refine lv_aload_n C.1 C.2.1 dX4_isJoined_9 rfl (lv_at hl 0 rfl) ?_
    refine m_get C hR 2 (by decide) rfl fl_X4_13 (v := .ref (mA d 2)) rfl dX4_isJoined_10 ?_
    refine lv_iload_n C.1 C.2.1 dX4_isJoined_13 rfl (lv_at hl 1 rfl) ?_
    refine mZ_ld (k := 2) (j := j) C hR (by simp only [mAr]; decide) rfl (show j < 6 by omega) dX4_isJoined_14 ?_
    refine lv_if_eq (tgt := 35) C.1 C.2.1 dX4_isJoined_15 (by decide) (fun c15 => ?_) (fun c15 => ?_)
    · skip
      refine lv_iconst (v := nI 0) C.1 C.2.1 dX4_isJoined_35 (by decide) ?_
      have hv : r_X4_isJoined M N j = nI 0 := (if_neg c6).trans ((if_pos c15).trans (rfl))
      rw [hv]
      exact endz C hr hlk (Or.inl rfl) hR hS dX4_isJoined_36
    · skip
      refine lv_aload_n C.1 C.2.1 dX4_isJoined_18 rfl (lv_at hl 0 rfl) ?_
      refine m_get C hR 1 (by decide) rfl fl_X4_7 (v := .ref (mA d 1)) rfl dX4_isJoined_19 ?_
      refine lv_aload_n C.1 C.2.1 dX4_isJoined_22 rfl (lv_at hl 0 rfl) ?_
      refine lv_iload_n C.1 C.2.1 dX4_isJoined_23 rfl (lv_at hl 1 rfl) ?_
      refine cxV (b := d) (As := [.int (nI j)]) (rest := [.ref (mA d 1)]) (ci := 4) (q := (RX4, TX4, 36)) C (mn_next l g d N M G hN (j) (by omega)) cf_X4_next ml_X4_118 ⟨by decide, by decide⟩ ⟨rfl, rfl⟩ rfl (hR.1) rfl hl.1 rfl (Nat.le_of_ble_eq_true rfl) dX4_isJoined_24 hR ⟨Nat.zero_le _, Nat.zero_le _⟩ hS (fun _ h => h) (fun H locs hR hS _ _ => ?_)
      simp only [Option.toList, List.cons_append, List.nil_append]
      have hw24 := nx_lt (N := N) (j := j) (by omega)
      refine mZ_ld (k := 1) (j := nx N j) C hR (by simp only [mAr]; decide) rfl (show nx N j < 6 by omega) dX4_isJoined_27 ?_
      refine lv_if_eq (tgt := 35) C.1 C.2.1 dX4_isJoined_28 (by decide) (fun c28 => ?_) (fun c28 => ?_)
      · skip
        refine lv_iconst (v := nI 0) C.1 C.2.1 dX4_isJoined_35 (by decide) ?_
        have hv : r_X4_isJoined M N j = nI 0 := (if_neg c6).trans ((if_neg c15).trans ((if_pos c28).trans (rfl)))
        rw [hv]
        exact endz C hr hlk (Or.inl rfl) hR hS dX4_isJoined_36
      · skip
        refine lv_iconst (v := nI 1) C.1 C.2.1 dX4_isJoined_31 (by decide) ?_
        refine lv_goto (tgt := 36) C.1 C.2.1 dX4_isJoined_32 (by decide) ?_
        have hv : r_X4_isJoined M N j = nI 1 := (if_neg c6).trans ((if_neg c15).trans ((if_neg c28).trans (rfl)))
        rw [hv]
        exact endz C hr hlk (Or.inr rfl) hR hS dX4_isJoined_36

def mjn (N : Nat) (M : SX) (j : Nat) : Bool := !(M 1 j == 0) && (!(M 2 j == 0) && !(M 1 (nx N j) == 0))
theorem mn_isJoined (l : Launch) (g : GX) (d N : Nat) (M : SX) (G : FX) (hN : N ≤ 6) (j : Nat) (hj : j < N) : MR l yX4_isJoined (.code yX4_isJoined cX4_isJoined 2 (some .boolean) :: tb) (rmk 1 21) g (RepM g d N M G) (RepM g d N M G) (AM d) [.ref d, .int (nI j)] (some (.int (bI (mjn N M j)))) := by
  have h : r_X4_isJoined M N j = bI (mjn N M j) := by
    unfold r_X4_isJoined mjn bI
    by_cases h1 : M 1 j = 0 <;> by_cases h2 : M 2 j = 0 <;> by_cases h3 : M 1 (nx N j) = 0 <;> simp [h1, h2, h3]
  rw [← h]
  exact k_X4_isJoined l g d N M G hN j hj
def mrowN (N : Nat) (M : SX) : Nat → Nat → Nat → Nat
  | 0, L, _ => L
  | n + 1, L, x => if L < N ∧ mjn N M x = true then mrowN N M n (L + 1) (nx N x) else L
theorem mrowN_stop {N : Nat} {M : SX} {k L x : Nat} (h : ¬ (L < N ∧ mjn N M x = true)) : mrowN N M k L x = L := by
  cases k with
  | zero => rfl
  | succ k => exact if_neg h
theorem mrowN_le {N : Nat} {M : SX} : ∀ (n L x : Nat), L ≤ N → mrowN N M n L x ≤ N ∧ L ≤ mrowN N M n L x := by
  intro n
  induction n with
  | zero => intro L x h; exact ⟨h, Nat.le_refl _⟩
  | succ n ih =>
    intro L x h
    simp only [mrowN]
    split
    · next hc => have := ih (L + 1) (nx N x) (by omega); omega
    · omega
def mfr (N : Nat) (M : SX) (f : Nat) : Nat → SX
  | 0 => M
  | i + 1 => up2 (mfr N M f i) 35 i (nI (wr N (f + i)))
theorem mfr_o {N : Nat} {M : SX} {f i g k : Nat} (h : g ≠ 35) : mfr N M f i g k = M g k := by
  induction i with
  | zero => rfl
  | succ i ih => simp only [mfr]; rw [up2_f h, ih]
theorem mfr_35 {N : Nat} {M : SX} {f i k : Nat} (h : k < i) : mfr N M f i 35 k = nI (wr N (f + k)) := by
  induction i with
  | zero => omega
  | succ i ih =>
    simp only [mfr]
    by_cases e : k = i
    · subst e; rw [up2_eq]
    · rw [up2_i e, ih (by omega)]
theorem mjn_c {N : Nat} {M M2 : SX} {j : Nat} (h1 : ∀ k, M2 1 k = M 1 k) (h2 : ∀ k, M2 2 k = M 2 k) : mjn N M2 j = mjn N M j := by
  unfold mjn
  rw [h1, h1, h2]
set_option maxHeartbeats 4000000 in
set_option maxRecDepth 100000 in
theorem k_X4_follow (l : Launch) (g : GX) (d N : Nat) (M : SX) (G : FX) (hN : N ≤ 6) (f : Nat) (hf : f < N) : MR l yX4_follow (.code yX4_follow cX4_follow 3 (some .int) :: tb) (rmk 2 42) g (RepM g d N M G) (RepM g d N (mfr N M f (mrowN N M 6 1 f)) G) (AM d) [.ref d, .int (nI f)] (some (.int (nI (mrowN N M 6 1 f)))) := by
  refine MR.start RX4 (by decide) rfl (Nat.le_of_ble_eq_true rfl) (fun zp ze zs zm zb zt zc ls C hr hlk hR hS hl => ?_)
  have hl : lv_has ls 3 [(0, .ref d), (1, .int (nI f))] := hl
  refine lv_iconst (v := nI 1) C.1 C.2.1 dX4_follow_0 (by decide) ?_
  refine lv_istore_n (lv' := [(2, .int (nI 1)), (0, .ref d), (1, .int (nI f))]) C.1 C.2.1 dX4_follow_1 rfl hl (by decide) rfl (fun ls hl => ?_)
  refine lv_aload_n C.1 C.2.1 dX4_follow_2 rfl (lv_at hl 1 rfl) ?_
  refine m_get C hR 35 (by decide) rfl fl_X4_108 (v := .ref (mA d 35)) rfl dX4_follow_3 ?_
  refine lv_iconst (v := nI 0) C.1 C.2.1 dX4_follow_6 (by decide) ?_
  refine lv_iload_n C.1 C.2.1 dX4_follow_7 rfl (lv_at hl 2 rfl) ?_
  refine mI_st (k := 35) (j := 0) C hR hS (by simp only [mAr]; decide) rfl (show 0 < 6 by omega) dX4_follow_8 (fun zM1 H locs ezM1 hR hS => ?_)
  have h0 : mfr N M f 1 = zM1 := by rw [ezM1]; show up2 M 35 0 (nI (wr N (f + 0))) = _; rw [show wr N (f + 0) = f from if_pos (by omega)]
  rw [← h0] at hR
  have lp : ∀ (zn : Nat) (k : Nat) (L : Nat) (H : Heap) (locs : List Loc) (ls : Array Slot), k < zn → (N ≤ L + k) → (1 ≤ L) → (L ≤ N) → (mrowN N M 6 1 f = mrowN N M k L (wr N (f + (L - 1)))) → RepM g d N (mfr N M f L) G H → va_S (AM d) zs.heap H locs → lv_has ls 3 [(2, .int (nI L)), (0, .ref d), (1, .int (nI f))] → W zp l ze (rmk 2 42) zs zm ([.ref d, .int (nI f)] : List Value).toArray zb zt zc H locs 0 0 (MQ zb (QR (RepM g d N (mfr N M f (mrowN N M 6 1 f)) G) (AM d) (some (.int (nI (mrowN N M 6 1 f))))) ([.ref d, .int (nI f)] : List Value).toArray zs 0 0 (AM d)) (F0 zm 9 ls []) := by
    intro zn
    induction zn with
    | zero => intro k L H locs ls hm; exact absurd hm (Nat.not_lt_zero _)
    | succ zn ih =>
      intro k L H locs ls hm hk hL hLN hr2 hR hS hl
      obtain ⟨zM2, ezM2⟩ : ∃ y, y = mfr N M f L := ⟨_, rfl⟩
      rw [← ezM2] at hR
      have hx2 := wr_lt (N := N) (i := f + (L - 1)) (by omega)
      have g35 : zM2 35 (L - 1) = nI (wr N (f + (L - 1))) := by rw [ezM2, mfr_35 (by omega)]
      have hjc : mjn N zM2 (wr N (f + (L - 1))) = mjn N M (wr N (f + (L - 1))) := mjn_c (fun k => by rw [ezM2, mfr_o (by decide)]) (fun k => by rw [ezM2, mfr_o (by decide)])
      refine lv_iload_n C.1 C.2.1 dX4_follow_9 rfl (lv_at hl 0 rfl) ?_
      refine lv_aload_n C.1 C.2.1 dX4_follow_10 rfl (lv_at hl 1 rfl) ?_
      refine m_get C hR 0 (by decide) rfl fl_X4_111 (v := .int (nI N)) rfl dX4_follow_11 ?_
      refine lv_icmp_ge (tgt := 57) C.1 C.2.1 dX4_follow_14 (by decide) (fun c14 => ?_) (fun c14 => ?_)
      · skip
        have c14 : N ≤ L := (nI_leI (a := N) (b := L) (by omega) (by omega)).mp c14
        refine lv_iload_n C.1 C.2.1 dX4_follow_57 rfl (lv_at hl 0 rfl) ?_
        have hv : mrowN N M 6 1 f = L := hr2.trans (mrowN_stop (fun h => by omega))
        rw [hv]
        rw [ezM2] at hR
        exact endi C hr hlk hR hS dX4_follow_58
      · skip
        have c14 : ¬ (N ≤ L) := mt (nI_leI (a := N) (b := L) (by omega) (by omega)).mpr c14
        refine lv_aload_n C.1 C.2.1 dX4_follow_17 rfl (lv_at hl 1 rfl) ?_
        refine lv_aload_n C.1 C.2.1 dX4_follow_18 rfl (lv_at hl 1 rfl) ?_
        refine m_get C hR 35 (by decide) rfl fl_X4_108 (v := .ref (mA d 35)) rfl dX4_follow_19 ?_
        refine lv_iload_n C.1 C.2.1 dX4_follow_22 rfl (lv_at hl 0 rfl) ?_
        refine lv_iconst (v := nI 1) C.1 C.2.1 dX4_follow_23 (by decide) ?_
        refine n_isub C (by omega) dX4_follow_24 ?_
        refine mI_ld (k := 35) (j := L - 1) C hR (by simp only [mAr]; decide) rfl (show L - 1 < 6 by omega) dX4_follow_25 ?_
        refine lv_re (y := nI (wr N (f + (L - 1)))) (by rw [g35]) ?_
        refine cxV (b := d) (As := [.int (nI (wr N (f + (L - 1))))]) (rest := []) (ci := 4) (q := (RX4, TX4, 36)) C (mn_isJoined l g d N zM2 G hN (wr N (f + (L - 1))) (by omega)) cf_X4_isJoined ml_X4_122 ⟨by decide, by decide⟩ ⟨rfl, rfl⟩ rfl (hR.1) rfl hl.1 rfl (Nat.le_of_ble_eq_true rfl) dX4_follow_26 hR ⟨Nat.zero_le _, Nat.zero_le _⟩ hS (fun _ h => h) (fun H locs hR hS _ _ => ?_)
        simp only [Option.toList, List.cons_append, List.nil_append]
        refine lv_if_eq (tgt := 57) C.1 C.2.1 dX4_follow_29 (by decide) (fun c29 => ?_) (fun c29 => ?_)
        · skip
          refine lv_iload_n C.1 C.2.1 dX4_follow_57 rfl (lv_at hl 0 rfl) ?_
          rw [hjc] at c29
          have hv : mrowN N M 6 1 f = L := hr2.trans (mrowN_stop (fun h => by rw [bI_0.mp c29] at h; exact absurd h.2 (by decide)))
          rw [hv]
          rw [ezM2] at hR
          exact endi C hr hlk hR hS dX4_follow_58
        · skip
          refine lv_aload_n C.1 C.2.1 dX4_follow_32 rfl (lv_at hl 1 rfl) ?_
          refine m_get C hR 35 (by decide) rfl fl_X4_108 (v := .ref (mA d 35)) rfl dX4_follow_33 ?_
          refine lv_iload_n C.1 C.2.1 dX4_follow_36 rfl (lv_at hl 0 rfl) ?_
          refine lv_aload_n C.1 C.2.1 dX4_follow_37 rfl (lv_at hl 1 rfl) ?_
          refine lv_aload_n C.1 C.2.1 dX4_follow_38 rfl (lv_at hl 1 rfl) ?_
          refine m_get C hR 35 (by decide) rfl fl_X4_108 (v := .ref (mA d 35)) rfl dX4_follow_39 ?_
          refine lv_iload_n C.1 C.2.1 dX4_follow_42 rfl (lv_at hl 0 rfl) ?_
          refine lv_iconst (v := nI 1) C.1 C.2.1 dX4_follow_43 (by decide) ?_
          refine n_isub C (by omega) dX4_follow_44 ?_
          refine mI_ld (k := 35) (j := L - 1) C hR (by simp only [mAr]; decide) rfl (show L - 1 < 6 by omega) dX4_follow_45 ?_
          refine lv_re (y := nI (wr N (f + (L - 1)))) (by rw [g35]) ?_
          refine cxV (b := d) (As := [.int (nI (wr N (f + (L - 1))))]) (rest := [.int (nI L), .ref (mA d 35)]) (ci := 4) (q := (RX4, TX4, 36)) C (mn_next l g d N zM2 G hN (wr N (f + (L - 1))) (by omega)) cf_X4_next ml_X4_118 ⟨by decide, by decide⟩ ⟨rfl, rfl⟩ rfl (hR.1) rfl hl.1 rfl (Nat.le_of_ble_eq_true rfl) dX4_follow_46 hR ⟨Nat.zero_le _, Nat.zero_le _⟩ hS (fun _ h => h) (fun H locs hR hS _ _ => ?_)
          simp only [Option.toList, List.cons_append, List.nil_append]
          have hw58 := nx_lt (N := N) (j := wr N (f + (L - 1))) (by omega)
          refine mI_st (k := 35) (j := L) C hR hS (by simp only [mAr]; decide) rfl (show L < 6 by omega) dX4_follow_49 (fun zM3 H locs ezM3 hR hS => ?_)
          refine lv_iload_n C.1 C.2.1 dX4_follow_50 rfl (lv_at hl 0 rfl) ?_
          refine lv_iconst (v := nI 1) C.1 C.2.1 dX4_follow_51 (by decide) ?_
          refine n_iadd (z := L + 1) C dX4_follow_52 (by omega) ?_
          refine lv_istore_n (lv' := [(2, .int (nI (L + 1))), (0, .ref d), (1, .int (nI f))]) C.1 C.2.1 dX4_follow_53 rfl hl (by decide) rfl (fun ls hl => ?_)
          refine lv_goto (tgt := 9) C.1 C.2.1 dX4_follow_54 (by decide) ?_
          rw [hjc] at c29
          obtain ⟨k, rfl⟩ : ∃ k2, k = k2 + 1 := ⟨k - 1, by omega⟩
          have hnx : nx N (wr N (f + (L - 1))) = wr N (f + L) := by rw [nx_wr (by omega), show f + (L - 1) + 1 = f + L by omega]
          have hb : mrowN N M (k + 1) L (wr N (f + (L - 1))) = mrowN N M k (L + 1) (wr N (f + L)) := (if_pos ⟨by omega, bI_n0.mp c29⟩).trans (by rw [hnx])
          have hb2 : mfr N M f (L + 1) = zM3 := by rw [ezM3, ezM2, hnx]; rfl
          rw [← hb2] at hR
          exact ih k (L + 1) H locs ls (by omega) (by omega) (by omega) (by omega) (hr2.trans hb) hR hS (lv_sub hl [0, 1, 2] rfl)
  exact lp _ 6 1 _ _ ls (Nat.lt_succ_self _) (by omega) (by omega) (by omega) (by rw [show wr N (f + (1 - 1)) = f from if_pos (by omega)]) hR hS (lv_sub hl [0, 1, 2] rfl)

def alr (M : SX) (f : Nat) : Nat → Bool
  | 0 => true
  | k + 1 => alr M f k && (M 26 (6 * f + k) == M 35 k)
theorem alr_f {M : SX} {f i n : Nat} (h : i < n) (hj : ¬ M 26 (6 * f + i) = M 35 i) : alr M f n = false := by
  induction n with
  | zero => omega
  | succ n ih =>
    simp only [alr]
    by_cases hi : i = n
    · subst hi; simp [hj]
    · rw [ih (by omega)]; rfl
def asB (M : SX) (f n : Nat) (cl : Int32) : Bool := (M 25 f == nI n) && ((M 27 f == cl) && alr M f n)
set_option maxHeartbeats 4000000 in
set_option maxRecDepth 100000 in
theorem k_X4_isAsBefore (l : Launch) (g : GX) (d N : Nat) (M : SX) (G : FX) (hN : N ≤ 6) (f n : Nat) (hf : f < N) (hn : n ≤ N) (cl : Int32) : MR l yX4_isAsBefore (.code yX4_isAsBefore cX4_isAsBefore 6 (some .boolean) :: tb) (rmk 0 0) g (RepM g d N M G) (RepM g d N M G) (AM d) [.ref d, .int (nI f), .int (nI n), .int cl] (some (.int (bI (asB M f n cl)))) := by
  refine MR.start RX4 (by decide) rfl (Nat.le_of_ble_eq_true rfl) (fun zp ze zs zm zb zt zc ls C hr hlk hR hS hl => ?_)
  have hl : lv_has ls 6 [(0, .ref d), (1, .int (nI f)), (2, .int (nI n)), (3, .int cl)] := hl
  refine lv_aload_n C.1 C.2.1 dX4_isAsBefore_0 rfl (lv_at hl 0 rfl) ?_
  refine m_get C hR 25 (by decide) rfl fl_X4_78 (v := .ref (mA d 25)) rfl dX4_isAsBefore_1 ?_
  refine lv_iload_n C.1 C.2.1 dX4_isAsBefore_4 rfl (lv_at hl 1 rfl) ?_
  refine mI_ld (k := 25) (j := f) C hR (by simp only [mAr]; decide) rfl (show f < 6 by omega) dX4_isAsBefore_5 ?_
  refine lv_iload_n C.1 C.2.1 dX4_isAsBefore_6 rfl (lv_at hl 2 rfl) ?_
  refine lv_icmp_ne (tgt := 24) C.1 C.2.1 dX4_isAsBefore_7 (by decide) (fun c7 => ?_) (fun c7 => ?_)
  · skip
    refine lv_iconst (v := nI 0) C.1 C.2.1 dX4_isAsBefore_24 (by decide) ?_
    refine lv_istore (lv' := [(4, .int (nI 0)), (0, .ref d), (1, .int (nI f)), (2, .int (nI n)), (3, .int cl)]) C.1 C.2.1 dX4_isAsBefore_25 hl (by decide) rfl (fun ls hl => ?_)
    refine lv_iconst (v := nI 0) C.1 C.2.1 dX4_isAsBefore_27 (by decide) ?_
    refine lv_istore (lv' := [(5, .int (nI 0)), (4, .int (nI 0)), (0, .ref d), (1, .int (nI f)), (2, .int (nI n)), (3, .int cl)]) C.1 C.2.1 dX4_isAsBefore_28 hl (by decide) rfl (fun ls hl => ?_)
    refine lv_iload C.1 C.2.1 dX4_isAsBefore_30 (lv_at hl 0 rfl) ?_
    refine lv_iload_n C.1 C.2.1 dX4_isAsBefore_32 rfl (lv_at hl 4 rfl) ?_
    refine lv_icmp_ge (tgt := 76) C.1 C.2.1 dX4_isAsBefore_33 (by decide) (fun c33 => ?_) (fun c33 => ?_)
    · skip
      have c33 : n ≤ 0 := (nI_leI (a := n) (b := 0) (by omega) (by omega)).mp c33
      refine lv_iload C.1 C.2.1 dX4_isAsBefore_76 (lv_at hl 1 rfl) ?_
      have hv : asB M f n cl = false := by unfold asB; rw [beq_eq_false_iff_ne.mpr (show M 25 f ≠ nI n from c7)]; rfl
      rw [hv]; show W _ _ _ _ _ _ _ _ _ _ _ _ _ _ (MQ _ (QR _ _ (some (.int (nI 0)))) _ _ _ _ _) _
      exact endz C hr hlk (Or.inl rfl) hR hS dX4_isAsBefore_78
    · skip
      have c33 : ¬ (n ≤ 0) := mt (nI_leI (a := n) (b := 0) (by omega) (by omega)).mpr c33
      refine lv_iload C.1 C.2.1 dX4_isAsBefore_36 (lv_at hl 1 rfl) ?_
      refine lv_if_eq (tgt := 76) C.1 C.2.1 dX4_isAsBefore_38 (by decide) (fun c38 => ?_) (fun c38 => ?_)
      · skip
        refine lv_iload C.1 C.2.1 dX4_isAsBefore_76 (lv_at hl 1 rfl) ?_
        have hv : asB M f n cl = false := by unfold asB; rw [beq_eq_false_iff_ne.mpr (show M 25 f ≠ nI n from c7)]; rfl
        rw [hv]; show W _ _ _ _ _ _ _ _ _ _ _ _ _ _ (MQ _ (QR _ _ (some (.int (nI 0)))) _ _ _ _ _) _
        exact endz C hr hlk (Or.inl rfl) hR hS dX4_isAsBefore_78
      · skip
        exact absurd c38 (by decide)
  · skip
    refine lv_aload_n C.1 C.2.1 dX4_isAsBefore_10 rfl (lv_at hl 0 rfl) ?_
    refine m_get C hR 27 (by decide) rfl fl_X4_84 (v := .ref (mA d 27)) rfl dX4_isAsBefore_11 ?_
    refine lv_iload_n C.1 C.2.1 dX4_isAsBefore_14 rfl (lv_at hl 1 rfl) ?_
    refine mZ_ld (k := 27) (j := f) C hR (by simp only [mAr]; decide) rfl (show f < 6 by omega) dX4_isAsBefore_15 ?_
    refine lv_iload_n C.1 C.2.1 dX4_isAsBefore_16 rfl (lv_at hl 3 rfl) ?_
    refine lv_icmp_ne (tgt := 24) C.1 C.2.1 dX4_isAsBefore_17 (by decide) (fun c17 => ?_) (fun c17 => ?_)
    · skip
      refine lv_iconst (v := nI 0) C.1 C.2.1 dX4_isAsBefore_24 (by decide) ?_
      refine lv_istore (lv' := [(4, .int (nI 0)), (0, .ref d), (1, .int (nI f)), (2, .int (nI n)), (3, .int cl)]) C.1 C.2.1 dX4_isAsBefore_25 hl (by decide) rfl (fun ls hl => ?_)
      refine lv_iconst (v := nI 0) C.1 C.2.1 dX4_isAsBefore_27 (by decide) ?_
      refine lv_istore (lv' := [(5, .int (nI 0)), (4, .int (nI 0)), (0, .ref d), (1, .int (nI f)), (2, .int (nI n)), (3, .int cl)]) C.1 C.2.1 dX4_isAsBefore_28 hl (by decide) rfl (fun ls hl => ?_)
      refine lv_iload C.1 C.2.1 dX4_isAsBefore_30 (lv_at hl 0 rfl) ?_
      refine lv_iload_n C.1 C.2.1 dX4_isAsBefore_32 rfl (lv_at hl 4 rfl) ?_
      refine lv_icmp_ge (tgt := 76) C.1 C.2.1 dX4_isAsBefore_33 (by decide) (fun c33 => ?_) (fun c33 => ?_)
      · skip
        have c33 : n ≤ 0 := (nI_leI (a := n) (b := 0) (by omega) (by omega)).mp c33
        refine lv_iload C.1 C.2.1 dX4_isAsBefore_76 (lv_at hl 1 rfl) ?_
        have hv : asB M f n cl = false := by unfold asB; rw [beq_eq_false_iff_ne.mpr (show M 27 f ≠ cl from c17), Bool.false_and, Bool.and_false]
        rw [hv]; show W _ _ _ _ _ _ _ _ _ _ _ _ _ _ (MQ _ (QR _ _ (some (.int (nI 0)))) _ _ _ _ _) _
        exact endz C hr hlk (Or.inl rfl) hR hS dX4_isAsBefore_78
      · skip
        have c33 : ¬ (n ≤ 0) := mt (nI_leI (a := n) (b := 0) (by omega) (by omega)).mpr c33
        refine lv_iload C.1 C.2.1 dX4_isAsBefore_36 (lv_at hl 1 rfl) ?_
        refine lv_if_eq (tgt := 76) C.1 C.2.1 dX4_isAsBefore_38 (by decide) (fun c38 => ?_) (fun c38 => ?_)
        · skip
          refine lv_iload C.1 C.2.1 dX4_isAsBefore_76 (lv_at hl 1 rfl) ?_
          have hv : asB M f n cl = false := by unfold asB; rw [beq_eq_false_iff_ne.mpr (show M 27 f ≠ cl from c17), Bool.false_and, Bool.and_false]
          rw [hv]; show W _ _ _ _ _ _ _ _ _ _ _ _ _ _ (MQ _ (QR _ _ (some (.int (nI 0)))) _ _ _ _ _) _
          exact endz C hr hlk (Or.inl rfl) hR hS dX4_isAsBefore_78
        · skip
          exact absurd c38 (by decide)
    · skip
      refine lv_iconst (v := nI 1) C.1 C.2.1 dX4_isAsBefore_20 (by decide) ?_
      refine lv_goto (tgt := 25) C.1 C.2.1 dX4_isAsBefore_21 (by decide) ?_
      refine lv_istore (lv' := [(4, .int (nI 1)), (0, .ref d), (1, .int (nI f)), (2, .int (nI n)), (3, .int cl)]) C.1 C.2.1 dX4_isAsBefore_25 hl (by decide) rfl (fun ls hl => ?_)
      refine lv_iconst (v := nI 0) C.1 C.2.1 dX4_isAsBefore_27 (by decide) ?_
      refine lv_istore (lv' := [(5, .int (nI 0)), (4, .int (nI 1)), (0, .ref d), (1, .int (nI f)), (2, .int (nI n)), (3, .int cl)]) C.1 C.2.1 dX4_isAsBefore_28 hl (by decide) rfl (fun ls hl => ?_)
      have lp : ∀ (zn : Nat) (i : Nat) (H : Heap) (locs : List Loc) (ls : Array Slot), n - i < zn → (i ≤ n) → (alr M f i = true) → RepM g d N M G H → va_S (AM d) zs.heap H locs → lv_has ls 6 [(5, .int (nI i)), (4, .int (nI 1)), (0, .ref d), (1, .int (nI f)), (2, .int (nI n)), (3, .int cl)] → W zp l ze (rmk 0 0) zs zm ([.ref d, .int (nI f), .int (nI n), .int cl] : List Value).toArray zb zt zc H locs 0 0 (MQ zb (QR (RepM g d N M G) (AM d) (some (.int (bI (asB M f n cl))))) ([.ref d, .int (nI f), .int (nI n), .int cl] : List Value).toArray zs 0 0 (AM d)) (F0 zm 30 ls []) := by
        intro zn
        induction zn with
        | zero => intro i H locs ls hm; exact absurd hm (Nat.not_lt_zero _)
        | succ zn ih =>
          intro i H locs ls hm hi ha hR hS hl
          refine lv_iload C.1 C.2.1 dX4_isAsBefore_30 (lv_at hl 0 rfl) ?_
          refine lv_iload_n C.1 C.2.1 dX4_isAsBefore_32 rfl (lv_at hl 4 rfl) ?_
          refine lv_icmp_ge (tgt := 76) C.1 C.2.1 dX4_isAsBefore_33 (by decide) (fun c33 => ?_) (fun c33 => ?_)
          · skip
            have c33 : n ≤ i := (nI_leI (a := n) (b := i) (by omega) (by omega)).mp c33
            refine lv_iload C.1 C.2.1 dX4_isAsBefore_76 (lv_at hl 1 rfl) ?_
            have hv : asB M f n cl = true := by unfold asB; rw [beq_iff_eq.mpr c7, beq_iff_eq.mpr c17, show n = i by omega, ha]; rfl
            rw [hv]; show W _ _ _ _ _ _ _ _ _ _ _ _ _ _ (MQ _ (QR _ _ (some (.int (nI 1)))) _ _ _ _ _) _
            exact endz C hr hlk (Or.inr rfl) hR hS dX4_isAsBefore_78
          · skip
            have c33 : ¬ (n ≤ i) := mt (nI_leI (a := n) (b := i) (by omega) (by omega)).mpr c33
            refine lv_iload C.1 C.2.1 dX4_isAsBefore_36 (lv_at hl 1 rfl) ?_
            refine lv_if_eq (tgt := 76) C.1 C.2.1 dX4_isAsBefore_38 (by decide) (fun c38 => ?_) (fun c38 => ?_)
            · skip
              exact absurd c38 (by decide)
            · skip
              refine lv_aload_n C.1 C.2.1 dX4_isAsBefore_41 rfl (lv_at hl 2 rfl) ?_
              refine m_get C hR 26 (by decide) rfl fl_X4_81 (v := .ref (mA d 26)) rfl dX4_isAsBefore_42 ?_
              refine lv_bipush (v := nI 6) C.1 C.2.1 dX4_isAsBefore_45 (by decide) ?_
              refine lv_iload_n C.1 C.2.1 dX4_isAsBefore_47 rfl (lv_at hl 3 rfl) ?_
              refine n_imul (z := 6 * f) C dX4_isAsBefore_48 (by omega) ?_
              refine lv_iload C.1 C.2.1 dX4_isAsBefore_49 (lv_at hl 0 rfl) ?_
              refine n_iadd (z := 6 * f + i) C dX4_isAsBefore_51 (by omega) ?_
              refine mI_ld (k := 26) (j := 6 * f + i) C hR (by simp only [mAr]; decide) rfl (show 6 * f + i < 36 by omega) dX4_isAsBefore_52 ?_
              refine lv_aload_n C.1 C.2.1 dX4_isAsBefore_53 rfl (lv_at hl 2 rfl) ?_
              refine m_get C hR 35 (by decide) rfl fl_X4_108 (v := .ref (mA d 35)) rfl dX4_isAsBefore_54 ?_
              refine lv_iload C.1 C.2.1 dX4_isAsBefore_57 (lv_at hl 0 rfl) ?_
              refine mI_ld (k := 35) (j := i) C hR (by simp only [mAr]; decide) rfl (show i < 6 by omega) dX4_isAsBefore_59 ?_
              refine lv_icmp_ne (tgt := 67) C.1 C.2.1 dX4_isAsBefore_60 (by decide) (fun c60 => ?_) (fun c60 => ?_)
              · skip
                refine lv_iconst (v := nI 0) C.1 C.2.1 dX4_isAsBefore_67 (by decide) ?_
                refine lv_istore (lv' := [(4, .int (nI 0)), (5, .int (nI i)), (0, .ref d), (1, .int (nI f)), (2, .int (nI n)), (3, .int cl)]) C.1 C.2.1 dX4_isAsBefore_68 hl (by decide) rfl (fun ls hl => ?_)
                refine lv_iinc (v := nI (i + 1)) (lv' := [(5, .int (nI (i + 1))), (4, .int (nI 0)), (0, .ref d), (1, .int (nI f)), (2, .int (nI n)), (3, .int cl)]) C.1 C.2.1 dX4_isAsBefore_70 hl (k := 1) rfl (nI_add _ _) (by decide) rfl (fun ls hl => ?_)
                refine lv_goto (tgt := 30) C.1 C.2.1 dX4_isAsBefore_73 (by decide) ?_
                refine lv_iload C.1 C.2.1 dX4_isAsBefore_30 (lv_at hl 0 rfl) ?_
                refine lv_iload_n C.1 C.2.1 dX4_isAsBefore_32 rfl (lv_at hl 4 rfl) ?_
                refine lv_icmp_ge (tgt := 76) C.1 C.2.1 dX4_isAsBefore_33 (by decide) (fun c33 => ?_) (fun c33 => ?_)
                · skip
                  have c33 : n ≤ i + 1 := (nI_leI (a := n) (b := i + 1) (by omega) (by omega)).mp c33
                  refine lv_iload C.1 C.2.1 dX4_isAsBefore_76 (lv_at hl 1 rfl) ?_
                  have hv : asB M f n cl = false := by unfold asB; rw [alr_f (show i < n by omega) c60, Bool.and_false, Bool.and_false]
                  rw [hv]; show W _ _ _ _ _ _ _ _ _ _ _ _ _ _ (MQ _ (QR _ _ (some (.int (nI 0)))) _ _ _ _ _) _
                  exact endz C hr hlk (Or.inl rfl) hR hS dX4_isAsBefore_78
                · skip
                  have c33 : ¬ (n ≤ i + 1) := mt (nI_leI (a := n) (b := i + 1) (by omega) (by omega)).mpr c33
                  refine lv_iload C.1 C.2.1 dX4_isAsBefore_36 (lv_at hl 1 rfl) ?_
                  refine lv_if_eq (tgt := 76) C.1 C.2.1 dX4_isAsBefore_38 (by decide) (fun c38 => ?_) (fun c38 => ?_)
                  · skip
                    refine lv_iload C.1 C.2.1 dX4_isAsBefore_76 (lv_at hl 1 rfl) ?_
                    have hv : asB M f n cl = false := by unfold asB; rw [alr_f (show i < n by omega) c60, Bool.and_false, Bool.and_false]
                    rw [hv]; show W _ _ _ _ _ _ _ _ _ _ _ _ _ _ (MQ _ (QR _ _ (some (.int (nI 0)))) _ _ _ _ _) _
                    exact endz C hr hlk (Or.inl rfl) hR hS dX4_isAsBefore_78
                  · skip
                    exact absurd c38 (by decide)
              · skip
                refine lv_iconst (v := nI 1) C.1 C.2.1 dX4_isAsBefore_63 (by decide) ?_
                refine lv_goto (tgt := 68) C.1 C.2.1 dX4_isAsBefore_64 (by decide) ?_
                refine lv_istore (lv' := [(4, .int (nI 1)), (5, .int (nI i)), (0, .ref d), (1, .int (nI f)), (2, .int (nI n)), (3, .int cl)]) C.1 C.2.1 dX4_isAsBefore_68 hl (by decide) rfl (fun ls hl => ?_)
                refine lv_iinc (v := nI (i + 1)) (lv' := [(5, .int (nI (i + 1))), (4, .int (nI 1)), (0, .ref d), (1, .int (nI f)), (2, .int (nI n)), (3, .int cl)]) C.1 C.2.1 dX4_isAsBefore_70 hl (k := 1) rfl (nI_add _ _) (by decide) rfl (fun ls hl => ?_)
                refine lv_goto (tgt := 30) C.1 C.2.1 dX4_isAsBefore_73 (by decide) ?_
                exact ih (i + 1) H locs ls (by omega) (by omega) (by simp only [alr, ha, Bool.true_and]; exact beq_iff_eq.mpr c60) hR hS (lv_sub hl [0, 1, 2, 3, 4, 5] rfl)
      exact lp _ 0 _ _ ls (Nat.lt_succ_self _) (by omega) rfl hR hS (lv_sub hl [0, 1, 2, 3, 4, 5] rfl)

