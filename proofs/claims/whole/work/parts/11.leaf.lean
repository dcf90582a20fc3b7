def r_X1_claims (S : SX) (j : Nat) : Int32 := if S 23 j ≤ 0 then (nI 0) else (nI 1)
set_option maxHeartbeats 4000000 in
set_option maxRecDepth 100000 in
theorem k_X1_claims (l : Launch) (g : GX) (b N : Nat) (S : SX) (Fl : FX) (hN : N ≤ 6) (j : Nat) (hj : j < N)  : MR l yX1_claims (.code yX1_claims cX1_claims 1 (some .boolean) :: tb) (rmk 0 0) g (RepX g b N S Fl) (RepX g b N S Fl) (AX b N) [.ref (aRg b j)] (some (.int (r_X1_claims S j))) := by
  refine MR.start RX1 (by decide) rfl (Nat.le_of_ble_eq_true rfl) (fun zp ze zs zm zb zt zc ls C hr hlk hR hS hl => ?_)
  have hl : lv_has ls 1 [(0, .ref (aRg b j))] := hl
  refine lv_aload_n C.1 C.2.1 dX1_claims_0 rfl (lv_at hl 0 rfl) ?_
  refine xR_get (j := j) C hR (by omega) 3 (by decide) rfl fl_X1_13 (v := .int (S 23 j)) rfl dX1_claims_1 ?_
  refine lv_if_le (tgt := 11) C.1 C.2.1 dX1_claims_4 (by decide) (fun c4 => ?_) (fun c4 => ?_)
  · skip
    refine lv_iconst (v := nI 0) C.1 C.2.1 dX1_claims_11 (by decide) ?_
    have hv : r_X1_claims S j = nI 0 := (if_pos c4).trans (rfl)
    rw [hv]
    exact endz C hr hlk (Or.inl rfl) hR hS dX1_claims_12
  · skip
    refine lv_iconst (v := nI 1) C.1 C.2.1 dX1_claims_7 (by decide) ?_
    refine lv_goto (tgt := 12) C.1 C.2.1 dX1_claims_8 (by decide) ?_
    have hv : r_X1_claims S j = nI 1 := (if_neg c4).trans (rfl)
    rw [hv]
    exact endz C hr hlk (Or.inr rfl) hR hS dX1_claims_12

def s_X2_leaveRing (S : SX) (j : Nat) : SX := up2 (up2 (up2 S 3 j (-1)) 41 (2 * j) (nI 0)) 41 (2 * j + 1) (nI 0)
set_option maxHeartbeats 4000000 in
set_option maxRecDepth 100000 in
theorem k_X2_leaveRing (l : Launch) (g : GX) (b N : Nat) (S : SX) (Fl : FX) (hN : N ≤ 6) (j : Nat) (hj : j < N)  : MR l yX2_leaveRing (.code yX2_leaveRing cX2_leaveRing 1 none :: tb) (rmk 0 0) g (RepX g b N S Fl) (RepX g b N (s_X2_leaveRing S j) Fl) (AX b N) [.ref (aSt b j)] none := by
  refine MR.start RX2 (by decide) rfl (Nat.le_of_ble_eq_true rfl) (fun zp ze zs zm zb zt zc ls C hr hlk hR hS hl => ?_)
  have hl : lv_has ls 1 [(0, .ref (aSt b j))] := hl
  refine lv_aload_n C.1 C.2.1 dX2_leaveRing_0 rfl (lv_at hl 0 rfl) ?_
  refine lv_iconst (v := (-1)) C.1 C.2.1 dX2_leaveRing_1 (by decide) ?_
  refine xS_put (j := j) C hR hS (by omega) 3 (by decide) rfl rfl fl_X2_25 rfl rfl stS_3 dX2_leaveRing_2 (fun S1 H locs eS1 hR hS => ?_)
  refine lv_aload_n C.1 C.2.1 dX2_leaveRing_5 rfl (lv_at hl 0 rfl) ?_
  refine xS_get (j := j) C hR (by omega) 0 (by decide) rfl fl_X2_12 (v := .ref (aQ b (2 * j))) rfl dX2_leaveRing_6 ?_
  refine lv_iconst (v := nI 0) C.1 C.2.1 dX2_leaveRing_9 (by decide) ?_
  refine xQ_put (q := 2 * j) C hR hS (by omega) fl_X2_38 dX2_leaveRing_10 (fun S2 H locs eS2 hR hS => ?_)
  refine lv_aload_n C.1 C.2.1 dX2_leaveRing_13 rfl (lv_at hl 0 rfl) ?_
  refine xS_get (j := j) C hR (by omega) 1 (by decide) rfl fl_X2_18 (v := .ref (aQ b (2 * j + 1))) rfl dX2_leaveRing_14 ?_
  refine lv_iconst (v := nI 0) C.1 C.2.1 dX2_leaveRing_17 (by decide) ?_
  refine xQ_put (q := 2 * j + 1) C hR hS (by omega) fl_X2_38 dX2_leaveRing_18 (fun S3 H locs eS3 hR hS => ?_)
  have hs : s_X2_leaveRing S j = S3 := (show _ = up2 (up2 (up2 S 3 j (-1)) 41 (2 * j) (nI 0)) 41 (2 * j + 1) (nI 0) from rfl).trans (by rw [eS3, eS2, eS1])
  rw [hs]
  exact endv C hr hlk hR hS dX2_leaveRing_21

def s_X2_resetTimers (S : SX) (j : Nat) : SX := up2 (up2 (up2 (up2 (up2 (up2 S 6 j (nI 0)) 7 j (nI 0)) 8 j (nI 0)) 9 j (nI 0)) 10 j (nI 0)) 11 j (nI 0)
set_option maxHeartbeats 4000000 in
set_option maxRecDepth 100000 in
theorem k_X2_resetTimers (l : Launch) (g : GX) (b N : Nat) (S : SX) (Fl : FX) (hN : N ≤ 6) (j : Nat) (hj : j < N)  : MR l yX2_resetTimers (.code yX2_resetTimers cX2_resetTimers 1 none :: tb) (rmk 0 0) g (RepX g b N S Fl) (RepX g b N (s_X2_resetTimers S j) Fl) (AX b N) [.ref (aSt b j)] none := by
  refine MR.start RX2 (by decide) rfl (Nat.le_of_ble_eq_true rfl) (fun zp ze zs zm zb zt zc ls C hr hlk hR hS hl => ?_)
  have hl : lv_has ls 1 [(0, .ref (aSt b j))] := hl
  refine lv_aload_n C.1 C.2.1 dX2_resetTimers_0 rfl (lv_at hl 0 rfl) ?_
  refine lv_iconst (v := nI 0) C.1 C.2.1 dX2_resetTimers_1 (by decide) ?_
  refine xS_put (j := j) C hR hS (by omega) 6 (by decide) rfl rfl fl_X2_41 rfl rfl stS_6 dX2_resetTimers_2 (fun S1 H locs eS1 hR hS => ?_)
  refine lv_aload_n C.1 C.2.1 dX2_resetTimers_5 rfl (lv_at hl 0 rfl) ?_
  refine lv_iconst (v := nI 0) C.1 C.2.1 dX2_resetTimers_6 (by decide) ?_
  refine xS_put (j := j) C hR hS (by omega) 7 (by decide) rfl rfl fl_X2_44 rfl rfl stS_7 dX2_resetTimers_7 (fun S2 H locs eS2 hR hS => ?_)
  refine lv_aload_n C.1 C.2.1 dX2_resetTimers_10 rfl (lv_at hl 0 rfl) ?_
  refine lv_iconst (v := nI 0) C.1 C.2.1 dX2_resetTimers_11 (by decide) ?_
  refine xS_put (j := j) C hR hS (by omega) 8 (by decide) rfl rfl fl_X2_47 rfl rfl stS_8 dX2_resetTimers_12 (fun S3 H locs eS3 hR hS => ?_)
  refine lv_aload_n C.1 C.2.1 dX2_resetTimers_15 rfl (lv_at hl 0 rfl) ?_
  refine lv_iconst (v := nI 0) C.1 C.2.1 dX2_resetTimers_16 (by decide) ?_
  refine xS_put (j := j) C hR hS (by omega) 9 (by decide) rfl rfl fl_X2_50 rfl rfl stS_9 dX2_resetTimers_17 (fun S4 H locs eS4 hR hS => ?_)
  refine lv_aload_n C.1 C.2.1 dX2_resetTimers_20 rfl (lv_at hl 0 rfl) ?_
  refine lv_iconst (v := nI 0) C.1 C.2.1 dX2_resetTimers_21 (by decide) ?_
  refine xS_put (j := j) C hR hS (by omega) 10 (by decide) rfl rfl fl_X2_53 rfl rfl stS_10 dX2_resetTimers_22 (fun S5 H locs eS5 hR hS => ?_)
  refine lv_aload_n C.1 C.2.1 dX2_resetTimers_25 rfl (lv_at hl 0 rfl) ?_
  refine lv_iconst (v := nI 0) C.1 C.2.1 dX2_resetTimers_26 (by decide) ?_
  refine xS_put (j := j) C hR hS (by omega) 11 (by decide) rfl rfl fl_X2_56 (nz_n (Or.inl rfl)) (nz_f (Or.inl rfl)) stS_11 dX2_resetTimers_27 (fun S6 H locs eS6 hR hS => ?_)
  have hs : s_X2_resetTimers S j = S6 := (show _ = up2 (up2 (up2 (up2 (up2 (up2 S 6 j (nI 0)) 7 j (nI 0)) 8 j (nI 0)) 9 j (nI 0)) 10 j (nI 0)) 11 j (nI 0) from rfl).trans (by rw [eS6, eS5, eS4, eS3, eS2, eS1])
  rw [hs]
  exact endv C hr hlk hR hS dX2_resetTimers_30

def s_X2_runTimer (S : SX) (j : Nat) (T : Int32) : SX := if S 6 j + (nI 1) = T then (up2 (up2 (up2 (up2 S 10 j (S 10 j + (nI 1))) 6 j (S 6 j + (nI 1))) 6 j (nI 0)) 7 j (S 7 j + (nI 1))) else (up2 (up2 S 10 j (S 10 j + (nI 1))) 6 j (S 6 j + (nI 1)))
set_option maxHeartbeats 4000000 in
set_option maxRecDepth 100000 in
theorem k_X2_runTimer (l : Launch) (g : GX) (b N : Nat) (S : SX) (Fl : FX) (hN : N ≤ 6) (j : Nat) (hj : j < N) (T : Int32)  : MR l yX2_runTimer (.code yX2_runTimer cX2_runTimer 2 none :: tb) (rmk 0 0) g (RepX g b N S Fl) (RepX g b N (s_X2_runTimer S j T) Fl) (AX b N) [.ref (aSt b j), .int T] none := by
  refine MR.start RX2 (by decide) rfl (Nat.le_of_ble_eq_true rfl) (fun zp ze zs zm zb zt zc ls C hr hlk hR hS hl => ?_)
  have hl : lv_has ls 2 [(0, .ref (aSt b j)), (1, .int T)] := hl
  refine lv_aload_n C.1 C.2.1 dX2_runTimer_0 rfl (lv_at hl 0 rfl) ?_
  refine lv_dup C.1 C.2.1 dX2_runTimer_1 rfl ?_
  refine xS_get (j := j) C hR (by omega) 10 (by decide) rfl fl_X2_53 (v := .int (S 10 j)) rfl dX2_runTimer_2 ?_
  refine lv_iconst (v := nI 1) C.1 C.2.1 dX2_runTimer_5 (by decide) ?_
  refine lv_iadd C.1 C.2.1 dX2_runTimer_6 ?_
  refine xS_put (j := j) C hR hS (by omega) 10 (by decide) rfl rfl fl_X2_53 rfl rfl stS_10 dX2_runTimer_7 (fun S1 H locs eS1 hR hS => ?_)
  refine lv_aload_n C.1 C.2.1 dX2_runTimer_10 rfl (lv_at hl 0 rfl) ?_
  refine lv_dup C.1 C.2.1 dX2_runTimer_11 rfl ?_
  refine xS_get (j := j) C hR (by omega) 6 (by decide) rfl fl_X2_41 (v := .int (S1 6 j)) rfl dX2_runTimer_12 ?_
  refine lv_re (y := S 6 j) (by rw [eS1, up2_f (by decide)]) ?_
  refine lv_iconst (v := nI 1) C.1 C.2.1 dX2_runTimer_15 (by decide) ?_
  refine lv_iadd C.1 C.2.1 dX2_runTimer_16 ?_
  refine xS_put (j := j) C hR hS (by omega) 6 (by decide) rfl rfl fl_X2_41 rfl rfl stS_6 dX2_runTimer_17 (fun S2 H locs eS2 hR hS => ?_)
  refine lv_aload_n C.1 C.2.1 dX2_runTimer_20 rfl (lv_at hl 0 rfl) ?_
  refine xS_get (j := j) C hR (by omega) 6 (by decide) rfl fl_X2_41 (v := .int (S2 6 j)) rfl dX2_runTimer_21 ?_
  refine lv_re (y := S 6 j + (nI 1)) (by rw [eS2, up2_eq]) ?_
  refine lv_iload_n C.1 C.2.1 dX2_runTimer_24 rfl (lv_at hl 1 rfl) ?_
  refine lv_icmp_ne (tgt := 43) C.1 C.2.1 dX2_runTimer_25 (by decide) (fun c25 => ?_) (fun c25 => ?_)
  · skip
    have hs : s_X2_runTimer S j T = S2 := (if_neg c25).trans (by rw [eS2, eS1])
    rw [hs]
    exact endv C hr hlk hR hS dX2_runTimer_43
  · skip
    refine lv_aload_n C.1 C.2.1 dX2_runTimer_28 rfl (lv_at hl 0 rfl) ?_
    refine lv_iconst (v := nI 0) C.1 C.2.1 dX2_runTimer_29 (by decide) ?_
    refine xS_put (j := j) C hR hS (by omega) 6 (by decide) rfl rfl fl_X2_41 rfl rfl stS_6 dX2_runTimer_30 (fun S3 H locs eS3 hR hS => ?_)
    refine lv_aload_n C.1 C.2.1 dX2_runTimer_33 rfl (lv_at hl 0 rfl) ?_
    refine lv_dup C.1 C.2.1 dX2_runTimer_34 rfl ?_
    refine xS_get (j := j) C hR (by omega) 7 (by decide) rfl fl_X2_44 (v := .int (S3 7 j)) rfl dX2_runTimer_35 ?_
    refine lv_re (y := S 7 j) (by rw [eS3, up2_f (by decide), eS2, up2_f (by decide), eS1, up2_f (by decide)]) ?_
    refine lv_iconst (v := nI 1) C.1 C.2.1 dX2_runTimer_38 (by decide) ?_
    refine lv_iadd C.1 C.2.1 dX2_runTimer_39 ?_
    refine xS_put (j := j) C hR hS (by omega) 7 (by decide) rfl rfl fl_X2_44 rfl rfl stS_7 dX2_runTimer_40 (fun S4 H locs eS4 hR hS => ?_)
    have hs : s_X2_runTimer S j T = S4 := (if_pos c25).trans (by rw [eS4, eS3, eS2, eS1])
    rw [hs]
    exact endv C hr hlk hR hS dX2_runTimer_43

def s_X2_receive (S : SX) (j : Nat) (n sd : Int32) : SX := up2 (up2 (up2 S 14 j (S 14 j + (nI 1))) 15 j (S 15 j + n)) 16 j sd
set_option maxHeartbeats 4000000 in
set_option maxRecDepth 100000 in
theorem k_X2_receive (l : Launch) (g : GX) (b N : Nat) (S : SX) (Fl : FX) (hN : N ≤ 6) (j : Nat) (hj : j < N) (n sd : Int32)  : MR l yX2_receive (.code yX2_receive cX2_receive 3 none :: tb) (rmk 0 0) g (RepX g b N S Fl) (RepX g b N (s_X2_receive S j n sd) Fl) (AX b N) [.ref (aSt b j), .int n, .int sd] none := by
  refine MR.start RX2 (by decide) rfl (Nat.le_of_ble_eq_true rfl) (fun zp ze zs zm zb zt zc ls C hr hlk hR hS hl => ?_)
  have hl : lv_has ls 3 [(0, .ref (aSt b j)), (1, .int n), (2, .int sd)] := hl
  refine lv_aload_n C.1 C.2.1 dX2_receive_0 rfl (lv_at hl 0 rfl) ?_
  refine lv_dup C.1 C.2.1 dX2_receive_1 rfl ?_
  refine xS_get (j := j) C hR (by omega) 14 (by decide) rfl fl_X2_74 (v := .int (S 14 j)) rfl dX2_receive_2 ?_
  refine lv_iconst (v := nI 1) C.1 C.2.1 dX2_receive_5 (by decide) ?_
  refine lv_iadd C.1 C.2.1 dX2_receive_6 ?_
  refine xS_put (j := j) C hR hS (by omega) 14 (by decide) rfl rfl fl_X2_74 rfl rfl stS_14 dX2_receive_7 (fun S1 H locs eS1 hR hS => ?_)
  refine lv_aload_n C.1 C.2.1 dX2_receive_10 rfl (lv_at hl 0 rfl) ?_
  refine lv_dup C.1 C.2.1 dX2_receive_11 rfl ?_
  refine xS_get (j := j) C hR (by omega) 15 (by decide) rfl fl_X2_77 (v := .int (S1 15 j)) rfl dX2_receive_12 ?_
  refine lv_re (y := S 15 j) (by rw [eS1, up2_f (by decide)]) ?_
  refine lv_iload_n C.1 C.2.1 dX2_receive_15 rfl (lv_at hl 1 rfl) ?_
  refine lv_iadd C.1 C.2.1 dX2_receive_16 ?_
  refine xS_put (j := j) C hR hS (by omega) 15 (by decide) rfl rfl fl_X2_77 rfl rfl stS_15 dX2_receive_17 (fun S2 H locs eS2 hR hS => ?_)
  refine lv_aload_n C.1 C.2.1 dX2_receive_20 rfl (lv_at hl 0 rfl) ?_
  refine lv_iload_n C.1 C.2.1 dX2_receive_21 rfl (lv_at hl 2 rfl) ?_
  refine xS_put (j := j) C hR hS (by omega) 16 (by decide) rfl rfl fl_X2_35 rfl rfl stS_16 dX2_receive_22 (fun S3 H locs eS3 hR hS => ?_)
  have hs : s_X2_receive S j n sd = S3 := (show _ = up2 (up2 (up2 S 14 j (S 14 j + (nI 1))) 15 j (S 15 j + n)) 16 j sd from rfl).trans (by rw [eS3, eS2, eS1])
  rw [hs]
  exact endv C hr hlk hR hS dX2_receive_25

def r_X2_mayBeginSynchronous (S : SX) (j : Nat) : Int32 := if S 41 (2 * j) ≤ 0 then (nI 0) else (if S 9 j < S 43 (5 * (2 * j)) then (nI 0) else (nI 1))
set_option maxHeartbeats 4000000 in
set_option maxRecDepth 100000 in
theorem k_X2_mayBeginSynchronous (l : Launch) (g : GX) (b N : Nat) (S : SX) (Fl : FX) (hN : N ≤ 6) (j : Nat) (hj : j < N)  : MR l yX2_mayBeginSynchronous (.code yX2_mayBeginSynchronous cX2_mayBeginSynchronous 1 (some .boolean) :: tb) (rmk 0 0) g (RepX g b N S Fl) (RepX g b N S Fl) (AX b N) [.ref (aSt b j)] (some (.int (r_X2_mayBeginSynchronous S j))) := by
  refine MR.start RX2 (by decide) rfl (Nat.le_of_ble_eq_true rfl) (fun zp ze zs zm zb zt zc ls C hr hlk hR hS hl => ?_)
  have hl : lv_has ls 1 [(0, .ref (aSt b j))] := hl
  refine lv_aload_n C.1 C.2.1 dX2_mayBeginSynchronous_0 rfl (lv_at hl 0 rfl) ?_
  refine xS_get (j := j) C hR (by omega) 0 (by decide) rfl fl_X2_12 (v := .ref (aQ b (2 * j))) rfl dX2_mayBeginSynchronous_1 ?_
  refine xQ_get (q := 2 * j) C hR (by omega) 3 (by decide) rfl fl_X2_38 (v := .int (S 41 (2 * j))) rfl dX2_mayBeginSynchronous_4 ?_
  refine lv_if_le (tgt := 30) C.1 C.2.1 dX2_mayBeginSynchronous_7 (by decide) (fun c7 => ?_) (fun c7 => ?_)
  · skip
    refine lv_iconst (v := nI 0) C.1 C.2.1 dX2_mayBeginSynchronous_30 (by decide) ?_
    have hv : r_X2_mayBeginSynchronous S j = nI 0 := (if_pos c7).trans (rfl)
    rw [hv]
    exact endz C hr hlk (Or.inl rfl) hR hS dX2_mayBeginSynchronous_31
  · skip
    refine lv_aload_n C.1 C.2.1 dX2_mayBeginSynchronous_10 rfl (lv_at hl 0 rfl) ?_
    refine xS_get (j := j) C hR (by omega) 0 (by decide) rfl fl_X2_12 (v := .ref (aQ b (2 * j))) rfl dX2_mayBeginSynchronous_11 ?_
    refine xQ_get (q := 2 * j) C hR (by omega) 1 (by decide) rfl fl_X2_67 (v := .ref (aQA b (2 * j) 1)) rfl dX2_mayBeginSynchronous_14 ?_
    refine lv_iconst (v := nI 0) C.1 C.2.1 dX2_mayBeginSynchronous_17 (by decide) ?_
    refine xA_ld (q := 2 * j) (i := 1) (k := 0) C hR (by omega) (by decide) (by omega) (v := S 43 (5 * (2 * j))) rfl dX2_mayBeginSynchronous_18 ?_
    refine lv_aload_n C.1 C.2.1 dX2_mayBeginSynchronous_19 rfl (lv_at hl 0 rfl) ?_
    refine xS_get (j := j) C hR (by omega) 9 (by decide) rfl fl_X2_50 (v := .int (S 9 j)) rfl dX2_mayBeginSynchronous_20 ?_
    refine lv_icmp_gt (tgt := 30) C.1 C.2.1 dX2_mayBeginSynchronous_23 (by decide) (fun c23 => ?_) (fun c23 => ?_)
    · skip
      refine lv_iconst (v := nI 0) C.1 C.2.1 dX2_mayBeginSynchronous_30 (by decide) ?_
      have hv : r_X2_mayBeginSynchronous S j = nI 0 := (if_neg c7).trans ((if_pos c23).trans (rfl))
      rw [hv]
      exact endz C hr hlk (Or.inl rfl) hR hS dX2_mayBeginSynchronous_31
    · skip
      refine lv_iconst (v := nI 1) C.1 C.2.1 dX2_mayBeginSynchronous_26 (by decide) ?_
      refine lv_goto (tgt := 31) C.1 C.2.1 dX2_mayBeginSynchronous_27 (by decide) ?_
      have hv : r_X2_mayBeginSynchronous S j = nI 1 := (if_neg c7).trans ((if_neg c23).trans (rfl))
      rw [hv]
      exact endz C hr hlk (Or.inr rfl) hR hS dX2_mayBeginSynchronous_31

def r_X2_mayBeginAsynchronous (S : SX) (j : Nat) (T : Int32) : Int32 := if S 41 (2 * j + 1) = 0 then (nI 0) else (if 0 < S 8 j then (if S 8 j < (((nI 3) - (S 44 (5 * (2 * j + 1)))) * T) / (nI 4) then (nI 0) else (nI 1)) else (nI 0))
set_option maxHeartbeats 4000000 in
set_option maxRecDepth 100000 in
theorem k_X2_mayBeginAsynchronous (l : Launch) (g : GX) (b N : Nat) (S : SX) (Fl : FX) (hN : N ≤ 6) (j : Nat) (hj : j < N) (T : Int32)  : MR l yX2_mayBeginAsynchronous (.code yX2_mayBeginAsynchronous cX2_mayBeginAsynchronous 3 (some .boolean) :: tb) (rmk 0 0) g (RepX g b N S Fl) (RepX g b N S Fl) (AX b N) [.ref (aSt b j), .int T] (some (.int (r_X2_mayBeginAsynchronous S j T))) := by
  refine MR.start RX2 (by decide) rfl (Nat.le_of_ble_eq_true rfl) (fun zp ze zs zm zb zt zc ls C hr hlk hR hS hl => ?_)
  have hl : lv_has ls 3 [(0, .ref (aSt b j)), (1, .int T)] := hl
  refine lv_aload_n C.1 C.2.1 dX2_mayBeginAsynchronous_0 rfl (lv_at hl 0 rfl) ?_
  refine xS_get (j := j) C hR (by omega) 1 (by decide) rfl fl_X2_18 (v := .ref (aQ b (2 * j + 1))) rfl dX2_mayBeginAsynchronous_1 ?_
  refine xQ_get (q := 2 * j + 1) C hR (by omega) 3 (by decide) rfl fl_X2_38 (v := .int (S 41 (2 * j + 1))) rfl dX2_mayBeginAsynchronous_4 ?_
  refine lv_if_eq (tgt := 17) C.1 C.2.1 dX2_mayBeginAsynchronous_7 (by decide) (fun c7 => ?_) (fun c7 => ?_)
  · skip
    refine lv_iconst (v := nI 0) C.1 C.2.1 dX2_mayBeginAsynchronous_17 (by decide) ?_
    have hv : r_X2_mayBeginAsynchronous S j T = nI 0 := (if_pos c7).trans (rfl)
    rw [hv]
    exact endz C hr hlk (Or.inl rfl) hR hS dX2_mayBeginAsynchronous_18
  · skip
    refine lv_aload_n C.1 C.2.1 dX2_mayBeginAsynchronous_10 rfl (lv_at hl 0 rfl) ?_
    refine xS_get (j := j) C hR (by omega) 8 (by decide) rfl fl_X2_47 (v := .int (S 8 j)) rfl dX2_mayBeginAsynchronous_11 ?_
    refine lv_if_gt (tgt := 19) C.1 C.2.1 dX2_mayBeginAsynchronous_14 (by decide) (fun c14 => ?_) (fun c14 => ?_)
    · skip
      refine lv_iconst (v := nI 3) C.1 C.2.1 dX2_mayBeginAsynchronous_19 (by decide) ?_
      refine lv_aload_n C.1 C.2.1 dX2_mayBeginAsynchronous_20 rfl (lv_at hl 0 rfl) ?_
      refine xS_get (j := j) C hR (by omega) 1 (by decide) rfl fl_X2_18 (v := .ref (aQ b (2 * j + 1))) rfl dX2_mayBeginAsynchronous_21 ?_
      refine xQ_get (q := 2 * j + 1) C hR (by omega) 2 (by decide) rfl fl_X2_71 (v := .ref (aQA b (2 * j + 1) 2)) rfl dX2_mayBeginAsynchronous_24 ?_
      refine lv_iconst (v := nI 0) C.1 C.2.1 dX2_mayBeginAsynchronous_27 (by decide) ?_
      refine xA_ld (q := 2 * j + 1) (i := 2) (k := 0) C hR (by omega) (by decide) (by omega) (v := S 44 (5 * (2 * j + 1))) rfl dX2_mayBeginAsynchronous_28 ?_
      refine lv_isub C.1 C.2.1 dX2_mayBeginAsynchronous_29 ?_
      refine lv_iload_n C.1 C.2.1 dX2_mayBeginAsynchronous_30 rfl (lv_at hl 1 rfl) ?_
      refine lv_imul C.1 C.2.1 dX2_mayBeginAsynchronous_31 ?_
      refine lv_iconst (v := nI 4) C.1 C.2.1 dX2_mayBeginAsynchronous_32 (by decide) ?_
      refine lv_idiv C.1 C.2.1 dX2_mayBeginAsynchronous_33 (by decide) ?_
      refine lv_istore_n (lv' := [(2, .int ((((nI 3) - (S 44 (5 * (2 * j + 1)))) * T) / (nI 4))), (0, .ref (aSt b j)), (1, .int T)]) C.1 C.2.1 dX2_mayBeginAsynchronous_34 rfl hl (by decide) rfl (fun ls hl => ?_)
      refine lv_aload_n C.1 C.2.1 dX2_mayBeginAsynchronous_35 rfl (lv_at hl 1 rfl) ?_
      refine xS_get (j := j) C hR (by omega) 8 (by decide) rfl fl_X2_47 (v := .int (S 8 j)) rfl dX2_mayBeginAsynchronous_36 ?_
      refine lv_iload_n C.1 C.2.1 dX2_mayBeginAsynchronous_39 rfl (lv_at hl 0 rfl) ?_
      refine lv_icmp_lt (tgt := 47) C.1 C.2.1 dX2_mayBeginAsynchronous_40 (by decide) (fun c40 => ?_) (fun c40 => ?_)
      · skip
        refine lv_iconst (v := nI 0) C.1 C.2.1 dX2_mayBeginAsynchronous_47 (by decide) ?_
        have hv : r_X2_mayBeginAsynchronous S j T = nI 0 := (if_neg c7).trans ((if_pos c14).trans ((if_pos c40).trans (rfl)))
        rw [hv]
        exact endz C hr hlk (Or.inl rfl) hR hS dX2_mayBeginAsynchronous_48
      · skip
        refine lv_iconst (v := nI 1) C.1 C.2.1 dX2_mayBeginAsynchronous_43 (by decide) ?_
        refine lv_goto (tgt := 48) C.1 C.2.1 dX2_mayBeginAsynchronous_44 (by decide) ?_
        have hv : r_X2_mayBeginAsynchronous S j T = nI 1 := (if_neg c7).trans ((if_pos c14).trans ((if_neg c40).trans (rfl)))
        rw [hv]
        exact endz C hr hlk (Or.inr rfl) hR hS dX2_mayBeginAsynchronous_48
    · skip
      refine lv_iconst (v := nI 0) C.1 C.2.1 dX2_mayBeginAsynchronous_17 (by decide) ?_
      have hv : r_X2_mayBeginAsynchronous S j T = nI 0 := (if_neg c7).trans ((if_neg c14).trans (rfl))
      rw [hv]
      exact endz C hr hlk (Or.inl rfl) hR hS dX2_mayBeginAsynchronous_18

def r_X2_queueFor (S : SX) (b j : Nat) (x : Int32) : Nat := if x = 0 then (aQ b (2 * j + 1)) else (aQ b (2 * j))
set_option maxHeartbeats 4000000 in
set_option maxRecDepth 100000 in
theorem k_X2_queueFor (l : Launch) (g : GX) (b N : Nat) (S : SX) (Fl : FX) (hN : N ≤ 6) (j : Nat) (hj : j < N) (x : Int32)  : MR l yX2_queueFor (.code yX2_queueFor cX2_queueFor 2 (some (.object "DualRing$FrameQueue")) :: tb) (rmk 0 0) g (RepX g b N S Fl) (RepX g b N S Fl) (AX b N) [.ref (aSt b j), .int x] (some (.ref (r_X2_queueFor S b j x))) := by
  refine MR.start RX2 (by decide) rfl (Nat.le_of_ble_eq_true rfl) (fun zp ze zs zm zb zt zc ls C hr hlk hR hS hl => ?_)
  have hl : lv_has ls 2 [(0, .ref (aSt b j)), (1, .int x)] := hl
  refine lv_iload_n C.1 C.2.1 dX2_queueFor_0 rfl (lv_at hl 1 rfl) ?_
  refine lv_if_eq (tgt := 11) C.1 C.2.1 dX2_queueFor_1 (by decide) (fun c1 => ?_) (fun c1 => ?_)
  · skip
    refine lv_aload_n C.1 C.2.1 dX2_queueFor_11 rfl (lv_at hl 0 rfl) ?_
    refine xS_get (j := j) C hR (by omega) 1 (by decide) rfl fl_X2_18 (v := .ref (aQ b (2 * j + 1))) rfl dX2_queueFor_12 ?_
    have hv : r_X2_queueFor S b j x = aQ b (2 * j + 1) := (if_pos c1).trans (rfl)
    rw [hv]
    exact enda C hr hlk hR hS dX2_queueFor_15
  · skip
    refine lv_aload_n C.1 C.2.1 dX2_queueFor_4 rfl (lv_at hl 0 rfl) ?_
    refine xS_get (j := j) C hR (by omega) 0 (by decide) rfl fl_X2_12 (v := .ref (aQ b (2 * j))) rfl dX2_queueFor_5 ?_
    refine lv_goto (tgt := 15) C.1 C.2.1 dX2_queueFor_8 (by decide) ?_
    have hv : r_X2_queueFor S b j x = aQ b (2 * j) := (if_neg c1).trans (rfl)
    rw [hv]
    exact enda C hr hlk hR hS dX2_queueFor_15

