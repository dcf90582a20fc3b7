def mshf (M : SX) (q i : Nat) : SX := fun f k => if (22 ≤ f ∧ f ≤ 24) ∧ 5 * q ≤ k ∧ k < 5 * q + i then M f (k + 1) else M f k
theorem mshf_0 (M : SX) (q : Nat) : mshf M q 0 = M := by
  funext f k
  simp only [mshf]
  rw [if_neg (by omega)]
theorem mshf_hi {M : SX} {q i f k : Nat} (h : 5 * q + i ≤ k) : mshf M q i f k = M f k := by
  simp only [mshf]
  rw [if_neg (by omega)]
theorem mshf_o {M : SX} {q i f k : Nat} (h : f < 22 ∨ 24 < f) : mshf M q i f k = M f k := by
  simp only [mshf]
  rw [if_neg (by omega)]
theorem mshf_step (M : SX) (q i : Nat) : mshf M q (i + 1) = up2 (up2 (up2 (mshf M q i) 22 (5 * q + i) (mshf M q i 22 (5 * q + i + 1))) 23 (5 * q + i) (mshf M q i 23 (5 * q + i + 1))) 24 (5 * q + i) (mshf M q i 24 (5 * q + i + 1)) := by
  have e2 : ∀ f, mshf M q i f (5 * q + i + 1) = M f (5 * q + i + 1) := fun f => mshf_hi (by omega)
  funext f k
  rw [e2, e2, e2]
  by_cases hk : k = 5 * q + i
  · subst hk
    by_cases h1 : f = 24
    · subst h1
      rw [up2_eq]
      exact if_pos (by omega)
    · rw [up2_f h1]
      by_cases h2 : f = 23
      · subst h2
        rw [up2_eq]
        exact if_pos (by omega)
      · rw [up2_f h2]
        by_cases h3 : f = 22
        · subst h3
          rw [up2_eq]
          exact if_pos (by omega)
        · rw [up2_f h3, mshf_o (by omega), mshf_o (by omega)]
  · rw [up2_i hk, up2_i hk, up2_i hk]
    by_cases h : (22 ≤ f ∧ f ≤ 24) ∧ 5 * q ≤ k ∧ k < 5 * q + i
    · exact (if_pos (by omega)).trans (if_pos h).symm
    · exact (if_neg (by omega)).trans (if_neg h).symm
def mto (M : SX) (f q z : Nat) : SX := up2 (mshf (up2 M 21 q (nI (z - 1))) q (z - 1)) 32 f (-1)
theorem mto_o {M : SX} {f q z g k : Nat} (h : g < 21 ∨ 24 < g) (h2 : g ≠ 32) : mto M f q z g k = M g k := by
  unfold mto
  rw [up2_f h2, mshf_o (by omega), up2_f (by omega)]
set_option maxHeartbeats 4000000 in
set_option maxRecDepth 100000 in
theorem k_X4_takeOut (l : Launch) (g : GX) (d N : Nat) (M : SX) (G : FX) (hN : N ≤ 6) (f q z : Nat) (hf : f < N) (hq : q < 12) (hz1 : 1 ≤ z) (hz : z ≤ 5) (h32 : M 32 f = nI q) (h21 : M 21 q = nI z) : MR l yX4_takeOut (.code yX4_takeOut cX4_takeOut 4 none :: tb) (rmk 0 0) g (RepM g d N M G) (RepM g d N (mto M f q z) G) (AM d) [.ref d, .int (nI f)] none := by
  refine MR.start RX4 (by decide) rfl (Nat.le_of_ble_eq_true rfl) (fun zp ze zs zm zb zt zc ls C hr hlk hR hS hl => ?_)
  have hl : lv_has ls 4 [(0, .ref d), (1, .int (nI f))] := hl
  refine lv_aload_n C.1 C.2.1 dX4_takeOut_0 rfl (lv_at hl 0 rfl) ?_
  refine m_get C hR 32 (by decide) rfl fl_X4_99 (v := .ref (mA d 32)) rfl dX4_takeOut_1 ?_
  refine lv_iload_n C.1 C.2.1 dX4_takeOut_4 rfl (lv_at hl 1 rfl) ?_
  refine mI_ld (k := 32) (j := f) C hR (by simp only [mAr]; decide) rfl (show f < 6 by omega) dX4_takeOut_5 ?_
  refine lv_re (y := nI q) (by rw [h32]) ?_
  refine lv_istore_n (lv' := [(2, .int (nI q)), (0, .ref d), (1, .int (nI f))]) C.1 C.2.1 dX4_takeOut_6 rfl hl (by decide) rfl (fun ls hl => ?_)
  refine lv_aload_n C.1 C.2.1 dX4_takeOut_7 rfl (lv_at hl 1 rfl) ?_
  refine m_get C hR 21 (by decide) rfl fl_X4_66 (v := .ref (mA d 21)) rfl dX4_takeOut_8 ?_
  refine lv_iload_n C.1 C.2.1 dX4_takeOut_11 rfl (lv_at hl 0 rfl) ?_
  refine lv_aload_n C.1 C.2.1 dX4_takeOut_12 rfl (lv_at hl 1 rfl) ?_
  refine m_get C hR 21 (by decide) rfl fl_X4_66 (v := .ref (mA d 21)) rfl dX4_takeOut_13 ?_
  refine lv_iload_n C.1 C.2.1 dX4_takeOut_16 rfl (lv_at hl 0 rfl) ?_
  refine mI_ld (k := 21) (j := q) C hR (by simp only [mAr]; decide) rfl (show q < 12 by omega) dX4_takeOut_17 ?_
  refine lv_re (y := nI z) (by rw [h21]) ?_
  refine lv_iconst (v := nI 1) C.1 C.2.1 dX4_takeOut_18 (by decide) ?_
  refine n_isub C (by omega) dX4_takeOut_19 ?_
  refine mI_st (k := 21) (j := q) C hR hS (by simp only [mAr]; decide) rfl (show q < 12 by omega) dX4_takeOut_20 (fun zM1 H locs ezM1 hR hS => ?_)
  refine lv_iconst (v := nI 5) C.1 C.2.1 dX4_takeOut_21 (by decide) ?_
  refine lv_iload_n C.1 C.2.1 dX4_takeOut_22 rfl (lv_at hl 0 rfl) ?_
  refine n_imul (z := 5 * q) C dX4_takeOut_23 (by omega) ?_
  refine lv_istore_n (lv' := [(3, .int (nI (5 * q))), (2, .int (nI q)), (0, .ref d), (1, .int (nI f))]) C.1 C.2.1 dX4_takeOut_24 rfl hl (by decide) rfl (fun ls hl => ?_)
  have h0 : mshf (up2 M 21 q (nI (z - 1))) q 0 = zM1 := by rw [mshf_0, ezM1]
  rw [← h0] at hR
  have lp : ∀ (zn : Nat) (i : Nat) (H : Heap) (locs : List Loc) (ls : Array Slot), z - 1 - i < zn → (i ≤ z - 1) → RepM g d N (mshf (up2 M 21 q (nI (z - 1))) q i) G H → va_S (AM d) zs.heap H locs → lv_has ls 4 [(3, .int (nI (5 * q + i))), (2, .int (nI q)), (0, .ref d), (1, .int (nI f))] → W zp l ze (rmk 0 0) zs zm ([.ref d, .int (nI f)] : List Value).toArray zb zt zc H locs 0 0 (MQ zb (QR (RepM g d N (mto M f q z) G) (AM d) none) ([.ref d, .int (nI f)] : List Value).toArray zs 0 0 (AM d)) (F0 zm 25 ls []) := by
    intro zn
    induction zn with
    | zero => intro i H locs ls hm; exact absurd hm (Nat.not_lt_zero _)
    | succ zn ih =>
      intro i H locs ls hm hi hR hS hl
      obtain ⟨zM2, ezM2⟩ : ∃ y, y = mshf (up2 M 21 q (nI (z - 1))) q i := ⟨_, rfl⟩
      rw [← ezM2] at hR
      have g21 : zM2 21 q = nI (z - 1) := by rw [ezM2, mshf_o (by omega), up2_eq]
      refine lv_iload_n C.1 C.2.1 dX4_takeOut_25 rfl (lv_at hl 0 rfl) ?_
      refine lv_iconst (v := nI 5) C.1 C.2.1 dX4_takeOut_26 (by decide) ?_
      refine lv_iload_n C.1 C.2.1 dX4_takeOut_27 rfl (lv_at hl 1 rfl) ?_
      refine n_imul (z := 5 * q) C dX4_takeOut_28 (by omega) ?_
      refine lv_aload_n C.1 C.2.1 dX4_takeOut_29 rfl (lv_at hl 2 rfl) ?_
      refine m_get C hR 21 (by decide) rfl fl_X4_66 (v := .ref (mA d 21)) rfl dX4_takeOut_30 ?_
      refine lv_iload_n C.1 C.2.1 dX4_takeOut_33 rfl (lv_at hl 1 rfl) ?_
      refine mI_ld (k := 21) (j := q) C hR (by simp only [mAr]; decide) rfl (show q < 12 by omega) dX4_takeOut_34 ?_
      refine lv_re (y := nI (z - 1)) (by rw [g21]) ?_
      refine n_iadd (z := 5 * q + (z - 1)) C dX4_takeOut_35 (by omega) ?_
      refine lv_icmp_ge (tgt := 87) C.1 C.2.1 dX4_takeOut_36 (by decide) (fun c36 => ?_) (fun c36 => ?_)
      · skip
        have c36 : 5 * q + (z - 1) ≤ 5 * q + i := (nI_leI (a := 5 * q + (z - 1)) (b := 5 * q + i) (by omega) (by omega)).mp c36
        refine lv_aload_n C.1 C.2.1 dX4_takeOut_87 rfl (lv_at hl 2 rfl) ?_
        refine m_get C hR 32 (by decide) rfl fl_X4_99 (v := .ref (mA d 32)) rfl dX4_takeOut_88 ?_
        refine lv_iload_n C.1 C.2.1 dX4_takeOut_91 rfl (lv_at hl 3 rfl) ?_
        refine lv_iconst (v := (-1)) C.1 C.2.1 dX4_takeOut_92 (by decide) ?_
        refine mI_st (k := 32) (j := f) C hR hS (by simp only [mAr]; decide) rfl (show f < 6 by omega) dX4_takeOut_93 (fun zM3 H locs ezM3 hR hS => ?_)
        have hi2 : i = z - 1 := by omega
        have hs : mto M f q z = zM3 := by rw [ezM3, ezM2, hi2]; rfl
        rw [hs]
        exact endv C hr hlk hR hS dX4_takeOut_94
      · skip
        have c36 : ¬ (5 * q + (z - 1) ≤ 5 * q + i) := mt (nI_leI (a := 5 * q + (z - 1)) (b := 5 * q + i) (by omega) (by omega)).mpr c36
        refine lv_aload_n C.1 C.2.1 dX4_takeOut_39 rfl (lv_at hl 2 rfl) ?_
        refine m_get C hR 22 (by decide) rfl fl_X4_69 (v := .ref (mA d 22)) rfl dX4_takeOut_40 ?_
        refine lv_iload_n C.1 C.2.1 dX4_takeOut_43 rfl (lv_at hl 0 rfl) ?_
        refine lv_aload_n C.1 C.2.1 dX4_takeOut_44 rfl (lv_at hl 2 rfl) ?_
        refine m_get C hR 22 (by decide) rfl fl_X4_69 (v := .ref (mA d 22)) rfl dX4_takeOut_45 ?_
        refine lv_iload_n C.1 C.2.1 dX4_takeOut_48 rfl (lv_at hl 0 rfl) ?_
        refine lv_iconst (v := nI 1) C.1 C.2.1 dX4_takeOut_49 (by decide) ?_
        refine n_iadd (z := 5 * q + i + 1) C dX4_takeOut_50 (by omega) ?_
        refine mI_ld (k := 22) (j := 5 * q + i + 1) C hR (by simp only [mAr]; decide) rfl (show 5 * q + i + 1 < 60 by omega) dX4_takeOut_51 ?_
        refine mI_st (k := 22) (j := 5 * q + i) C hR hS (by simp only [mAr]; decide) rfl (show 5 * q + i < 60 by omega) dX4_takeOut_52 (fun zM4 H locs ezM4 hR hS => ?_)
        refine lv_aload_n C.1 C.2.1 dX4_takeOut_53 rfl (lv_at hl 2 rfl) ?_
        refine m_get C hR 23 (by decide) rfl fl_X4_72 (v := .ref (mA d 23)) rfl dX4_takeOut_54 ?_
        refine lv_iload_n C.1 C.2.1 dX4_takeOut_57 rfl (lv_at hl 0 rfl) ?_
        refine lv_aload_n C.1 C.2.1 dX4_takeOut_58 rfl (lv_at hl 2 rfl) ?_
        refine m_get C hR 23 (by decide) rfl fl_X4_72 (v := .ref (mA d 23)) rfl dX4_takeOut_59 ?_
        refine lv_iload_n C.1 C.2.1 dX4_takeOut_62 rfl (lv_at hl 0 rfl) ?_
        refine lv_iconst (v := nI 1) C.1 C.2.1 dX4_takeOut_63 (by decide) ?_
        refine n_iadd (z := 5 * q + i + 1) C dX4_takeOut_64 (by omega) ?_
        refine mI_ld (k := 23) (j := 5 * q + i + 1) C hR (by simp only [mAr]; decide) rfl (show 5 * q + i + 1 < 60 by omega) dX4_takeOut_65 ?_
        refine lv_re (y := zM2 23 (5 * q + i + 1)) (by rw [ezM4, up2_f (by decide)]) ?_
        refine mI_st (k := 23) (j := 5 * q + i) C hR hS (by simp only [mAr]; decide) rfl (show 5 * q + i < 60 by omega) dX4_takeOut_66 (fun zM5 H locs ezM5 hR hS => ?_)
        refine lv_aload_n C.1 C.2.1 dX4_takeOut_67 rfl (lv_at hl 2 rfl) ?_
        refine m_get C hR 24 (by decide) rfl fl_X4_75 (v := .ref (mA d 24)) rfl dX4_takeOut_68 ?_
        refine lv_iload_n C.1 C.2.1 dX4_takeOut_71 rfl (lv_at hl 0 rfl) ?_
        refine lv_aload_n C.1 C.2.1 dX4_takeOut_72 rfl (lv_at hl 2 rfl) ?_
        refine m_get C hR 24 (by decide) rfl fl_X4_75 (v := .ref (mA d 24)) rfl dX4_takeOut_73 ?_
        refine lv_iload_n C.1 C.2.1 dX4_takeOut_76 rfl (lv_at hl 0 rfl) ?_
        refine lv_iconst (v := nI 1) C.1 C.2.1 dX4_takeOut_77 (by decide) ?_
        refine n_iadd (z := 5 * q + i + 1) C dX4_takeOut_78 (by omega) ?_
        refine mI_ld (k := 24) (j := 5 * q + i + 1) C hR (by simp only [mAr]; decide) rfl (show 5 * q + i + 1 < 60 by omega) dX4_takeOut_79 ?_
        refine lv_re (y := zM2 24 (5 * q + i + 1)) (by rw [ezM5, up2_f (by decide), ezM4, up2_f (by decide)]) ?_
        refine mI_st (k := 24) (j := 5 * q + i) C hR hS (by simp only [mAr]; decide) rfl (show 5 * q + i < 60 by omega) dX4_takeOut_80 (fun zM6 H locs ezM6 hR hS => ?_)
        refine lv_iinc (v := nI (5 * q + i + 1)) (lv' := [(3, .int (nI (5 * q + i + 1))), (2, .int (nI q)), (0, .ref d), (1, .int (nI f))]) C.1 C.2.1 dX4_takeOut_81 hl (k := 0) rfl (nI_add _ _) (by decide) rfl (fun ls hl => ?_)
        refine lv_goto (tgt := 25) C.1 C.2.1 dX4_takeOut_84 (by decide) ?_
        have hb : mshf (up2 M 21 q (nI (z - 1))) q (i + 1) = zM6 := by rw [ezM6, ezM5, ezM4, ezM2, mshf_step]
        rw [← hb] at hR
        exact ih (i + 1) H locs ls (by omega) (by omega) hR hS (lv_sub hl [0, 1, 2, 3] rfl)
  exact lp _ 0 _ _ ls (Nat.lt_succ_self _) (by omega) hR hS (lv_sub hl [0, 1, 2, 3] rfl)

def s_X4_claim_i (M : SX) (f L : Nat) : SX := up2 (up2 (up2 M 28 f (nI (2 * L))) 29 f (nI 0)) 31 f (nI 0)
set_option maxHeartbeats 4000000 in
set_option maxRecDepth 100000 in
theorem k_X4_claim_i (l : Launch) (g : GX) (d N : Nat) (M : SX) (G : FX) (hN : N ≤ 6) (f : Nat) (hf : f < N) (L : Nat) (hL : L ≤ N) (h25 : M 25 f = nI L) (h32 : M 32 f = -1)  : MR l yX4_claim (.code yX4_claim cX4_claim 3 none :: tb) (rmk 1 23) g (RepM g d N M G) (RepM g d N (s_X4_claim_i M f L) G) (AM d) [.ref d, .int (nI f)] none := by
  refine MR.start RX4 (by decide) rfl (Nat.le_of_ble_eq_true rfl) (fun zp ze zs zm zb zt zc ls C hr hlk hR hS hl => ?_)
  have hl : lv_has ls 3 [(0, .ref d), (1, .int (nI f))] := hl
  refine lv_aload_n C.1 C.2.1 dX4_claim_0 rfl (lv_at hl 0 rfl) ?_
  refine m_get C hR 32 (by decide) rfl fl_X4_99 (v := .ref (mA d 32)) rfl dX4_claim_1 ?_
  refine lv_iload_n C.1 C.2.1 dX4_claim_4 rfl (lv_at hl 1 rfl) ?_
  refine mI_ld (k := 32) (j := f) C hR (by simp only [mAr]; decide) rfl (show f < 6 by omega) dX4_claim_5 ?_
  refine lv_re (y := (-1)) (by rw [h32]) ?_
  refine lv_if_lt (tgt := 37) C.1 C.2.1 dX4_claim_6 (by decide) (fun c6 => ?_) (fun c6 => ?_)
  · skip
    refine lv_aload_n C.1 C.2.1 dX4_claim_37 rfl (lv_at hl 0 rfl) ?_
    refine m_get C hR 28 (by decide) rfl fl_X4_87 (v := .ref (mA d 28)) rfl dX4_claim_38 ?_
    refine lv_iload_n C.1 C.2.1 dX4_claim_41 rfl (lv_at hl 1 rfl) ?_
    refine lv_iconst (v := nI 2) C.1 C.2.1 dX4_claim_42 (by decide) ?_
    refine lv_aload_n C.1 C.2.1 dX4_claim_43 rfl (lv_at hl 0 rfl) ?_
    refine m_get C hR 25 (by decide) rfl fl_X4_78 (v := .ref (mA d 25)) rfl dX4_claim_44 ?_
    refine lv_iload_n C.1 C.2.1 dX4_claim_47 rfl (lv_at hl 1 rfl) ?_
    refine mI_ld (k := 25) (j := f) C hR (by simp only [mAr]; decide) rfl (show f < 6 by omega) dX4_claim_48 ?_
    refine lv_re (y := nI L) (by rw [h25]) ?_
    refine n_imul (z := 2 * L) C dX4_claim_49 (by omega) ?_
    refine mI_st (k := 28) (j := f) C hR hS (by simp only [mAr]; decide) rfl (show f < 6 by omega) dX4_claim_50 (fun zM1 H locs ezM1 hR hS => ?_)
    refine lv_aload_n C.1 C.2.1 dX4_claim_51 rfl (lv_at hl 0 rfl) ?_
    refine m_get C hR 29 (by decide) rfl fl_X4_90 (v := .ref (mA d 29)) rfl dX4_claim_52 ?_
    refine lv_iload_n C.1 C.2.1 dX4_claim_55 rfl (lv_at hl 1 rfl) ?_
    refine lv_iconst (v := nI 0) C.1 C.2.1 dX4_claim_56 (by decide) ?_
    refine mI_st (k := 29) (j := f) C hR hS (by simp only [mAr]; decide) rfl (show f < 6 by omega) dX4_claim_57 (fun zM2 H locs ezM2 hR hS => ?_)
    refine lv_aload_n C.1 C.2.1 dX4_claim_58 rfl (lv_at hl 0 rfl) ?_
    refine m_get C hR 31 (by decide) rfl fl_X4_96 (v := .ref (mA d 31)) rfl dX4_claim_59 ?_
    refine lv_iload_n C.1 C.2.1 dX4_claim_62 rfl (lv_at hl 1 rfl) ?_
    refine lv_iconst (v := nI 0) C.1 C.2.1 dX4_claim_63 (by decide) ?_
    refine mI_st (k := 31) (j := f) C hR hS (by simp only [mAr]; decide) rfl (show f < 6 by omega) dX4_claim_64 (fun zM3 H locs ezM3 hR hS => ?_)
    have hs : s_X4_claim_i M f L = zM3 := (show _ = up2 (up2 (up2 M 28 f (nI (2 * L))) 29 f (nI 0)) 31 f (nI 0) from rfl).trans (by rw [ezM3, ezM2, ezM1])
    rw [hs]
    exact endv C hr hlk hR hS dX4_claim_65
  · skip
    exact absurd c6 (by decide)

def s_X4_claim_s (M : SX) (f q z L : Nat) : SX := up2 (up2 (up2 (mto (up2 M 19 (q / 2) (M 19 (q / 2) + (nI 1))) f q z) 28 f (nI (2 * L))) 29 f (nI 0)) 31 f (nI 0)
set_option maxHeartbeats 4000000 in
set_option maxRecDepth 100000 in
theorem k_X4_claim_s (l : Launch) (g : GX) (d N : Nat) (M : SX) (G : FX) (hN : N ≤ 6) (f q z : Nat) (hf : f < N) (hq : q < 12) (hz1 : 1 ≤ z) (hz : z ≤ 5) (h32 : M 32 f = nI q) (h21 : M 21 q = nI z) (L : Nat) (hL : L ≤ N) (h25 : M 25 f = nI L)  : MR l yX4_claim (.code yX4_claim cX4_claim 3 none :: tb) (rmk 1 23) g (RepM g d N M G) (RepM g d N (s_X4_claim_s M f q z L) G) (AM d) [.ref d, .int (nI f)] none := by
  refine MR.start RX4 (by decide) rfl (Nat.le_of_ble_eq_true rfl) (fun zp ze zs zm zb zt zc ls C hr hlk hR hS hl => ?_)
  have hl : lv_has ls 3 [(0, .ref d), (1, .int (nI f))] := hl
  refine lv_aload_n C.1 C.2.1 dX4_claim_0 rfl (lv_at hl 0 rfl) ?_
  refine m_get C hR 32 (by decide) rfl fl_X4_99 (v := .ref (mA d 32)) rfl dX4_claim_1 ?_
  refine lv_iload_n C.1 C.2.1 dX4_claim_4 rfl (lv_at hl 1 rfl) ?_
  refine mI_ld (k := 32) (j := f) C hR (by simp only [mAr]; decide) rfl (show f < 6 by omega) dX4_claim_5 ?_
  refine lv_re (y := nI q) (by rw [h32]) ?_
  refine lv_if_lt (tgt := 37) C.1 C.2.1 dX4_claim_6 (by decide) (fun c6 => ?_) (fun c6 => ?_)
  · skip
    exact absurd c6 (nI_pos (by omega))
  · skip
    have c6 : ¬ (q < 0) := mt (nI_ltI (a := q) (b := 0) (by omega) (by omega)).mpr c6
    refine lv_aload_n C.1 C.2.1 dX4_claim_9 rfl (lv_at hl 0 rfl) ?_
    refine m_get C hR 32 (by decide) rfl fl_X4_99 (v := .ref (mA d 32)) rfl dX4_claim_10 ?_
    refine lv_iload_n C.1 C.2.1 dX4_claim_13 rfl (lv_at hl 1 rfl) ?_
    refine mI_ld (k := 32) (j := f) C hR (by simp only [mAr]; decide) rfl (show f < 6 by omega) dX4_claim_14 ?_
    refine lv_re (y := nI q) (by rw [h32]) ?_
    refine lv_iconst (v := nI 2) C.1 C.2.1 dX4_claim_15 (by decide) ?_
    refine n_idiv C (by omega) (by omega) (by omega) dX4_claim_16 ?_
    refine lv_istore_n (lv' := [(2, .int (nI (q / 2))), (0, .ref d), (1, .int (nI f))]) C.1 C.2.1 dX4_claim_17 rfl hl (by decide) rfl (fun ls hl => ?_)
    refine lv_aload_n C.1 C.2.1 dX4_claim_18 rfl (lv_at hl 1 rfl) ?_
    refine m_get C hR 19 (by decide) rfl fl_X4_59 (v := .ref (mA d 19)) rfl dX4_claim_19 ?_
    refine lv_iload_n C.1 C.2.1 dX4_claim_22 rfl (lv_at hl 0 rfl) ?_
    refine lv_aload_n C.1 C.2.1 dX4_claim_23 rfl (lv_at hl 1 rfl) ?_
    refine m_get C hR 19 (by decide) rfl fl_X4_59 (v := .ref (mA d 19)) rfl dX4_claim_24 ?_
    refine lv_iload_n C.1 C.2.1 dX4_claim_27 rfl (lv_at hl 0 rfl) ?_
    refine mI_ld (k := 19) (j := q / 2) C hR (by simp only [mAr]; decide) rfl (show q / 2 < 6 by omega) dX4_claim_28 ?_
    refine lv_iconst (v := nI 1) C.1 C.2.1 dX4_claim_29 (by decide) ?_
    refine lv_iadd C.1 C.2.1 dX4_claim_30 ?_
    refine mI_st (k := 19) (j := q / 2) C hR hS (by simp only [mAr]; decide) rfl (show q / 2 < 6 by omega) dX4_claim_31 (fun zM1 H locs ezM1 hR hS => ?_)
    refine lv_aload_n C.1 C.2.1 dX4_claim_32 rfl (lv_at hl 1 rfl) ?_
    refine lv_iload_n C.1 C.2.1 dX4_claim_33 rfl (lv_at hl 2 rfl) ?_
    refine cxV (b := d) (As := [.int (nI f)]) (rest := []) (ci := 4) (q := (RX4, TX4, 36)) C (k_X4_takeOut l g d N zM1 G hN f q z (by omega) (by omega) (by omega) (by omega) (by rw [ezM1, up2_f (by decide), h32]) (by rw [ezM1, up2_f (by decide), h21])) cf_X4_takeOut ml_X4_126 ⟨by decide, by decide⟩ ⟨rfl, rfl⟩ rfl (hR.1) rfl hl.1 rfl (Nat.le_of_ble_eq_true rfl) dX4_claim_34 hR ⟨Nat.zero_le _, Nat.zero_le _⟩ hS (fun _ h => h) (fun H locs hR hS _ _ => ?_)
    obtain ⟨zM2, ezM2⟩ : ∃ y, y = mto zM1 f q z := ⟨_, rfl⟩
    rw [← ezM2] at hR
    simp only [Option.toList, List.nil_append]
    refine lv_aload_n C.1 C.2.1 dX4_claim_37 rfl (lv_at hl 1 rfl) ?_
    refine m_get C hR 28 (by decide) rfl fl_X4_87 (v := .ref (mA d 28)) rfl dX4_claim_38 ?_
    refine lv_iload_n C.1 C.2.1 dX4_claim_41 rfl (lv_at hl 2 rfl) ?_
    refine lv_iconst (v := nI 2) C.1 C.2.1 dX4_claim_42 (by decide) ?_
    refine lv_aload_n C.1 C.2.1 dX4_claim_43 rfl (lv_at hl 1 rfl) ?_
    refine m_get C hR 25 (by decide) rfl fl_X4_78 (v := .ref (mA d 25)) rfl dX4_claim_44 ?_
    refine lv_iload_n C.1 C.2.1 dX4_claim_47 rfl (lv_at hl 2 rfl) ?_
    refine mI_ld (k := 25) (j := f) C hR (by simp only [mAr]; decide) rfl (show f < 6 by omega) dX4_claim_48 ?_
    refine lv_re (y := nI L) (by rw [ezM2, mto_o (by decide) (by decide), ezM1, up2_f (by decide), h25]) ?_
    refine n_imul (z := 2 * L) C dX4_claim_49 (by omega) ?_
    refine mI_st (k := 28) (j := f) C hR hS (by simp only [mAr]; decide) rfl (show f < 6 by omega) dX4_claim_50 (fun zM3 H locs ezM3 hR hS => ?_)
    refine lv_aload_n C.1 C.2.1 dX4_claim_51 rfl (lv_at hl 1 rfl) ?_
    refine m_get C hR 29 (by decide) rfl fl_X4_90 (v := .ref (mA d 29)) rfl dX4_claim_52 ?_
    refine lv_iload_n C.1 C.2.1 dX4_claim_55 rfl (lv_at hl 2 rfl) ?_
    refine lv_iconst (v := nI 0) C.1 C.2.1 dX4_claim_56 (by decide) ?_
    refine mI_st (k := 29) (j := f) C hR hS (by simp only [mAr]; decide) rfl (show f < 6 by omega) dX4_claim_57 (fun zM4 H locs ezM4 hR hS => ?_)
    refine lv_aload_n C.1 C.2.1 dX4_claim_58 rfl (lv_at hl 1 rfl) ?_
    refine m_get C hR 31 (by decide) rfl fl_X4_96 (v := .ref (mA d 31)) rfl dX4_claim_59 ?_
    refine lv_iload_n C.1 C.2.1 dX4_claim_62 rfl (lv_at hl 2 rfl) ?_
    refine lv_iconst (v := nI 0) C.1 C.2.1 dX4_claim_63 (by decide) ?_
    refine mI_st (k := 31) (j := f) C hR hS (by simp only [mAr]; decide) rfl (show f < 6 by omega) dX4_claim_64 (fun zM5 H locs ezM5 hR hS => ?_)
    have hs : s_X4_claim_s M f q z L = zM5 := (show _ = up2 (up2 (up2 (mto (up2 M 19 (q / 2) (M 19 (q / 2) + (nI 1))) f q z) 28 f (nI (2 * L))) 29 f (nI 0)) 31 f (nI 0) from rfl).trans (by rw [ezM5, ezM4, ezM3, ezM2, ezM1])
    rw [hs]
    exact endv C hr hlk hR hS dX4_claim_65

set_option maxHeartbeats 4000000 in
set_option maxRecDepth 100000 in
theorem k_X4_holder (l : Launch) (g : GX) (d N : Nat) (M : SX) (G : FX) (hN : N ≤ 6) (f p h : Nat) (hf : f < N) (hp : p < 6) (h30 : M 30 f = nI p) (hh : M 26 (6 * f + p) = nI h)  : MR l yX4_holder (.code yX4_holder cX4_holder 2 (some .int) :: tb) (rmk 0 0) g (RepM g d N M G) (RepM g d N M G) (AM d) [.ref d, .int (nI f)] (some (.int (nI h))) := by
  refine MR.start RX4 (by decide) rfl (Nat.le_of_ble_eq_true rfl) (fun zp ze zs zm zb zt zc ls C hr hlk hR hS hl => ?_)
  have hl : lv_has ls 2 [(0, .ref d), (1, .int (nI f))] := hl
  refine lv_aload_n C.1 C.2.1 dX4_holder_0 rfl (lv_at hl 0 rfl) ?_
  refine m_get C hR 26 (by decide) rfl fl_X4_81 (v := .ref (mA d 26)) rfl dX4_holder_1 ?_
  refine lv_bipush (v := nI 6) C.1 C.2.1 dX4_holder_4 (by decide) ?_
  refine lv_iload_n C.1 C.2.1 dX4_holder_6 rfl (lv_at hl 1 rfl) ?_
  refine n_imul (z := 6 * f) C dX4_holder_7 (by omega) ?_
  refine lv_aload_n C.1 C.2.1 dX4_holder_8 rfl (lv_at hl 0 rfl) ?_
  refine m_get C hR 30 (by decide) rfl fl_X4_93 (v := .ref (mA d 30)) rfl dX4_holder_9 ?_
  refine lv_iload_n C.1 C.2.1 dX4_holder_12 rfl (lv_at hl 1 rfl) ?_
  refine mI_ld (k := 30) (j := f) C hR (by simp only [mAr]; decide) rfl (show f < 6 by omega) dX4_holder_13 ?_
  refine lv_re (y := nI p) (by rw [h30]) ?_
  refine n_iadd (z := 6 * f + p) C dX4_holder_14 (by omega) ?_
  refine mI_ld (k := 26) (j := 6 * f + p) C hR (by simp only [mAr]; decide) rfl (show 6 * f + p < 36 by omega) dX4_holder_15 ?_
  refine lv_re (y := nI h) (by rw [hh]) ?_
  skip
  exact endi C hr hlk hR hS dX4_holder_16

def s_X4_leave (M : SX) (f p L : Nat) : SX := if p < L - 1 then (up2 M 31 f (nI 1)) else (if M 27 f = 0 then (up2 M 31 f (nI L)) else (up2 M 31 f (nI 1)))
set_option maxHeartbeats 4000000 in
set_option maxRecDepth 100000 in
theorem k_X4_leave (l : Launch) (g : GX) (d N : Nat) (M : SX) (G : FX) (hN : N ≤ 6) (f p L : Nat) (hf : f < N) (hp : p < L) (hL : L ≤ N) (h30 : M 30 f = nI p) (h25 : M 25 f = nI L)  : MR l yX4_leave (.code yX4_leave cX4_leave 2 none :: tb) (rmk 0 0) g (RepM g d N M G) (RepM g d N (s_X4_leave M f p L) G) (AM d) [.ref d, .int (nI f)] none := by
  refine MR.start RX4 (by decide) rfl (Nat.le_of_ble_eq_true rfl) (fun zp ze zs zm zb zt zc ls C hr hlk hR hS hl => ?_)
  have hl : lv_has ls 2 [(0, .ref d), (1, .int (nI f))] := hl
  refine lv_aload_n C.1 C.2.1 dX4_leave_0 rfl (lv_at hl 0 rfl) ?_
  refine m_get C hR 31 (by decide) rfl fl_X4_96 (v := .ref (mA d 31)) rfl dX4_leave_1 ?_
  refine lv_iload_n C.1 C.2.1 dX4_leave_4 rfl (lv_at hl 1 rfl) ?_
  refine lv_aload_n C.1 C.2.1 dX4_leave_5 rfl (lv_at hl 0 rfl) ?_
  refine m_get C hR 30 (by decide) rfl fl_X4_93 (v := .ref (mA d 30)) rfl dX4_leave_6 ?_
  refine lv_iload_n C.1 C.2.1 dX4_leave_9 rfl (lv_at hl 1 rfl) ?_
  refine mI_ld (k := 30) (j := f) C hR (by simp only [mAr]; decide) rfl (show f < 6 by omega) dX4_leave_10 ?_
  refine lv_re (y := nI p) (by rw [h30]) ?_
  refine lv_aload_n C.1 C.2.1 dX4_leave_11 rfl (lv_at hl 0 rfl) ?_
  refine m_get C hR 25 (by decide) rfl fl_X4_78 (v := .ref (mA d 25)) rfl dX4_leave_12 ?_
  refine lv_iload_n C.1 C.2.1 dX4_leave_15 rfl (lv_at hl 1 rfl) ?_
  refine mI_ld (k := 25) (j := f) C hR (by simp only [mAr]; decide) rfl (show f < 6 by omega) dX4_leave_16 ?_
  refine lv_re (y := nI L) (by rw [h25]) ?_
  refine lv_iconst (v := nI 1) C.1 C.2.1 dX4_leave_17 (by decide) ?_
  refine n_isub C (by omega) dX4_leave_18 ?_
  refine lv_icmp_lt (tgt := 31) C.1 C.2.1 dX4_leave_19 (by decide) (fun c19 => ?_) (fun c19 => ?_)
  · skip
    have c19 : p < L - 1 := (nI_ltI (a := p) (b := L - 1) (by omega) (by omega)).mp c19
    refine lv_iconst (v := nI 1) C.1 C.2.1 dX4_leave_31 (by decide) ?_
    refine lv_goto (tgt := 41) C.1 C.2.1 dX4_leave_32 (by decide) ?_
    refine mI_st (k := 31) (j := f) C hR hS (by simp only [mAr]; decide) rfl (show f < 6 by omega) dX4_leave_41 (fun zM1 H locs ezM1 hR hS => ?_)
    have hs : s_X4_leave M f p L = zM1 := (if_pos c19).trans (by rw [ezM1])
    rw [hs]
    exact endv C hr hlk hR hS dX4_leave_42
  · skip
    have c19 : ¬ (p < L - 1) := mt (nI_ltI (a := p) (b := L - 1) (by omega) (by omega)).mpr c19
    refine lv_aload_n C.1 C.2.1 dX4_leave_22 rfl (lv_at hl 0 rfl) ?_
    refine m_get C hR 27 (by decide) rfl fl_X4_84 (v := .ref (mA d 27)) rfl dX4_leave_23 ?_
    refine lv_iload_n C.1 C.2.1 dX4_leave_26 rfl (lv_at hl 1 rfl) ?_
    refine mZ_ld (k := 27) (j := f) C hR (by simp only [mAr]; decide) rfl (show f < 6 by omega) dX4_leave_27 ?_
    refine lv_if_eq (tgt := 35) C.1 C.2.1 dX4_leave_28 (by decide) (fun c28 => ?_) (fun c28 => ?_)
    · skip
      refine lv_aload_n C.1 C.2.1 dX4_leave_35 rfl (lv_at hl 0 rfl) ?_
      refine m_get C hR 25 (by decide) rfl fl_X4_78 (v := .ref (mA d 25)) rfl dX4_leave_36 ?_
      refine lv_iload_n C.1 C.2.1 dX4_leave_39 rfl (lv_at hl 1 rfl) ?_
      refine mI_ld (k := 25) (j := f) C hR (by simp only [mAr]; decide) rfl (show f < 6 by omega) dX4_leave_40 ?_
      refine lv_re (y := nI L) (by rw [h25]) ?_
      refine mI_st (k := 31) (j := f) C hR hS (by simp only [mAr]; decide) rfl (show f < 6 by omega) dX4_leave_41 (fun zM2 H locs ezM2 hR hS => ?_)
      have hs : s_X4_leave M f p L = zM2 := (if_neg c19).trans ((if_pos c28).trans (by rw [ezM2]))
      rw [hs]
      exact endv C hr hlk hR hS dX4_leave_42
    · skip
      refine lv_iconst (v := nI 1) C.1 C.2.1 dX4_leave_31 (by decide) ?_
      refine lv_goto (tgt := 41) C.1 C.2.1 dX4_leave_32 (by decide) ?_
      refine mI_st (k := 31) (j := f) C hR hS (by simp only [mAr]; decide) rfl (show f < 6 by omega) dX4_leave_41 (fun zM3 H locs ezM3 hR hS => ?_)
      have hs : s_X4_leave M f p L = zM3 := (if_neg c19).trans ((if_neg c28).trans (by rw [ezM3]))
      rw [hs]
      exact endv C hr hlk hR hS dX4_leave_42

def mrs1 (M : SX) (j : Nat) : SX := up2 (up2 (up2 (up2 (up2 (up2 (up2 M 7 j (nI 0)) 8 j (nI 0)) 9 j (nI 0)) 10 j (nI 0)) 11 j (nI 0)) 12 j (nI 0)) 13 j (nI 0)
theorem mrs1_o {M : SX} {j g k : Nat} (h : g < 7 ∨ 13 < g) : mrs1 M j g k = M g k := by
  unfold mrs1
  rw [up2_f (by omega), up2_f (by omega), up2_f (by omega), up2_f (by omega), up2_f (by omega), up2_f (by omega), up2_f (by omega)]
def mrst (N : Nat) (M : SX) (f : Nat) : Nat → SX
  | 0 => M
  | i + 1 => mrs1 (mrst N M f i) (wr N (f + i))
theorem mrst_o {N : Nat} {M : SX} {f i g k : Nat} (h : g < 7 ∨ 13 < g) : mrst N M f i g k = M g k := by
  induction i with
  | zero => rfl
  | succ i ih => simp only [mrst]; rw [mrs1_o h, ih]
def mop (N : Nat) (M : SX) (f k w : Nat) : SX := up2 (mrst N M f k) 30 f (nI w)
theorem mop_o {N : Nat} {M : SX} {f i w g k : Nat} (h : g < 7 ∨ 13 < g) (h2 : g ≠ 30) : mop N M f i w g k = M g k := by
  unfold mop
  rw [up2_f h2, mrst_o h]
theorem up2_c {S : SX} {f i g k : Nat} {v w : Int32} (h : f ≠ g) : up2 (up2 S f i v) g k w = up2 (up2 S g k w) f i v := by
  funext a b
  simp only [up2]
  by_cases h1 : a = g
  · subst h1
    have h2 : ¬ a = f := Ne.symm h
    simp [h2]
  · simp [h1]
theorem up2_2 {S : SX} {f i : Nat} {v w : Int32} : up2 (up2 S f i v) f i w = up2 S f i w := by
  funext a b
  simp only [up2]
  by_cases h1 : a = f ∧ b = i
  · rw [if_pos h1, if_pos h1]
  · rw [if_neg h1, if_neg h1, if_neg h1]
theorem mop_step {N : Nat} {M : SX} {f k w w2 : Nat} : up2 (mrs1 (mop N M f k w) (wr N (f + k))) 30 f (nI w2) = mop N M f (k + 1) w2 := by
  unfold mop
  show _ = up2 (mrs1 (mrst N M f k) (wr N (f + k))) 30 f (nI w2)
  unfold mrs1
  rw [up2_c (g := 30) (f := 13) (by decide), up2_c (g := 30) (f := 12) (by decide), up2_c (g := 30) (f := 11) (by decide), up2_c (g := 30) (f := 10) (by decide), up2_c (g := 30) (f := 9) (by decide), up2_c (g := 30) (f := 8) (by decide), up2_c (g := 30) (f := 7) (by decide), up2_2,
    up2_c (g := 30) (f := 13) (by decide), up2_c (g := 30) (f := 12) (by decide), up2_c (g := 30) (f := 11) (by decide), up2_c (g := 30) (f := 10) (by decide), up2_c (g := 30) (f := 9) (by decide), up2_c (g := 30) (f := 8) (by decide), up2_c (g := 30) (f := 7) (by decide)]
def mwins (N : Nat) (M : SX) (f : Nat) : Nat → Nat → Nat → Nat
  | 0, _, w => w
  | n + 1, i, w => mwins N M f n (i + 1) (if M 5 (wr N (f + i)) < M 5 (wr N (f + w)) ∨ (M 5 (wr N (f + i)) = M 5 (wr N (f + w)) ∧ wr N (f + w) < wr N (f + i)) then i else w)
theorem mwins_lt {N : Nat} {M : SX} {f : Nat} : ∀ (n i w : Nat), w < i → mwins N M f n i w < i + n := by
  intro n
  induction n with
  | zero => intro i w h; exact h
  | succ n ih =>
    intro i w h
    simp only [mwins]
    have := ih (i + 1) (if M 5 (wr N (f + i)) < M 5 (wr N (f + w)) ∨ (M 5 (wr N (f + i)) = M 5 (wr N (f + w)) ∧ wr N (f + w) < wr N (f + i)) then i else w) (by split <;> omega)
    omega
def mopr (N : Nat) (M : SX) (f L : Nat) : SX := up2 (mop N M f L (mwins N M f (L - 1) 1 0)) 29 f (M 5 (wr N (f + mwins N M f (L - 1) 1 0)))
set_option maxHeartbeats 4000000 in
set_option maxRecDepth 100000 in
theorem k_X4_operate (l : Launch) (g : GX) (d N : Nat) (M : SX) (G : FX) (hN : N ≤ 6) (f L : Nat) (hf : f < N) (hL1 : 1 ≤ L) (hL : L ≤ N) (h25 : M 25 f = nI L) (hrow : ∀ k, k < L → M 26 (6 * f + k) = nI (wr N (f + k))) : MR l yX4_operate (.code yX4_operate cX4_operate 6 none :: tb) (rmk 1 21) g (RepM g d N M G) (RepM g d N (s_X4_leave (mopr N M f L) f (mwins N M f (L - 1) 1 0) L) G) (AM d) [.ref d, .int (nI f)] none := by
  refine MR.start RX4 (by decide) rfl (Nat.le_of_ble_eq_true rfl) (fun zp ze zs zm zb zt zc ls C hr hlk hR hS hl => ?_)
  have hl : lv_has ls 6 [(0, .ref d), (1, .int (nI f))] := hl
  have hrow0 : M 26 (6 * f) = nI (wr N (f + 0)) := hrow 0 (by omega)
  have hw0 := wr_lt (N := N) (i := f + 0) (by omega)
  refine lv_iconst (v := (-1)) C.1 C.2.1 dX4_operate_0 (by decide) ?_
  refine lv_istore_n (lv' := [(2, .int (-1)), (0, .ref d), (1, .int (nI f))]) C.1 C.2.1 dX4_operate_1 rfl hl (by decide) rfl (fun ls hl => ?_)
  refine lv_iconst (v := nI 0) C.1 C.2.1 dX4_operate_2 (by decide) ?_
  refine lv_istore_n (lv' := [(3, .int (nI 0)), (2, .int (-1)), (0, .ref d), (1, .int (nI f))]) C.1 C.2.1 dX4_operate_3 rfl hl (by decide) rfl (fun ls hl => ?_)
  refine lv_iload_n C.1 C.2.1 dX4_operate_4 rfl (lv_at hl 0 rfl) ?_
  refine lv_aload_n C.1 C.2.1 dX4_operate_5 rfl (lv_at hl 2 rfl) ?_
  refine m_get C hR 25 (by decide) rfl fl_X4_78 (v := .ref (mA d 25)) rfl dX4_operate_6 ?_
  refine lv_iload_n C.1 C.2.1 dX4_operate_9 rfl (lv_at hl 3 rfl) ?_
  refine mI_ld (k := 25) (j := f) C hR (by simp only [mAr]; decide) rfl (show f < 6 by omega) dX4_operate_10 ?_
  refine lv_re (y := nI L) (by rw [h25]) ?_
  refine lv_icmp_ge (tgt := 171) C.1 C.2.1 dX4_operate_11 (by decide) (fun c11 => ?_) (fun c11 => ?_)
  · skip
    exact absurd c11 (nI_nle (by omega) (by omega))
  · skip
    have c11 : ¬ (L ≤ 0) := mt (nI_leI (a := L) (b := 0) (by omega) (by omega)).mpr c11
    refine lv_aload_n C.1 C.2.1 dX4_operate_14 rfl (lv_at hl 2 rfl) ?_
    refine m_get C hR 26 (by decide) rfl fl_X4_81 (v := .ref (mA d 26)) rfl dX4_operate_15 ?_
    refine lv_bipush (v := nI 6) C.1 C.2.1 dX4_operate_18 (by decide) ?_
    refine lv_iload_n C.1 C.2.1 dX4_operate_20 rfl (lv_at hl 3 rfl) ?_
    refine n_imul (z := 6 * f) C dX4_operate_21 (by omega) ?_
    refine lv_iload_n C.1 C.2.1 dX4_operate_22 rfl (lv_at hl 0 rfl) ?_
    refine n_iadd (z := 6 * f) C dX4_operate_23 (by omega) ?_
    refine mI_ld (k := 26) (j := 6 * f) C hR (by simp only [mAr]; decide) rfl (show 6 * f < 36 by omega) dX4_operate_24 ?_
    refine lv_re (y := nI (wr N (f + 0))) (by rw [hrow0]) ?_
    refine lv_istore (lv' := [(4, .int (nI (wr N (f + 0)))), (3, .int (nI 0)), (2, .int (-1)), (0, .ref d), (1, .int (nI f))]) C.1 C.2.1 dX4_operate_25 hl (by decide) rfl (fun ls hl => ?_)
    refine lv_aload_n C.1 C.2.1 dX4_operate_27 rfl (lv_at hl 3 rfl) ?_
    refine m_get C hR 7 (by decide) rfl fl_X4_23 (v := .ref (mA d 7)) rfl dX4_operate_28 ?_
    refine lv_iload C.1 C.2.1 dX4_operate_31 (lv_at hl 0 rfl) ?_
    refine lv_iconst (v := nI 0) C.1 C.2.1 dX4_operate_33 (by decide) ?_
    refine mI_st (k := 7) (j := wr N (f + 0)) C hR hS (by simp only [mAr]; decide) rfl (show wr N (f + 0) < 6 by omega) dX4_operate_34 (fun zM1 H locs ezM1 hR hS => ?_)
    refine lv_aload_n C.1 C.2.1 dX4_operate_35 rfl (lv_at hl 3 rfl) ?_
    refine m_get C hR 8 (by decide) rfl fl_X4_26 (v := .ref (mA d 8)) rfl dX4_operate_36 ?_
    refine lv_iload C.1 C.2.1 dX4_operate_39 (lv_at hl 0 rfl) ?_
    refine lv_iconst (v := nI 0) C.1 C.2.1 dX4_operate_41 (by decide) ?_
    refine mI_st (k := 8) (j := wr N (f + 0)) C hR hS (by simp only [mAr]; decide) rfl (show wr N (f + 0) < 6 by omega) dX4_operate_42 (fun zM2 H locs ezM2 hR hS => ?_)
    refine lv_aload_n C.1 C.2.1 dX4_operate_43 rfl (lv_at hl 3 rfl) ?_
    refine m_get C hR 9 (by decide) rfl fl_X4_29 (v := .ref (mA d 9)) rfl dX4_operate_44 ?_
    refine lv_iload C.1 C.2.1 dX4_operate_47 (lv_at hl 0 rfl) ?_
    refine lv_iconst (v := nI 0) C.1 C.2.1 dX4_operate_49 (by decide) ?_
    refine mI_st (k := 9) (j := wr N (f + 0)) C hR hS (by simp only [mAr]; decide) rfl (show wr N (f + 0) < 6 by omega) dX4_operate_50 (fun zM3 H locs ezM3 hR hS => ?_)
    refine lv_aload_n C.1 C.2.1 dX4_operate_51 rfl (lv_at hl 3 rfl) ?_
    refine m_get C hR 10 (by decide) rfl fl_X4_32 (v := .ref (mA d 10)) rfl dX4_operate_52 ?_
    refine lv_iload C.1 C.2.1 dX4_operate_55 (lv_at hl 0 rfl) ?_
    refine lv_iconst (v := nI 0) C.1 C.2.1 dX4_operate_57 (by decide) ?_
    refine mI_st (k := 10) (j := wr N (f + 0)) C hR hS (by simp only [mAr]; decide) rfl (show wr N (f + 0) < 6 by omega) dX4_operate_58 (fun zM4 H locs ezM4 hR hS => ?_)
    refine lv_aload_n C.1 C.2.1 dX4_operate_59 rfl (lv_at hl 3 rfl) ?_
    refine m_get C hR 11 (by decide) rfl fl_X4_35 (v := .ref (mA d 11)) rfl dX4_operate_60 ?_
    refine lv_iload C.1 C.2.1 dX4_operate_63 (lv_at hl 0 rfl) ?_
    refine lv_iconst (v := nI 0) C.1 C.2.1 dX4_operate_65 (by decide) ?_
    refine mI_st (k := 11) (j := wr N (f + 0)) C hR hS (by simp only [mAr]; decide) rfl (show wr N (f + 0) < 6 by omega) dX4_operate_66 (fun zM5 H locs ezM5 hR hS => ?_)
    refine lv_aload_n C.1 C.2.1 dX4_operate_67 rfl (lv_at hl 3 rfl) ?_
    refine m_get C hR 12 (by decide) rfl fl_X4_38 (v := .ref (mA d 12)) rfl dX4_operate_68 ?_
    refine lv_iload C.1 C.2.1 dX4_operate_71 (lv_at hl 0 rfl) ?_
    refine lv_iconst (v := nI 0) C.1 C.2.1 dX4_operate_73 (by decide) ?_
    refine mZ_st (k := 12) (j := wr N (f + 0)) C hR hS (by simp only [mAr]; decide) rfl (show wr N (f + 0) < 6 by omega) (Or.inl rfl) dX4_operate_74 (fun zM6 H locs ezM6 hR hS => ?_)
    refine lv_aload_n C.1 C.2.1 dX4_operate_75 rfl (lv_at hl 3 rfl) ?_
    refine m_get C hR 13 (by decide) rfl fl_X4_41 (v := .ref (mA d 13)) rfl dX4_operate_76 ?_
    refine lv_iload C.1 C.2.1 dX4_operate_79 (lv_at hl 0 rfl) ?_
    refine lv_iconst (v := nI 0) C.1 C.2.1 dX4_operate_81 (by decide) ?_
    refine mZ_st (k := 13) (j := wr N (f + 0)) C hR hS (by simp only [mAr]; decide) rfl (show wr N (f + 0) < 6 by omega) (Or.inl rfl) dX4_operate_82 (fun zM7 H locs ezM7 hR hS => ?_)
    refine lv_iload_n C.1 C.2.1 dX4_operate_83 rfl (lv_at hl 2 rfl) ?_
    refine lv_if_lt (tgt := 125) C.1 C.2.1 dX4_operate_84 (by decide) (fun c84 => ?_) (fun c84 => ?_)
    · skip
      refine lv_iconst (v := nI 1) C.1 C.2.1 dX4_operate_125 (by decide) ?_
      refine lv_goto (tgt := 130) C.1 C.2.1 dX4_operate_126 (by decide) ?_
      refine lv_istore (lv' := [(5, .int (nI 1)), (4, .int (nI (wr N (f + 0)))), (3, .int (nI 0)), (2, .int (-1)), (0, .ref d), (1, .int (nI f))]) C.1 C.2.1 dX4_operate_130 hl (by decide) rfl (fun ls hl => ?_)
      refine lv_aload_n C.1 C.2.1 dX4_operate_132 rfl (lv_at hl 4 rfl) ?_
      refine m_get C hR 30 (by decide) rfl fl_X4_93 (v := .ref (mA d 30)) rfl dX4_operate_133 ?_
      refine lv_iload_n C.1 C.2.1 dX4_operate_136 rfl (lv_at hl 5 rfl) ?_
      refine lv_iload C.1 C.2.1 dX4_operate_137 (lv_at hl 0 rfl) ?_
      refine lv_if_eq (tgt := 146) C.1 C.2.1 dX4_operate_139 (by decide) (fun c139 => ?_) (fun c139 => ?_)
      · skip
        exact absurd c139 (by decide)
      · skip
        refine lv_iload_n C.1 C.2.1 dX4_operate_142 rfl (lv_at hl 2 rfl) ?_
        refine lv_goto (tgt := 152) C.1 C.2.1 dX4_operate_143 (by decide) ?_
        refine mI_st (k := 30) (j := f) C hR hS (by simp only [mAr]; decide) rfl (show f < 6 by omega) dX4_operate_152 (fun zM8 H locs ezM8 hR hS => ?_)
        refine lv_iload C.1 C.2.1 dX4_operate_153 (lv_at hl 0 rfl) ?_
        refine lv_if_eq (tgt := 163) C.1 C.2.1 dX4_operate_155 (by decide) (fun c155 => ?_) (fun c155 => ?_)
        · skip
          exact absurd c155 (by decide)
        · skip
          refine lv_iload C.1 C.2.1 dX4_operate_158 (lv_at hl 1 rfl) ?_
          refine lv_goto (tgt := 164) C.1 C.2.1 dX4_operate_160 (by decide) ?_
          refine lv_istore_n (lv' := [(2, .int (nI (wr N (f + 0)))), (5, .int (nI 1)), (4, .int (nI (wr N (f + 0)))), (3, .int (nI 0)), (0, .ref d), (1, .int (nI f))]) C.1 C.2.1 dX4_operate_164 rfl hl (by decide) rfl (fun ls hl => ?_)
          refine lv_iinc (v := nI 1) (lv' := [(3, .int (nI 1)), (2, .int (nI (wr N (f + 0)))), (5, .int (nI 1)), (4, .int (nI (wr N (f + 0)))), (0, .ref d), (1, .int (nI f))]) C.1 C.2.1 dX4_operate_165 hl (k := 3) rfl (nI_add _ _) (by decide) rfl (fun ls hl => ?_)
          refine lv_goto (tgt := 4) C.1 C.2.1 dX4_operate_168 (by decide) ?_
          have h0 : mop N M f 1 0 = zM8 := by rw [ezM8, ezM7, ezM6, ezM5, ezM4, ezM3, ezM2, ezM1]; rfl
          rw [← h0] at hR
          have lp : ∀ (zn : Nat) (k : Nat) (i : Nat) (w : Nat) (H : Heap) (locs : List Loc) (ls : Array Slot), k < zn → (i + k = L) → (1 ≤ i) → (w < i) → (w < L) → (mwins N M f (L - 1) 1 0 = mwins N M f k i w) → RepM g d N (mop N M f i w) G H → va_S (AM d) zs.heap H locs → lv_has ls 6 [(3, .int (nI i)), (2, .int (nI (wr N (f + w)))), (0, .ref d), (1, .int (nI f))] → W zp l ze (rmk 1 21) zs zm ([.ref d, .int (nI f)] : List Value).toArray zb zt zc H locs 0 0 (MQ zb (QR (RepM g d N (s_X4_leave (mopr N M f L) f (mwins N M f (L - 1) 1 0) L) G) (AM d) none) ([.ref d, .int (nI f)] : List Value).toArray zs 0 0 (AM d)) (F0 zm 4 ls []) := by
            intro zn
            induction zn with
            | zero => intro k i w H locs ls hm; exact absurd hm (Nat.not_lt_zero _)
            | succ zn ih =>
              intro k i w H locs ls hm hk hi1 hw hwL hr2 hR hS hl
              obtain ⟨zM9, ezM9⟩ : ∃ y, y = mop N M f i w := ⟨_, rfl⟩
              rw [← ezM9] at hR
              have hww := wr_lt (N := N) (i := f + w) (by omega)
              have g30 : zM9 30 f = nI w := by rw [ezM9]; exact up2_eq _ _ _ _
              refine lv_iload_n C.1 C.2.1 dX4_operate_4 rfl (lv_at hl 0 rfl) ?_
              refine lv_aload_n C.1 C.2.1 dX4_operate_5 rfl (lv_at hl 2 rfl) ?_
              refine m_get C hR 25 (by decide) rfl fl_X4_78 (v := .ref (mA d 25)) rfl dX4_operate_6 ?_
              refine lv_iload_n C.1 C.2.1 dX4_operate_9 rfl (lv_at hl 3 rfl) ?_
              refine mI_ld (k := 25) (j := f) C hR (by simp only [mAr]; decide) rfl (show f < 6 by omega) dX4_operate_10 ?_
              refine lv_re (y := nI L) (by rw [ezM9, mop_o (by decide) (by decide), h25]) ?_
              refine lv_icmp_ge (tgt := 171) C.1 C.2.1 dX4_operate_11 (by decide) (fun c11 => ?_) (fun c11 => ?_)
              · skip
                have c11 : L ≤ i := (nI_leI (a := L) (b := i) (by omega) (by omega)).mp c11
                refine lv_aload_n C.1 C.2.1 dX4_operate_171 rfl (lv_at hl 2 rfl) ?_
                refine m_get C hR 29 (by decide) rfl fl_X4_90 (v := .ref (mA d 29)) rfl dX4_operate_172 ?_
                refine lv_iload_n C.1 C.2.1 dX4_operate_175 rfl (lv_at hl 3 rfl) ?_
                refine lv_aload_n C.1 C.2.1 dX4_operate_176 rfl (lv_at hl 2 rfl) ?_
                refine m_get C hR 5 (by decide) rfl fl_X4_16 (v := .ref (mA d 5)) rfl dX4_operate_177 ?_
                refine lv_iload_n C.1 C.2.1 dX4_operate_180 rfl (lv_at hl 1 rfl) ?_
                refine mI_ld (k := 5) (j := wr N (f + w)) C hR (by simp only [mAr]; decide) rfl (show wr N (f + w) < 6 by omega) dX4_operate_181 ?_
                refine lv_re (y := M 5 (wr N (f + w))) (by rw [ezM9, mop_o (by decide) (by decide)]) ?_
                refine mI_st (k := 29) (j := f) C hR hS (by simp only [mAr]; decide) rfl (show f < 6 by omega) dX4_operate_182 (fun zM10 H locs ezM10 hR hS => ?_)
                refine lv_aload_n C.1 C.2.1 dX4_operate_183 rfl (lv_at hl 2 rfl) ?_
                refine lv_iload_n C.1 C.2.1 dX4_operate_184 rfl (lv_at hl 3 rfl) ?_
                refine cxV (b := d) (As := [.int (nI f)]) (rest := []) (ci := 4) (q := (RX4, TX4, 36)) C (k_X4_leave l g d N zM10 G hN f (w) L (by omega) (by omega) (by omega) (by rw [ezM10, up2_f (by decide), g30]) (by rw [ezM10, up2_f (by decide), ezM9, mop_o (by decide) (by decide), h25])) cf_X4_leave ml_X4_143 ⟨by decide, by decide⟩ ⟨rfl, rfl⟩ rfl (hR.1) rfl hl.1 rfl (Nat.le_of_ble_eq_true rfl) dX4_operate_185 hR ⟨Nat.zero_le _, Nat.zero_le _⟩ hS (fun _ h => h) (fun H locs hR hS _ _ => ?_)
                obtain ⟨zM11, ezM11⟩ : ∃ y, y = s_X4_leave zM10 f (w) L := ⟨_, rfl⟩
                rw [← ezM11] at hR
                simp only [Option.toList, List.nil_append]
                have hk0 : k = 0 := by omega
                have hiL : i = L := by omega
                have hwv : mwins N M f (L - 1) 1 0 = w := hr2.trans (by rw [hk0]; rfl)
                have hs : s_X4_leave (mopr N M f L) f (mwins N M f (L - 1) 1 0) L = zM11 := by rw [ezM11, ezM10, ezM9, hiL]; unfold mopr; rw [hwv]
                rw [hs]
                exact endv C hr hlk hR hS dX4_operate_188
              · skip
                have c11 : ¬ (L ≤ i) := mt (nI_leI (a := L) (b := i) (by omega) (by omega)).mpr c11
                have hwi := wr_lt (N := N) (i := f + i) (by omega)
                refine lv_aload_n C.1 C.2.1 dX4_operate_14 rfl (lv_at hl 2 rfl) ?_
                refine m_get C hR 26 (by decide) rfl fl_X4_81 (v := .ref (mA d 26)) rfl dX4_operate_15 ?_
                refine lv_bipush (v := nI 6) C.1 C.2.1 dX4_operate_18 (by decide) ?_
                refine lv_iload_n C.1 C.2.1 dX4_operate_20 rfl (lv_at hl 3 rfl) ?_
                refine n_imul (z := 6 * f) C dX4_operate_21 (by omega) ?_
                refine lv_iload_n C.1 C.2.1 dX4_operate_22 rfl (lv_at hl 0 rfl) ?_
                refine n_iadd (z := 6 * f + i) C dX4_operate_23 (by omega) ?_
                refine mI_ld (k := 26) (j := 6 * f + i) C hR (by simp only [mAr]; decide) rfl (show 6 * f + i < 36 by omega) dX4_operate_24 ?_
                refine lv_re (y := nI (wr N (f + i))) (by rw [ezM9, mop_o (by decide) (by decide), hrow i (by omega)]) ?_
                refine lv_istore (lv' := [(4, .int (nI (wr N (f + i)))), (3, .int (nI i)), (2, .int (nI (wr N (f + w)))), (0, .ref d), (1, .int (nI f))]) C.1 C.2.1 dX4_operate_25 hl (by decide) rfl (fun ls hl => ?_)
                refine lv_aload_n C.1 C.2.1 dX4_operate_27 rfl (lv_at hl 3 rfl) ?_
                refine m_get C hR 7 (by decide) rfl fl_X4_23 (v := .ref (mA d 7)) rfl dX4_operate_28 ?_
                refine lv_iload C.1 C.2.1 dX4_operate_31 (lv_at hl 0 rfl) ?_
                refine lv_iconst (v := nI 0) C.1 C.2.1 dX4_operate_33 (by decide) ?_
                refine mI_st (k := 7) (j := wr N (f + i)) C hR hS (by simp only [mAr]; decide) rfl (show wr N (f + i) < 6 by omega) dX4_operate_34 (fun zM12 H locs ezM12 hR hS => ?_)
                refine lv_aload_n C.1 C.2.1 dX4_operate_35 rfl (lv_at hl 3 rfl) ?_
                refine m_get C hR 8 (by decide) rfl fl_X4_26 (v := .ref (mA d 8)) rfl dX4_operate_36 ?_
                refine lv_iload C.1 C.2.1 dX4_operate_39 (lv_at hl 0 rfl) ?_
                refine lv_iconst (v := nI 0) C.1 C.2.1 dX4_operate_41 (by decide) ?_
                refine mI_st (k := 8) (j := wr N (f + i)) C hR hS (by simp only [mAr]; decide) rfl (show wr N (f + i) < 6 by omega) dX4_operate_42 (fun zM13 H locs ezM13 hR hS => ?_)
                refine lv_aload_n C.1 C.2.1 dX4_operate_43 rfl (lv_at hl 3 rfl) ?_
                refine m_get C hR 9 (by decide) rfl fl_X4_29 (v := .ref (mA d 9)) rfl dX4_operate_44 ?_
                refine lv_iload C.1 C.2.1 dX4_operate_47 (lv_at hl 0 rfl) ?_
                refine lv_iconst (v := nI 0) C.1 C.2.1 dX4_operate_49 (by decide) ?_
                refine mI_st (k := 9) (j := wr N (f + i)) C hR hS (by simp only [mAr]; decide) rfl (show wr N (f + i) < 6 by omega) dX4_operate_50 (fun zM14 H locs ezM14 hR hS => ?_)
                refine lv_aload_n C.1 C.2.1 dX4_operate_51 rfl (lv_at hl 3 rfl) ?_
                refine m_get C hR 10 (by decide) rfl fl_X4_32 (v := .ref (mA d 10)) rfl dX4_operate_52 ?_
                refine lv_iload C.1 C.2.1 dX4_operate_55 (lv_at hl 0 rfl) ?_
                refine lv_iconst (v := nI 0) C.1 C.2.1 dX4_operate_57 (by decide) ?_
                refine mI_st (k := 10) (j := wr N (f + i)) C hR hS (by simp only [mAr]; decide) rfl (show wr N (f + i) < 6 by omega) dX4_operate_58 (fun zM15 H locs ezM15 hR hS => ?_)
                refine lv_aload_n C.1 C.2.1 dX4_operate_59 rfl (lv_at hl 3 rfl) ?_
                refine m_get C hR 11 (by decide) rfl fl_X4_35 (v := .ref (mA d 11)) rfl dX4_operate_60 ?_
                refine lv_iload C.1 C.2.1 dX4_operate_63 (lv_at hl 0 rfl) ?_
                refine lv_iconst (v := nI 0) C.1 C.2.1 dX4_operate_65 (by decide) ?_
                refine mI_st (k := 11) (j := wr N (f + i)) C hR hS (by simp only [mAr]; decide) rfl (show wr N (f + i) < 6 by omega) dX4_operate_66 (fun zM16 H locs ezM16 hR hS => ?_)
                refine lv_aload_n C.1 C.2.1 dX4_operate_67 rfl (lv_at hl 3 rfl) ?_
                refine m_get C hR 12 (by decide) rfl fl_X4_38 (v := .ref (mA d 12)) rfl dX4_operate_68 ?_
                refine lv_iload C.1 C.2.1 dX4_operate_71 (lv_at hl 0 rfl) ?_
                refine lv_iconst (v := nI 0) C.1 C.2.1 dX4_operate_73 (by decide) ?_
                refine mZ_st (k := 12) (j := wr N (f + i)) C hR hS (by simp only [mAr]; decide) rfl (show wr N (f + i) < 6 by omega) (Or.inl rfl) dX4_operate_74 (fun zM17 H locs ezM17 hR hS => ?_)
                refine lv_aload_n C.1 C.2.1 dX4_operate_75 rfl (lv_at hl 3 rfl) ?_
                refine m_get C hR 13 (by decide) rfl fl_X4_41 (v := .ref (mA d 13)) rfl dX4_operate_76 ?_
                refine lv_iload C.1 C.2.1 dX4_operate_79 (lv_at hl 0 rfl) ?_
                refine lv_iconst (v := nI 0) C.1 C.2.1 dX4_operate_81 (by decide) ?_
                refine mZ_st (k := 13) (j := wr N (f + i)) C hR hS (by simp only [mAr]; decide) rfl (show wr N (f + i) < 6 by omega) (Or.inl rfl) dX4_operate_82 (fun zM18 H locs ezM18 hR hS => ?_)
                refine lv_iload_n C.1 C.2.1 dX4_operate_83 rfl (lv_at hl 2 rfl) ?_
                refine lv_if_lt (tgt := 125) C.1 C.2.1 dX4_operate_84 (by decide) (fun c84 => ?_) (fun c84 => ?_)
                · skip
                  exact absurd c84 (nI_pos (by omega))
                · skip
                  have c84 : ¬ (wr N (f + w) < 0) := mt (nI_ltI (a := wr N (f + w)) (b := 0) (by omega) (by omega)).mpr c84
                  refine lv_aload_n C.1 C.2.1 dX4_operate_87 rfl (lv_at hl 3 rfl) ?_
                  refine m_get C hR 5 (by decide) rfl fl_X4_16 (v := .ref (mA d 5)) rfl dX4_operate_88 ?_
                  refine lv_iload C.1 C.2.1 dX4_operate_91 (lv_at hl 0 rfl) ?_
                  refine mI_ld (k := 5) (j := wr N (f + i)) C hR (by simp only [mAr]; decide) rfl (show wr N (f + i) < 6 by omega) dX4_operate_93 ?_
                  refine lv_re (y := M 5 (wr N (f + i))) (by rw [ezM18, up2_f (by decide), ezM17, up2_f (by decide), ezM16, up2_f (by decide), ezM15, up2_f (by decide), ezM14, up2_f (by decide), ezM13, up2_f (by decide), ezM12, up2_f (by decide), ezM9, mop_o (by decide) (by decide)]) ?_
                  refine lv_aload_n C.1 C.2.1 dX4_operate_94 rfl (lv_at hl 3 rfl) ?_
                  refine m_get C hR 5 (by decide) rfl fl_X4_16 (v := .ref (mA d 5)) rfl dX4_operate_95 ?_
                  refine lv_iload_n C.1 C.2.1 dX4_operate_98 rfl (lv_at hl 2 rfl) ?_
                  refine mI_ld (k := 5) (j := wr N (f + w)) C hR (by simp only [mAr]; decide) rfl (show wr N (f + w) < 6 by omega) dX4_operate_99 ?_
                  refine lv_re (y := M 5 (wr N (f + w))) (by rw [ezM18, up2_f (by decide), ezM17, up2_f (by decide), ezM16, up2_f (by decide), ezM15, up2_f (by decide), ezM14, up2_f (by decide), ezM13, up2_f (by decide), ezM12, up2_f (by decide), ezM9, mop_o (by decide) (by decide)]) ?_
                  refine lv_icmp_lt (tgt := 125) C.1 C.2.1 dX4_operate_100 (by decide) (fun c100 => ?_) (fun c100 => ?_)
                  · skip
                    refine lv_iconst (v := nI 1) C.1 C.2.1 dX4_operate_125 (by decide) ?_
                    refine lv_goto (tgt := 130) C.1 C.2.1 dX4_operate_126 (by decide) ?_
                    refine lv_istore (lv' := [(5, .int (nI 1)), (4, .int (nI (wr N (f + i)))), (3, .int (nI i)), (2, .int (nI (wr N (f + w)))), (0, .ref d), (1, .int (nI f))]) C.1 C.2.1 dX4_operate_130 hl (by decide) rfl (fun ls hl => ?_)
                    refine lv_aload_n C.1 C.2.1 dX4_operate_132 rfl (lv_at hl 4 rfl) ?_
                    refine m_get C hR 30 (by decide) rfl fl_X4_93 (v := .ref (mA d 30)) rfl dX4_operate_133 ?_
                    refine lv_iload_n C.1 C.2.1 dX4_operate_136 rfl (lv_at hl 5 rfl) ?_
                    refine lv_iload C.1 C.2.1 dX4_operate_137 (lv_at hl 0 rfl) ?_
                    refine lv_if_eq (tgt := 146) C.1 C.2.1 dX4_operate_139 (by decide) (fun c139 => ?_) (fun c139 => ?_)
                    · skip
                      exact absurd c139 (by decide)
                    · skip
                      refine lv_iload_n C.1 C.2.1 dX4_operate_142 rfl (lv_at hl 2 rfl) ?_
                      refine lv_goto (tgt := 152) C.1 C.2.1 dX4_operate_143 (by decide) ?_
                      refine mI_st (k := 30) (j := f) C hR hS (by simp only [mAr]; decide) rfl (show f < 6 by omega) dX4_operate_152 (fun zM19 H locs ezM19 hR hS => ?_)
                      refine lv_iload C.1 C.2.1 dX4_operate_153 (lv_at hl 0 rfl) ?_
                      refine lv_if_eq (tgt := 163) C.1 C.2.1 dX4_operate_155 (by decide) (fun c155 => ?_) (fun c155 => ?_)
                      · skip
                        exact absurd c155 (by decide)
                      · skip
                        refine lv_iload C.1 C.2.1 dX4_operate_158 (lv_at hl 1 rfl) ?_
                        refine lv_goto (tgt := 164) C.1 C.2.1 dX4_operate_160 (by decide) ?_
                        refine lv_istore_n (lv' := [(2, .int (nI (wr N (f + i)))), (5, .int (nI 1)), (4, .int (nI (wr N (f + i)))), (3, .int (nI i)), (0, .ref d), (1, .int (nI f))]) C.1 C.2.1 dX4_operate_164 rfl hl (by decide) rfl (fun ls hl => ?_)
                        refine lv_iinc (v := nI (i + 1)) (lv' := [(3, .int (nI (i + 1))), (2, .int (nI (wr N (f + i)))), (5, .int (nI 1)), (4, .int (nI (wr N (f + i)))), (0, .ref d), (1, .int (nI f))]) C.1 C.2.1 dX4_operate_165 hl (k := 3) rfl (nI_add _ _) (by decide) rfl (fun ls hl => ?_)
                        refine lv_goto (tgt := 4) C.1 C.2.1 dX4_operate_168 (by decide) ?_
                        obtain ⟨k, rfl⟩ : ∃ k2, k = k2 + 1 := ⟨k - 1, by omega⟩
                        have hb : mwins N M f (k + 1) i w = mwins N M f k (i + 1) i := congrArg (mwins N M f k (i + 1)) (if_pos (by first | exact Or.inl c100 | exact Or.inr ⟨c116, by omega⟩))
                        have hb2 : mop N M f (i + 1) i = zM19 := by rw [ezM19, ezM18, ezM17, ezM16, ezM15, ezM14, ezM13, ezM12, ezM9]; exact mop_step.symm
                        rw [← hb2] at hR
                        exact ih k (i + 1) i H locs ls (by omega) (by omega) (by omega) (by omega) (by omega) (hr2.trans hb) hR hS (lv_sub hl [0, 1, 4, 5] rfl)
                  · skip
                    refine lv_aload_n C.1 C.2.1 dX4_operate_103 rfl (lv_at hl 3 rfl) ?_
                    refine m_get C hR 5 (by decide) rfl fl_X4_16 (v := .ref (mA d 5)) rfl dX4_operate_104 ?_
                    refine lv_iload C.1 C.2.1 dX4_operate_107 (lv_at hl 0 rfl) ?_
                    refine mI_ld (k := 5) (j := wr N (f + i)) C hR (by simp only [mAr]; decide) rfl (show wr N (f + i) < 6 by omega) dX4_operate_109 ?_
                    refine lv_re (y := M 5 (wr N (f + i))) (by rw [ezM18, up2_f (by decide), ezM17, up2_f (by decide), ezM16, up2_f (by decide), ezM15, up2_f (by decide), ezM14, up2_f (by decide), ezM13, up2_f (by decide), ezM12, up2_f (by decide), ezM9, mop_o (by decide) (by decide)]) ?_
                    refine lv_aload_n C.1 C.2.1 dX4_operate_110 rfl (lv_at hl 3 rfl) ?_
                    refine m_get C hR 5 (by decide) rfl fl_X4_16 (v := .ref (mA d 5)) rfl dX4_operate_111 ?_
                    refine lv_iload_n C.1 C.2.1 dX4_operate_114 rfl (lv_at hl 2 rfl) ?_
                    refine mI_ld (k := 5) (j := wr N (f + w)) C hR (by simp only [mAr]; decide) rfl (show wr N (f + w) < 6 by omega) dX4_operate_115 ?_
                    refine lv_re (y := M 5 (wr N (f + w))) (by rw [ezM18, up2_f (by decide), ezM17, up2_f (by decide), ezM16, up2_f (by decide), ezM15, up2_f (by decide), ezM14, up2_f (by decide), ezM13, up2_f (by decide), ezM12, up2_f (by decide), ezM9, mop_o (by decide) (by decide)]) ?_
                    refine lv_icmp_ne (tgt := 129) C.1 C.2.1 dX4_operate_116 (by decide) (fun c116 => ?_) (fun c116 => ?_)
                    · skip
                      refine lv_iconst (v := nI 0) C.1 C.2.1 dX4_operate_129 (by decide) ?_
                      refine lv_istore (lv' := [(5, .int (nI 0)), (4, .int (nI (wr N (f + i)))), (3, .int (nI i)), (2, .int (nI (wr N (f + w)))), (0, .ref d), (1, .int (nI f))]) C.1 C.2.1 dX4_operate_130 hl (by decide) rfl (fun ls hl => ?_)
                      refine lv_aload_n C.1 C.2.1 dX4_operate_132 rfl (lv_at hl 4 rfl) ?_
                      refine m_get C hR 30 (by decide) rfl fl_X4_93 (v := .ref (mA d 30)) rfl dX4_operate_133 ?_
                      refine lv_iload_n C.1 C.2.1 dX4_operate_136 rfl (lv_at hl 5 rfl) ?_
                      refine lv_iload C.1 C.2.1 dX4_operate_137 (lv_at hl 0 rfl) ?_
                      refine lv_if_eq (tgt := 146) C.1 C.2.1 dX4_operate_139 (by decide) (fun c139 => ?_) (fun c139 => ?_)
                      · skip
                        refine lv_aload_n C.1 C.2.1 dX4_operate_146 rfl (lv_at hl 4 rfl) ?_
                        refine m_get C hR 30 (by decide) rfl fl_X4_93 (v := .ref (mA d 30)) rfl dX4_operate_147 ?_
                        refine lv_iload_n C.1 C.2.1 dX4_operate_150 rfl (lv_at hl 5 rfl) ?_
                        refine mI_ld (k := 30) (j := f) C hR (by simp only [mAr]; decide) rfl (show f < 6 by omega) dX4_operate_151 ?_
                        refine lv_re (y := nI w) (by rw [ezM18, up2_f (by decide), ezM17, up2_f (by decide), ezM16, up2_f (by decide), ezM15, up2_f (by decide), ezM14, up2_f (by decide), ezM13, up2_f (by decide), ezM12, up2_f (by decide), g30]) ?_
                        refine mI_st (k := 30) (j := f) C hR hS (by simp only [mAr]; decide) rfl (show f < 6 by omega) dX4_operate_152 (fun zM20 H locs ezM20 hR hS => ?_)
                        refine lv_iload C.1 C.2.1 dX4_operate_153 (lv_at hl 0 rfl) ?_
                        refine lv_if_eq (tgt := 163) C.1 C.2.1 dX4_operate_155 (by decide) (fun c155 => ?_) (fun c155 => ?_)
                        · skip
                          refine lv_iload_n C.1 C.2.1 dX4_operate_163 rfl (lv_at hl 3 rfl) ?_
                          refine lv_istore_n (lv' := [(2, .int (nI (wr N (f + w)))), (5, .int (nI 0)), (4, .int (nI (wr N (f + i)))), (3, .int (nI i)), (0, .ref d), (1, .int (nI f))]) C.1 C.2.1 dX4_operate_164 rfl hl (by decide) rfl (fun ls hl => ?_)
                          refine lv_iinc (v := nI (i + 1)) (lv' := [(3, .int (nI (i + 1))), (2, .int (nI (wr N (f + w)))), (5, .int (nI 0)), (4, .int (nI (wr N (f + i)))), (0, .ref d), (1, .int (nI f))]) C.1 C.2.1 dX4_operate_165 hl (k := 3) rfl (nI_add _ _) (by decide) rfl (fun ls hl => ?_)
                          refine lv_goto (tgt := 4) C.1 C.2.1 dX4_operate_168 (by decide) ?_
                          obtain ⟨k, rfl⟩ : ∃ k2, k = k2 + 1 := ⟨k - 1, by omega⟩
                          have hb : mwins N M f (k + 1) i w = mwins N M f k (i + 1) w := congrArg (mwins N M f k (i + 1)) (if_neg (by intro h; rcases h with h | ⟨h1, h2⟩; exact c100 h; first | exact c116 h1 | omega))
                          have hb2 : mop N M f (i + 1) w = zM20 := by rw [ezM20, ezM18, ezM17, ezM16, ezM15, ezM14, ezM13, ezM12, ezM9]; exact mop_step.symm
                          rw [← hb2] at hR
                          exact ih k (i + 1) w H locs ls (by omega) (by omega) (by omega) (by omega) (by omega) (hr2.trans hb) hR hS (lv_sub hl [0, 1, 4, 5] rfl)
                        · skip
                          exact absurd c155 (by decide)
                      · skip
                        exact absurd c139 (by decide)
                    · skip
                      refine lv_iload C.1 C.2.1 dX4_operate_119 (lv_at hl 0 rfl) ?_
                      refine lv_iload_n C.1 C.2.1 dX4_operate_121 rfl (lv_at hl 2 rfl) ?_
                      refine lv_icmp_le (tgt := 129) C.1 C.2.1 dX4_operate_122 (by decide) (fun c122 => ?_) (fun c122 => ?_)
                      · skip
                        have c122 : wr N (f + i) ≤ wr N (f + w) := (nI_leI (a := wr N (f + i)) (b := wr N (f + w)) (by omega) (by omega)).mp c122
                        refine lv_iconst (v := nI 0) C.1 C.2.1 dX4_operate_129 (by decide) ?_
                        refine lv_istore (lv' := [(5, .int (nI 0)), (4, .int (nI (wr N (f + i)))), (3, .int (nI i)), (2, .int (nI (wr N (f + w)))), (0, .ref d), (1, .int (nI f))]) C.1 C.2.1 dX4_operate_130 hl (by decide) rfl (fun ls hl => ?_)
                        refine lv_aload_n C.1 C.2.1 dX4_operate_132 rfl (lv_at hl 4 rfl) ?_
                        refine m_get C hR 30 (by decide) rfl fl_X4_93 (v := .ref (mA d 30)) rfl dX4_operate_133 ?_
                        refine lv_iload_n C.1 C.2.1 dX4_operate_136 rfl (lv_at hl 5 rfl) ?_
                        refine lv_iload C.1 C.2.1 dX4_operate_137 (lv_at hl 0 rfl) ?_
                        refine lv_if_eq (tgt := 146) C.1 C.2.1 dX4_operate_139 (by decide) (fun c139 => ?_) (fun c139 => ?_)
                        · skip
                          refine lv_aload_n C.1 C.2.1 dX4_operate_146 rfl (lv_at hl 4 rfl) ?_
                          refine m_get C hR 30 (by decide) rfl fl_X4_93 (v := .ref (mA d 30)) rfl dX4_operate_147 ?_
                          refine lv_iload_n C.1 C.2.1 dX4_operate_150 rfl (lv_at hl 5 rfl) ?_
                          refine mI_ld (k := 30) (j := f) C hR (by simp only [mAr]; decide) rfl (show f < 6 by omega) dX4_operate_151 ?_
                          refine lv_re (y := nI w) (by rw [ezM18, up2_f (by decide), ezM17, up2_f (by decide), ezM16, up2_f (by decide), ezM15, up2_f (by decide), ezM14, up2_f (by decide), ezM13, up2_f (by decide), ezM12, up2_f (by decide), g30]) ?_
                          refine mI_st (k := 30) (j := f) C hR hS (by simp only [mAr]; decide) rfl (show f < 6 by omega) dX4_operate_152 (fun zM21 H locs ezM21 hR hS => ?_)
                          refine lv_iload C.1 C.2.1 dX4_operate_153 (lv_at hl 0 rfl) ?_
                          refine lv_if_eq (tgt := 163) C.1 C.2.1 dX4_operate_155 (by decide) (fun c155 => ?_) (fun c155 => ?_)
                          · skip
                            refine lv_iload_n C.1 C.2.1 dX4_operate_163 rfl (lv_at hl 3 rfl) ?_
                            refine lv_istore_n (lv' := [(2, .int (nI (wr N (f + w)))), (5, .int (nI 0)), (4, .int (nI (wr N (f + i)))), (3, .int (nI i)), (0, .ref d), (1, .int (nI f))]) C.1 C.2.1 dX4_operate_164 rfl hl (by decide) rfl (fun ls hl => ?_)
                            refine lv_iinc (v := nI (i + 1)) (lv' := [(3, .int (nI (i + 1))), (2, .int (nI (wr N (f + w)))), (5, .int (nI 0)), (4, .int (nI (wr N (f + i)))), (0, .ref d), (1, .int (nI f))]) C.1 C.2.1 dX4_operate_165 hl (k := 3) rfl (nI_add _ _) (by decide) rfl (fun ls hl => ?_)
                            refine lv_goto (tgt := 4) C.1 C.2.1 dX4_operate_168 (by decide) ?_
                            obtain ⟨k, rfl⟩ : ∃ k2, k = k2 + 1 := ⟨k - 1, by omega⟩
                            have hb : mwins N M f (k + 1) i w = mwins N M f k (i + 1) w := congrArg (mwins N M f k (i + 1)) (if_neg (by intro h; rcases h with h | ⟨h1, h2⟩; exact c100 h; first | exact c116 h1 | omega))
                            have hb2 : mop N M f (i + 1) w = zM21 := by rw [ezM21, ezM18, ezM17, ezM16, ezM15, ezM14, ezM13, ezM12, ezM9]; exact mop_step.symm
                            rw [← hb2] at hR
                            exact ih k (i + 1) w H locs ls (by omega) (by omega) (by omega) (by omega) (by omega) (hr2.trans hb) hR hS (lv_sub hl [0, 1, 4, 5] rfl)
                          · skip
                            exact absurd c155 (by decide)
                        · skip
                          exact absurd c139 (by decide)
                      · skip
                        have c122 : ¬ (wr N (f + i) ≤ wr N (f + w)) := mt (nI_leI (a := wr N (f + i)) (b := wr N (f + w)) (by omega) (by omega)).mpr c122
                        refine lv_iconst (v := nI 1) C.1 C.2.1 dX4_operate_125 (by decide) ?_
                        refine lv_goto (tgt := 130) C.1 C.2.1 dX4_operate_126 (by decide) ?_
                        refine lv_istore (lv' := [(5, .int (nI 1)), (4, .int (nI (wr N (f + i)))), (3, .int (nI i)), (2, .int (nI (wr N (f + w)))), (0, .ref d), (1, .int (nI f))]) C.1 C.2.1 dX4_operate_130 hl (by decide) rfl (fun ls hl => ?_)
                        refine lv_aload_n C.1 C.2.1 dX4_operate_132 rfl (lv_at hl 4 rfl) ?_
                        refine m_get C hR 30 (by decide) rfl fl_X4_93 (v := .ref (mA d 30)) rfl dX4_operate_133 ?_
                        refine lv_iload_n C.1 C.2.1 dX4_operate_136 rfl (lv_at hl 5 rfl) ?_
                        refine lv_iload C.1 C.2.1 dX4_operate_137 (lv_at hl 0 rfl) ?_
                        refine lv_if_eq (tgt := 146) C.1 C.2.1 dX4_operate_139 (by decide) (fun c139 => ?_) (fun c139 => ?_)
                        · skip
                          exact absurd c139 (by decide)
                        · skip
                          refine lv_iload_n C.1 C.2.1 dX4_operate_142 rfl (lv_at hl 2 rfl) ?_
                          refine lv_goto (tgt := 152) C.1 C.2.1 dX4_operate_143 (by decide) ?_
                          refine mI_st (k := 30) (j := f) C hR hS (by simp only [mAr]; decide) rfl (show f < 6 by omega) dX4_operate_152 (fun zM22 H locs ezM22 hR hS => ?_)
                          refine lv_iload C.1 C.2.1 dX4_operate_153 (lv_at hl 0 rfl) ?_
                          refine lv_if_eq (tgt := 163) C.1 C.2.1 dX4_operate_155 (by decide) (fun c155 => ?_) (fun c155 => ?_)
                          · skip
                            exact absurd c155 (by decide)
                          · skip
                            refine lv_iload C.1 C.2.1 dX4_operate_158 (lv_at hl 1 rfl) ?_
                            refine lv_goto (tgt := 164) C.1 C.2.1 dX4_operate_160 (by decide) ?_
                            refine lv_istore_n (lv' := [(2, .int (nI (wr N (f + i)))), (5, .int (nI 1)), (4, .int (nI (wr N (f + i)))), (3, .int (nI i)), (0, .ref d), (1, .int (nI f))]) C.1 C.2.1 dX4_operate_164 rfl hl (by decide) rfl (fun ls hl => ?_)
                            refine lv_iinc (v := nI (i + 1)) (lv' := [(3, .int (nI (i + 1))), (2, .int (nI (wr N (f + i)))), (5, .int (nI 1)), (4, .int (nI (wr N (f + i)))), (0, .ref d), (1, .int (nI f))]) C.1 C.2.1 dX4_operate_165 hl (k := 3) rfl (nI_add _ _) (by decide) rfl (fun ls hl => ?_)
                            refine lv_goto (tgt := 4) C.1 C.2.1 dX4_operate_168 (by decide) ?_
                            obtain ⟨k, rfl⟩ : ∃ k2, k = k2 + 1 := ⟨k - 1, by omega⟩
                            have hb : mwins N M f (k + 1) i w = mwins N M f k (i + 1) i := congrArg (mwins N M f k (i + 1)) (if_pos (by first | exact Or.inl c100 | exact Or.inr ⟨c116, by omega⟩))
                            have hb2 : mop N M f (i + 1) i = zM22 := by rw [ezM22, ezM18, ezM17, ezM16, ezM15, ezM14, ezM13, ezM12, ezM9]; exact mop_step.symm
                            rw [← hb2] at hR
                            exact ih k (i + 1) i H locs ls (by omega) (by omega) (by omega) (by omega) (by omega) (hr2.trans hb) hR hS (lv_sub hl [0, 1, 4, 5] rfl)
          exact lp _ (L - 1) 1 0 _ _ ls (Nat.lt_succ_self _) (by omega) (by omega) (by omega) (by omega) rfl hR hS (lv_sub hl [0, 1, 4, 5] rfl)
    · skip
      exact absurd c84 (by decide)

