def mag (M : SX) (j : Nat) (T : Int32) : SX := if M 7 j + nI 1 = T then up2 (up2 (up2 (up2 M 11 j (M 11 j + nI 1)) 7 j (M 7 j + nI 1)) 7 j (nI 0)) 8 j (M 8 j + nI 1) else up2 (up2 M 11 j (M 11 j + nI 1)) 7 j (M 7 j + nI 1)
theorem mag_o {M : SX} {j g k : Nat} {T : Int32} (h : g ≠ 7) (h1 : g ≠ 8) (h2 : g ≠ 11) : mag M j T g k = M g k := by
  unfold mag
  split
  · rw [up2_f h1, up2_f h, up2_f h, up2_f h2]
  · rw [up2_f h, up2_f h2]
def maS (N f : Nat) (T : Int32) : Nat → Nat → SX → SX
  | 0, _, M => M
  | n + 1, i, M => if M 7 (wr N (f + i)) + nI 1 = T ∧ M 8 (wr N (f + i)) + nI 1 = nI 2 then mag M (wr N (f + i)) T else maS N f T n (i + 1) (mag M (wr N (f + i)) T)
def maB (N f : Nat) (T : Int32) : Nat → Nat → SX → Bool
  | 0, _, _ => false
  | n + 1, i, M => if M 7 (wr N (f + i)) + nI 1 = T ∧ M 8 (wr N (f + i)) + nI 1 = nI 2 then true else maB N f T n (i + 1) (mag M (wr N (f + i)) T)
theorem maS_o {N f : Nat} {T : Int32} {g k : Nat} (h : g ≠ 7) (h1 : g ≠ 8) (h2 : g ≠ 11) : ∀ (n i : Nat) (M : SX), maS N f T n i M g k = M g k := by
  intro n
  induction n with
  | zero => intro i M; rfl
  | succ n ih =>
    intro i M
    simp only [maS]
    split
    · exact mag_o h h1 h2
    · rw [ih, mag_o h h1 h2]
set_option maxHeartbeats 4000000 in
set_option maxRecDepth 100000 in
theorem k_X4_age (l : Launch) (g : GX) (d N : Nat) (M : SX) (G : FX) (hN : N ≤ 6) (f p L : Nat) (hf : f < N) (hp : p < L) (hL : L ≤ N) (h30 : M 30 f = nI p) (h25 : M 25 f = nI L) (hrow : ∀ k, k < L → M 26 (6 * f + k) = nI (wr N (f + k))) : MR l yX4_age (.code yX4_age cX4_age 4 (some .boolean) :: tb) (rmk 0 0) g (RepM g d N M G) (RepM g d N (maS N f (M 29 f) L 0 M) G) (AM d) [.ref d, .int (nI f)] (some (.int (bI (maB N f (M 29 f) L 0 M)))) := by
  refine MR.start RX4 (by decide) rfl (Nat.le_of_ble_eq_true rfl) (fun zp ze zs zm zb zt zc ls C hr hlk hR hS hl => ?_)
  have hl : lv_has ls 4 [(0, .ref d), (1, .int (nI f))] := hl
  refine lv_iconst (v := nI 0) C.1 C.2.1 dX4_age_0 (by decide) ?_
  refine lv_istore_n (lv' := [(2, .int (nI 0)), (0, .ref d), (1, .int (nI f))]) C.1 C.2.1 dX4_age_1 rfl hl (by decide) rfl (fun ls hl => ?_)
  have lp : ∀ (zn : Nat) (k : Nat) (i : Nat) (U : SX) (H : Heap) (locs : List Loc) (ls : Array Slot), k < zn → (i + k = L) → (maS N f (M 29 f) L 0 M = maS N f (M 29 f) k i U) → (maB N f (M 29 f) L 0 M = maB N f (M 29 f) k i U) → (U 25 f = nI L) → (∀ k, k < L → U 26 (6 * f + k) = nI (wr N (f + k))) → (U 29 f = M 29 f) → RepM g d N U G H → va_S (AM d) zs.heap H locs → lv_has ls 4 [(2, .int (nI i)), (0, .ref d), (1, .int (nI f))] → W zp l ze (rmk 0 0) zs zm ([.ref d, .int (nI f)] : List Value).toArray zb zt zc H locs 0 0 (MQ zb (QR (RepM g d N (maS N f (M 29 f) L 0 M) G) (AM d) (some (.int (bI (maB N f (M 29 f) L 0 M))))) ([.ref d, .int (nI f)] : List Value).toArray zs 0 0 (AM d)) (F0 zm 2 ls []) := by
    intro zn
    induction zn with
    | zero => intro k i U H locs ls hm; exact absurd hm (Nat.not_lt_zero _)
    | succ zn ih =>
      intro k i U H locs ls hm hk hr1 hr2 u25 u26 u29 hR hS hl
      obtain ⟨zM1, ezM1⟩ : ∃ y, y = U := ⟨_, rfl⟩
      rw [← ezM1] at hR
      have g25 : zM1 25 f = nI L := by rw [ezM1]; exact u25
      have g29 : zM1 29 f = M 29 f := by rw [ezM1]; exact u29
      have g26 : ∀ k, k < L → zM1 26 (6 * f + k) = nI (wr N (f + k)) := by rw [ezM1]; exact u26
      refine lv_iload_n C.1 C.2.1 dX4_age_2 rfl (lv_at hl 0 rfl) ?_
      refine lv_aload_n C.1 C.2.1 dX4_age_3 rfl (lv_at hl 1 rfl) ?_
      refine m_get C hR 25 (by decide) rfl fl_X4_78 (v := .ref (mA d 25)) rfl dX4_age_4 ?_
      refine lv_iload_n C.1 C.2.1 dX4_age_7 rfl (lv_at hl 2 rfl) ?_
      refine mI_ld (k := 25) (j := f) C hR (by simp only [mAr]; decide) rfl (show f < 6 by omega) dX4_age_8 ?_
      refine lv_re (y := nI L) (by rw [g25]) ?_
      refine lv_icmp_ge (tgt := 106) C.1 C.2.1 dX4_age_9 (by decide) (fun c9 => ?_) (fun c9 => ?_)
      · skip
        have c9 : L ≤ i := (nI_leI (a := L) (b := i) (by omega) (by omega)).mp c9
        refine lv_iconst (v := nI 0) C.1 C.2.1 dX4_age_106 (by decide) ?_
        have hk0 : k = 0 := by omega
        subst hk0
        have hs : maS N f (M 29 f) L 0 M = zM1 := hr1.trans ezM1.symm
        rw [hs]
        have hv : bI (maB N f (M 29 f) L 0 M) = nI 0 := by rw [hr2]; rfl
        rw [hv]
        exact endz C hr hlk (Or.inl rfl) hR hS dX4_age_107
      · skip
        have c9 : ¬ (L ≤ i) := mt (nI_leI (a := L) (b := i) (by omega) (by omega)).mpr c9
        have hwi := wr_lt (N := N) (i := f + i) (by omega)
        refine lv_aload_n C.1 C.2.1 dX4_age_12 rfl (lv_at hl 1 rfl) ?_
        refine m_get C hR 26 (by decide) rfl fl_X4_81 (v := .ref (mA d 26)) rfl dX4_age_13 ?_
        refine lv_bipush (v := nI 6) C.1 C.2.1 dX4_age_16 (by decide) ?_
        refine lv_iload_n C.1 C.2.1 dX4_age_18 rfl (lv_at hl 2 rfl) ?_
        refine n_imul (z := 6 * f) C dX4_age_19 (by omega) ?_
        refine lv_iload_n C.1 C.2.1 dX4_age_20 rfl (lv_at hl 0 rfl) ?_
        refine n_iadd (z := 6 * f + i) C dX4_age_21 (by omega) ?_
        refine mI_ld (k := 26) (j := 6 * f + i) C hR (by simp only [mAr]; decide) rfl (show 6 * f + i < 36 by omega) dX4_age_22 ?_
        refine lv_re (y := nI (wr N (f + i))) (by rw [g26 i (by omega)]) ?_
        refine lv_istore_n (lv' := [(3, .int (nI (wr N (f + i)))), (2, .int (nI i)), (0, .ref d), (1, .int (nI f))]) C.1 C.2.1 dX4_age_23 rfl hl (by decide) rfl (fun ls hl => ?_)
        refine lv_aload_n C.1 C.2.1 dX4_age_24 rfl (lv_at hl 2 rfl) ?_
        refine m_get C hR 11 (by decide) rfl fl_X4_35 (v := .ref (mA d 11)) rfl dX4_age_25 ?_
        refine lv_iload_n C.1 C.2.1 dX4_age_28 rfl (lv_at hl 0 rfl) ?_
        refine lv_aload_n C.1 C.2.1 dX4_age_29 rfl (lv_at hl 2 rfl) ?_
        refine m_get C hR 11 (by decide) rfl fl_X4_35 (v := .ref (mA d 11)) rfl dX4_age_30 ?_
        refine lv_iload_n C.1 C.2.1 dX4_age_33 rfl (lv_at hl 0 rfl) ?_
        refine mI_ld (k := 11) (j := wr N (f + i)) C hR (by simp only [mAr]; decide) rfl (show wr N (f + i) < 6 by omega) dX4_age_34 ?_
        refine lv_iconst (v := nI 1) C.1 C.2.1 dX4_age_35 (by decide) ?_
        refine lv_iadd C.1 C.2.1 dX4_age_36 ?_
        refine mI_st (k := 11) (j := wr N (f + i)) C hR hS (by simp only [mAr]; decide) rfl (show wr N (f + i) < 6 by omega) dX4_age_37 (fun zM2 H locs ezM2 hR hS => ?_)
        refine lv_aload_n C.1 C.2.1 dX4_age_38 rfl (lv_at hl 2 rfl) ?_
        refine m_get C hR 7 (by decide) rfl fl_X4_23 (v := .ref (mA d 7)) rfl dX4_age_39 ?_
        refine lv_iload_n C.1 C.2.1 dX4_age_42 rfl (lv_at hl 0 rfl) ?_
        refine lv_aload_n C.1 C.2.1 dX4_age_43 rfl (lv_at hl 2 rfl) ?_
        refine m_get C hR 7 (by decide) rfl fl_X4_23 (v := .ref (mA d 7)) rfl dX4_age_44 ?_
        refine lv_iload_n C.1 C.2.1 dX4_age_47 rfl (lv_at hl 0 rfl) ?_
        refine mI_ld (k := 7) (j := wr N (f + i)) C hR (by simp only [mAr]; decide) rfl (show wr N (f + i) < 6 by omega) dX4_age_48 ?_
        refine lv_re (y := zM1 7 (wr N (f + i))) (by rw [ezM2, up2_f (by decide)]) ?_
        refine lv_iconst (v := nI 1) C.1 C.2.1 dX4_age_49 (by decide) ?_
        refine lv_iadd C.1 C.2.1 dX4_age_50 ?_
        refine mI_st (k := 7) (j := wr N (f + i)) C hR hS (by simp only [mAr]; decide) rfl (show wr N (f + i) < 6 by omega) dX4_age_51 (fun zM3 H locs ezM3 hR hS => ?_)
        refine lv_aload_n C.1 C.2.1 dX4_age_52 rfl (lv_at hl 2 rfl) ?_
        refine m_get C hR 7 (by decide) rfl fl_X4_23 (v := .ref (mA d 7)) rfl dX4_age_53 ?_
        refine lv_iload_n C.1 C.2.1 dX4_age_56 rfl (lv_at hl 0 rfl) ?_
        refine mI_ld (k := 7) (j := wr N (f + i)) C hR (by simp only [mAr]; decide) rfl (show wr N (f + i) < 6 by omega) dX4_age_57 ?_
        refine lv_re (y := zM1 7 (wr N (f + i)) + (nI 1)) (by rw [ezM3, up2_eq]) ?_
        refine lv_aload_n C.1 C.2.1 dX4_age_58 rfl (lv_at hl 2 rfl) ?_
        refine m_get C hR 29 (by decide) rfl fl_X4_90 (v := .ref (mA d 29)) rfl dX4_age_59 ?_
        refine lv_iload_n C.1 C.2.1 dX4_age_62 rfl (lv_at hl 3 rfl) ?_
        refine mI_ld (k := 29) (j := f) C hR (by simp only [mAr]; decide) rfl (show f < 6 by omega) dX4_age_63 ?_
        refine lv_re (y := M 29 f) (by rw [ezM3, up2_f (by decide), ezM2, up2_f (by decide), g29]) ?_
        refine lv_icmp_ne (tgt := 100) C.1 C.2.1 dX4_age_64 (by decide) (fun c64 => ?_) (fun c64 => ?_)
        · skip
          refine lv_iinc (v := nI (i + 1)) (lv' := [(2, .int (nI (i + 1))), (3, .int (nI (wr N (f + i)))), (0, .ref d), (1, .int (nI f))]) C.1 C.2.1 dX4_age_100 hl (k := 1) rfl (nI_add _ _) (by decide) rfl (fun ls hl => ?_)
          refine lv_goto (tgt := 2) C.1 C.2.1 dX4_age_103 (by decide) ?_
          obtain ⟨k, rfl⟩ : ∃ k2, k = k2 + 1 := ⟨k - 1, by omega⟩
          rw [ezM1] at c64
          have hm2 : mag U (wr N (f + i)) (M 29 f) = zM3 := (if_neg c64).trans (by rw [ezM3, ezM2, ezM1])
          have hb1 : maS N f (M 29 f) (k + 1) i U = maS N f (M 29 f) k (i + 1) zM3 := (if_neg (fun h => c64 h.1)).trans (by rw [hm2])
          have hb2 : maB N f (M 29 f) (k + 1) i U = maB N f (M 29 f) k (i + 1) zM3 := (if_neg (fun h => c64 h.1)).trans (by rw [hm2])
          exact ih k (i + 1) zM3 H locs ls (by omega) (by omega) (hr1.trans hb1) (hr2.trans hb2) (by rw [← hm2, mag_o (by decide) (by decide) (by decide)]; exact u25) (fun k hk => by rw [← hm2, mag_o (by decide) (by decide) (by decide)]; exact u26 k hk) (by rw [← hm2, mag_o (by decide) (by decide) (by decide)]; exact u29) hR hS (lv_sub hl [0, 2, 3] rfl)
        · skip
          refine lv_aload_n C.1 C.2.1 dX4_age_67 rfl (lv_at hl 2 rfl) ?_
          refine m_get C hR 7 (by decide) rfl fl_X4_23 (v := .ref (mA d 7)) rfl dX4_age_68 ?_
          refine lv_iload_n C.1 C.2.1 dX4_age_71 rfl (lv_at hl 0 rfl) ?_
          refine lv_iconst (v := nI 0) C.1 C.2.1 dX4_age_72 (by decide) ?_
          refine mI_st (k := 7) (j := wr N (f + i)) C hR hS (by simp only [mAr]; decide) rfl (show wr N (f + i) < 6 by omega) dX4_age_73 (fun zM4 H locs ezM4 hR hS => ?_)
          refine lv_aload_n C.1 C.2.1 dX4_age_74 rfl (lv_at hl 2 rfl) ?_
          refine m_get C hR 8 (by decide) rfl fl_X4_26 (v := .ref (mA d 8)) rfl dX4_age_75 ?_
          refine lv_iload_n C.1 C.2.1 dX4_age_78 rfl (lv_at hl 0 rfl) ?_
          refine lv_aload_n C.1 C.2.1 dX4_age_79 rfl (lv_at hl 2 rfl) ?_
          refine m_get C hR 8 (by decide) rfl fl_X4_26 (v := .ref (mA d 8)) rfl dX4_age_80 ?_
          refine lv_iload_n C.1 C.2.1 dX4_age_83 rfl (lv_at hl 0 rfl) ?_
          refine mI_ld (k := 8) (j := wr N (f + i)) C hR (by simp only [mAr]; decide) rfl (show wr N (f + i) < 6 by omega) dX4_age_84 ?_
          refine lv_re (y := zM1 8 (wr N (f + i))) (by rw [ezM4, up2_f (by decide), ezM3, up2_f (by decide), ezM2, up2_f (by decide)]) ?_
          refine lv_iconst (v := nI 1) C.1 C.2.1 dX4_age_85 (by decide) ?_
          refine lv_iadd C.1 C.2.1 dX4_age_86 ?_
          refine mI_st (k := 8) (j := wr N (f + i)) C hR hS (by simp only [mAr]; decide) rfl (show wr N (f + i) < 6 by omega) dX4_age_87 (fun zM5 H locs ezM5 hR hS => ?_)
          refine lv_aload_n C.1 C.2.1 dX4_age_88 rfl (lv_at hl 2 rfl) ?_
          refine m_get C hR 8 (by decide) rfl fl_X4_26 (v := .ref (mA d 8)) rfl dX4_age_89 ?_
          refine lv_iload_n C.1 C.2.1 dX4_age_92 rfl (lv_at hl 0 rfl) ?_
          refine mI_ld (k := 8) (j := wr N (f + i)) C hR (by simp only [mAr]; decide) rfl (show wr N (f + i) < 6 by omega) dX4_age_93 ?_
          refine lv_re (y := zM1 8 (wr N (f + i)) + (nI 1)) (by rw [ezM5, up2_eq]) ?_
          refine lv_iconst (v := nI 2) C.1 C.2.1 dX4_age_94 (by decide) ?_
          refine lv_icmp_ne (tgt := 100) C.1 C.2.1 dX4_age_95 (by decide) (fun c95 => ?_) (fun c95 => ?_)
          · skip
            refine lv_iinc (v := nI (i + 1)) (lv' := [(2, .int (nI (i + 1))), (3, .int (nI (wr N (f + i)))), (0, .ref d), (1, .int (nI f))]) C.1 C.2.1 dX4_age_100 hl (k := 1) rfl (nI_add _ _) (by decide) rfl (fun ls hl => ?_)
            refine lv_goto (tgt := 2) C.1 C.2.1 dX4_age_103 (by decide) ?_
            obtain ⟨k, rfl⟩ : ∃ k2, k = k2 + 1 := ⟨k - 1, by omega⟩
            rw [ezM1] at c64
            rw [ezM1] at c95
            have hm2 : mag U (wr N (f + i)) (M 29 f) = zM5 := (if_pos c64).trans (by rw [ezM5, ezM4, ezM3, ezM2, ezM1])
            have hb1 : maS N f (M 29 f) (k + 1) i U = maS N f (M 29 f) k (i + 1) zM5 := (if_neg (fun h => c95 h.2)).trans (by rw [hm2])
            have hb2 : maB N f (M 29 f) (k + 1) i U = maB N f (M 29 f) k (i + 1) zM5 := (if_neg (fun h => c95 h.2)).trans (by rw [hm2])
            exact ih k (i + 1) zM5 H locs ls (by omega) (by omega) (hr1.trans hb1) (hr2.trans hb2) (by rw [← hm2, mag_o (by decide) (by decide) (by decide)]; exact u25) (fun k hk => by rw [← hm2, mag_o (by decide) (by decide) (by decide)]; exact u26 k hk) (by rw [← hm2, mag_o (by decide) (by decide) (by decide)]; exact u29) hR hS (lv_sub hl [0, 2, 3] rfl)
          · skip
            refine lv_iconst (v := nI 1) C.1 C.2.1 dX4_age_98 (by decide) ?_
            obtain ⟨k, rfl⟩ : ∃ k2, k = k2 + 1 := ⟨k - 1, by omega⟩
            rw [ezM1] at c64 c95
            have hm2 : mag U (wr N (f + i)) (M 29 f) = zM5 := (if_pos c64).trans (by rw [ezM5, ezM4, ezM3, ezM2, ezM1])
            have hs : maS N f (M 29 f) L 0 M = zM5 := hr1.trans ((if_pos ⟨c64, c95⟩).trans hm2)
            rw [hs]
            have hv : bI (maB N f (M 29 f) L 0 M) = nI 1 := by rw [hr2.trans (if_pos ⟨c64, c95⟩)]; rfl
            rw [hv]
            exact endz C hr hlk (Or.inr rfl) hR hS dX4_age_99
  exact lp _ L 0 M _ _ ls (Nat.lt_succ_self _) (by omega) rfl rfl h25 hrow rfl hR hS (lv_sub hl [0, 1, 2] rfl)

def s_X4_arrive (M : SX) (N : Nat) (f p L c : Nat) : SX := if M 13 (wr N (f + c)) = 0 then (if M 8 (wr N (f + c)) = 0 then (up2 (up2 (up2 (up2 (up2 (up2 (up2 (up2 (up2 (up2 M 30 f (nI c)) 14 (wr N (f + c)) (nI (wr N (f + p)))) 4 0 (M 4 0)) 13 (wr N (f + c)) (nI 1)) 11 (wr N (f + c)) (nI 0)) 9 (wr N (f + c)) ((M 29 f) - (M 7 (wr N (f + c))))) 7 (wr N (f + c)) (nI 0)) 8 (wr N (f + c)) (nI 0)) 10 (wr N (f + c)) (M 6 (wr N (f + c)))) 12 (wr N (f + c)) (nI 0)) else (up2 (up2 (up2 (up2 (up2 (up2 (up2 (up2 (up2 (up2 M 30 f (nI c)) 14 (wr N (f + c)) (nI (wr N (f + p)))) 4 0 (M 4 0)) 13 (wr N (f + c)) (nI 1)) 11 (wr N (f + c)) (nI 0)) 9 (wr N (f + c)) (nI 0)) 7 (wr N (f + c)) (M 7 (wr N (f + c)))) 8 (wr N (f + c)) (nI 0)) 10 (wr N (f + c)) (M 6 (wr N (f + c)))) 12 (wr N (f + c)) (nI 0))) else (if M 11 (wr N (f + c)) ≤ M 4 0 then (if M 8 (wr N (f + c)) = 0 then (up2 (up2 (up2 (up2 (up2 (up2 (up2 (up2 (up2 (up2 M 30 f (nI c)) 14 (wr N (f + c)) (nI (wr N (f + p)))) 4 0 (M 4 0)) 13 (wr N (f + c)) (nI 1)) 11 (wr N (f + c)) (nI 0)) 9 (wr N (f + c)) ((M 29 f) - (M 7 (wr N (f + c))))) 7 (wr N (f + c)) (nI 0)) 8 (wr N (f + c)) (nI 0)) 10 (wr N (f + c)) (M 6 (wr N (f + c)))) 12 (wr N (f + c)) (nI 0)) else (up2 (up2 (up2 (up2 (up2 (up2 (up2 (up2 (up2 (up2 M 30 f (nI c)) 14 (wr N (f + c)) (nI (wr N (f + p)))) 4 0 (M 4 0)) 13 (wr N (f + c)) (nI 1)) 11 (wr N (f + c)) (nI 0)) 9 (wr N (f + c)) (nI 0)) 7 (wr N (f + c)) (M 7 (wr N (f + c)))) 8 (wr N (f + c)) (nI 0)) 10 (wr N (f + c)) (M 6 (wr N (f + c)))) 12 (wr N (f + c)) (nI 0))) else (if M 8 (wr N (f + c)) = 0 then (up2 (up2 (up2 (up2 (up2 (up2 (up2 (up2 (up2 (up2 M 30 f (nI c)) 14 (wr N (f + c)) (nI (wr N (f + p)))) 4 0 (M 11 (wr N (f + c)))) 13 (wr N (f + c)) (nI 1)) 11 (wr N (f + c)) (nI 0)) 9 (wr N (f + c)) ((M 29 f) - (M 7 (wr N (f + c))))) 7 (wr N (f + c)) (nI 0)) 8 (wr N (f + c)) (nI 0)) 10 (wr N (f + c)) (M 6 (wr N (f + c)))) 12 (wr N (f + c)) (nI 0)) else (up2 (up2 (up2 (up2 (up2 (up2 (up2 (up2 (up2 (up2 M 30 f (nI c)) 14 (wr N (f + c)) (nI (wr N (f + p)))) 4 0 (M 11 (wr N (f + c)))) 13 (wr N (f + c)) (nI 1)) 11 (wr N (f + c)) (nI 0)) 9 (wr N (f + c)) (nI 0)) 7 (wr N (f + c)) (M 7 (wr N (f + c)))) 8 (wr N (f + c)) (nI 0)) 10 (wr N (f + c)) (M 6 (wr N (f + c)))) 12 (wr N (f + c)) (nI 0))))
def f_X4_arrive (M : SX) (G : FX) (N : Nat) (f p L c : Nat) : FX := va_up G (wr N (f + c)) (FP.fadd (G (wr N (f + c))) (FP.fmul (FP.fsub (FP.i2f (M 11 (wr N (f + c)))) (G (wr N (f + c)))) 1048576000))
set_option maxHeartbeats 4000000 in
set_option maxRecDepth 100000 in
theorem k_X4_arrive (l : Launch) (g : GX) (d N : Nat) (M : SX) (G : FX) (hN : N ≤ 6) (f p L : Nat) (hf : f < N) (hp : p < L) (hL : L ≤ N) (h30 : M 30 f = nI p) (h25 : M 25 f = nI L) (hrow : ∀ k, k < L → M 26 (6 * f + k) = nI (wr N (f + k))) (c : Nat) (hc : (p + 1) % L = c) (hcL : c < L) (hF : fOK (G (wr N (f + c))))  : MR l yX4_arrive (.code yX4_arrive cX4_arrive 4 none :: tb) (rmk 1 21) g (RepM g d N M G) (RepM g d N (s_X4_arrive M N f p L c) (f_X4_arrive M G N f p L c)) (AM d) [.ref d, .int (nI f)] none := by
  refine MR.start RX4 (by decide) rfl (Nat.le_of_ble_eq_true rfl) (fun zp ze zs zm zb zt zc ls C hr hlk hR hS hl => ?_)
  have hl : lv_has ls 4 [(0, .ref d), (1, .int (nI f))] := hl
  have hwp := wr_lt (N := N) (i := f + p) (by omega)
  have hwc := wr_lt (N := N) (i := f + c) (by omega)
  refine lv_aload_n C.1 C.2.1 dX4_arrive_0 rfl (lv_at hl 0 rfl) ?_
  refine lv_iload_n C.1 C.2.1 dX4_arrive_1 rfl (lv_at hl 1 rfl) ?_
  refine cxV (b := d) (As := [.int (nI f)]) (rest := []) (ci := 4) (q := (RX4, TX4, 36)) C (k_X4_holder l g d N M G hN f p (wr N (f + p)) (by omega) (by omega) (by rw [h30]) (by rw [hrow p hp])) cf_X4_holder ml_X4_146 ⟨by decide, by decide⟩ ⟨rfl, rfl⟩ rfl (hR.1) rfl hl.1 rfl (Nat.le_of_ble_eq_true rfl) dX4_arrive_2 hR ⟨Nat.zero_le _, Nat.zero_le _⟩ hS (fun _ h => h) (fun H locs hR hS _ _ => ?_)
  simp only [Option.toList, List.cons_append, List.nil_append]
  refine lv_istore_n (lv' := [(2, .int (nI (wr N (f + p)))), (0, .ref d), (1, .int (nI f))]) C.1 C.2.1 dX4_arrive_5 rfl hl (by decide) rfl (fun ls hl => ?_)
  refine lv_aload_n C.1 C.2.1 dX4_arrive_6 rfl (lv_at hl 1 rfl) ?_
  refine m_get C hR 30 (by decide) rfl fl_X4_93 (v := .ref (mA d 30)) rfl dX4_arrive_7 ?_
  refine lv_iload_n C.1 C.2.1 dX4_arrive_10 rfl (lv_at hl 2 rfl) ?_
  refine lv_aload_n C.1 C.2.1 dX4_arrive_11 rfl (lv_at hl 1 rfl) ?_
  refine m_get C hR 30 (by decide) rfl fl_X4_93 (v := .ref (mA d 30)) rfl dX4_arrive_12 ?_
  refine lv_iload_n C.1 C.2.1 dX4_arrive_15 rfl (lv_at hl 2 rfl) ?_
  refine mI_ld (k := 30) (j := f) C hR (by simp only [mAr]; decide) rfl (show f < 6 by omega) dX4_arrive_16 ?_
  refine lv_re (y := nI p) (by rw [h30]) ?_
  refine lv_iconst (v := nI 1) C.1 C.2.1 dX4_arrive_17 (by decide) ?_
  refine n_iadd (z := p + 1) C dX4_arrive_18 (by omega) ?_
  refine lv_aload_n C.1 C.2.1 dX4_arrive_19 rfl (lv_at hl 1 rfl) ?_
  refine m_get C hR 25 (by decide) rfl fl_X4_78 (v := .ref (mA d 25)) rfl dX4_arrive_20 ?_
  refine lv_iload_n C.1 C.2.1 dX4_arrive_23 rfl (lv_at hl 2 rfl) ?_
  refine mI_ld (k := 25) (j := f) C hR (by simp only [mAr]; decide) rfl (show f < 6 by omega) dX4_arrive_24 ?_
  refine lv_re (y := nI L) (by rw [h25]) ?_
  refine n_irem C (by omega) (by omega) (by omega) dX4_arrive_25 ?_
  refine lv_re (y := nI c) (by rw [hc]) ?_
  refine mI_st (k := 30) (j := f) C hR hS (by simp only [mAr]; decide) rfl (show f < 6 by omega) dX4_arrive_26 (fun zM1 H locs ezM1 hR hS => ?_)
  refine lv_aload_n C.1 C.2.1 dX4_arrive_27 rfl (lv_at hl 1 rfl) ?_
  refine lv_iload_n C.1 C.2.1 dX4_arrive_28 rfl (lv_at hl 2 rfl) ?_
  refine cxV (b := d) (As := [.int (nI f)]) (rest := []) (ci := 4) (q := (RX4, TX4, 36)) C (k_X4_holder l g d N zM1 G hN f c (wr N (f + c)) (by omega) (by omega) (by rw [ezM1, up2_eq]) (by rw [ezM1, up2_f (by decide), hrow c hcL])) cf_X4_holder ml_X4_146 ⟨by decide, by decide⟩ ⟨rfl, rfl⟩ rfl (hR.1) rfl hl.1 rfl (Nat.le_of_ble_eq_true rfl) dX4_arrive_29 hR ⟨Nat.zero_le _, Nat.zero_le _⟩ hS (fun _ h => h) (fun H locs hR hS _ _ => ?_)
  simp only [Option.toList, List.cons_append, List.nil_append]
  refine lv_istore_n (lv' := [(3, .int (nI (wr N (f + c)))), (2, .int (nI (wr N (f + p)))), (0, .ref d), (1, .int (nI f))]) C.1 C.2.1 dX4_arrive_32 rfl hl (by decide) rfl (fun ls hl => ?_)
  refine lv_aload_n C.1 C.2.1 dX4_arrive_33 rfl (lv_at hl 2 rfl) ?_
  refine m_get C hR 14 (by decide) rfl fl_X4_44 (v := .ref (mA d 14)) rfl dX4_arrive_34 ?_
  refine lv_iload_n C.1 C.2.1 dX4_arrive_37 rfl (lv_at hl 0 rfl) ?_
  refine lv_iload_n C.1 C.2.1 dX4_arrive_38 rfl (lv_at hl 1 rfl) ?_
  refine mI_st (k := 14) (j := wr N (f + c)) C hR hS (by simp only [mAr]; decide) rfl (show wr N (f + c) < 6 by omega) dX4_arrive_39 (fun zM2 H locs ezM2 hR hS => ?_)
  refine lv_aload_n C.1 C.2.1 dX4_arrive_40 rfl (lv_at hl 2 rfl) ?_
  refine m_get C hR 20 (by decide) rfl fl_X4_62 (v := .ref (mA d 20)) rfl dX4_arrive_41 ?_
  refine lv_iload_n C.1 C.2.1 dX4_arrive_44 rfl (lv_at hl 0 rfl) ?_
  refine lv_aload_n C.1 C.2.1 dX4_arrive_45 rfl (lv_at hl 2 rfl) ?_
  refine m_get C hR 20 (by decide) rfl fl_X4_62 (v := .ref (mA d 20)) rfl dX4_arrive_46 ?_
  refine lv_iload_n C.1 C.2.1 dX4_arrive_49 rfl (lv_at hl 0 rfl) ?_
  refine mF_ld (j := wr N (f + c)) C hR (by omega) dX4_arrive_50 ?_
  refine lv_aload_n C.1 C.2.1 dX4_arrive_51 rfl (lv_at hl 2 rfl) ?_
  refine m_get C hR 11 (by decide) rfl fl_X4_35 (v := .ref (mA d 11)) rfl dX4_arrive_52 ?_
  refine lv_iload_n C.1 C.2.1 dX4_arrive_55 rfl (lv_at hl 0 rfl) ?_
  refine mI_ld (k := 11) (j := wr N (f + c)) C hR (by simp only [mAr]; decide) rfl (show wr N (f + c) < 6 by omega) dX4_arrive_56 ?_
  refine lv_re (y := M 11 (wr N (f + c))) (by rw [ezM2, up2_f (by decide), ezM1, up2_f (by decide)]) ?_
  refine lv_i2f C.1 C.2.1 dX4_arrive_57 ?_
  refine lv_aload_n C.1 C.2.1 dX4_arrive_58 rfl (lv_at hl 2 rfl) ?_
  refine m_get C hR 20 (by decide) rfl fl_X4_62 (v := .ref (mA d 20)) rfl dX4_arrive_59 ?_
  refine lv_iload_n C.1 C.2.1 dX4_arrive_62 rfl (lv_at hl 0 rfl) ?_
  refine mF_ld (j := wr N (f + c)) C hR (by omega) dX4_arrive_63 ?_
  refine lv_fsub C.1 C.2.1 dX4_arrive_64 ((fOK_step hF (M 11 (wr N (f + c)))).1) ?_
  refine lv_ldcf C.1 C.2.1 C.2.2.2.1 (C.2.2.2.2.1 _ kf_X4_149) dX4_arrive_65 ?_
  refine lv_fmul C.1 C.2.1 dX4_arrive_67 ((fOK_step hF (M 11 (wr N (f + c)))).2.1) ?_
  refine lv_fadd C.1 C.2.1 dX4_arrive_68 ((fOK_step hF (M 11 (wr N (f + c)))).2.2.1) ?_
  refine mF_st (j := wr N (f + c)) C hR hS (by omega) dX4_arrive_69 (fun G3 H locs eG3 hR hS => ?_)
  refine lv_aload_n C.1 C.2.1 dX4_arrive_70 rfl (lv_at hl 2 rfl) ?_
  refine lv_aload_n C.1 C.2.1 dX4_arrive_71 rfl (lv_at hl 2 rfl) ?_
  refine m_get C hR 13 (by decide) rfl fl_X4_41 (v := .ref (mA d 13)) rfl dX4_arrive_72 ?_
  refine lv_iload_n C.1 C.2.1 dX4_arrive_75 rfl (lv_at hl 0 rfl) ?_
  refine mZ_ld (k := 13) (j := wr N (f + c)) C hR (by simp only [mAr]; decide) rfl (show wr N (f + c) < 6 by omega) dX4_arrive_76 ?_
  refine lv_re (y := M 13 (wr N (f + c))) (by rw [ezM2, up2_f (by decide), ezM1, up2_f (by decide)]) ?_
  refine lv_if_eq (tgt := 102) C.1 C.2.1 dX4_arrive_77 (by decide) (fun c77 => ?_) (fun c77 => ?_)
  · skip
    refine lv_aload_n C.1 C.2.1 dX4_arrive_102 rfl (lv_at hl 2 rfl) ?_
    refine m_get C hR 4 (by decide) rfl fl_X4_150 (v := .int (zM2 4 0)) rfl dX4_arrive_103 ?_
    refine lv_re (y := M 4 0) (by rw [ezM2, up2_f (by decide), ezM1, up2_f (by decide)]) ?_
    refine m_put C hR hS 4 (by decide) fl_X4_150 dX4_arrive_106 (fun zM4 H locs ezM4 hR hS => ?_)
    refine lv_aload_n C.1 C.2.1 dX4_arrive_109 rfl (lv_at hl 2 rfl) ?_
    refine m_get C hR 13 (by decide) rfl fl_X4_41 (v := .ref (mA d 13)) rfl dX4_arrive_110 ?_
    refine lv_iload_n C.1 C.2.1 dX4_arrive_113 rfl (lv_at hl 0 rfl) ?_
    refine lv_iconst (v := nI 1) C.1 C.2.1 dX4_arrive_114 (by decide) ?_
    refine mZ_st (k := 13) (j := wr N (f + c)) C hR hS (by simp only [mAr]; decide) rfl (show wr N (f + c) < 6 by omega) (Or.inr rfl) dX4_arrive_115 (fun zM5 H locs ezM5 hR hS => ?_)
    refine lv_aload_n C.1 C.2.1 dX4_arrive_116 rfl (lv_at hl 2 rfl) ?_
    refine m_get C hR 11 (by decide) rfl fl_X4_35 (v := .ref (mA d 11)) rfl dX4_arrive_117 ?_
    refine lv_iload_n C.1 C.2.1 dX4_arrive_120 rfl (lv_at hl 0 rfl) ?_
    refine lv_iconst (v := nI 0) C.1 C.2.1 dX4_arrive_121 (by decide) ?_
    refine mI_st (k := 11) (j := wr N (f + c)) C hR hS (by simp only [mAr]; decide) rfl (show wr N (f + c) < 6 by omega) dX4_arrive_122 (fun zM6 H locs ezM6 hR hS => ?_)
    refine lv_aload_n C.1 C.2.1 dX4_arrive_123 rfl (lv_at hl 2 rfl) ?_
    refine m_get C hR 9 (by decide) rfl fl_X4_29 (v := .ref (mA d 9)) rfl dX4_arrive_124 ?_
    refine lv_iload_n C.1 C.2.1 dX4_arrive_127 rfl (lv_at hl 0 rfl) ?_
    refine lv_aload_n C.1 C.2.1 dX4_arrive_128 rfl (lv_at hl 2 rfl) ?_
    refine m_get C hR 8 (by decide) rfl fl_X4_26 (v := .ref (mA d 8)) rfl dX4_arrive_129 ?_
    refine lv_iload_n C.1 C.2.1 dX4_arrive_132 rfl (lv_at hl 0 rfl) ?_
    refine mI_ld (k := 8) (j := wr N (f + c)) C hR (by simp only [mAr]; decide) rfl (show wr N (f + c) < 6 by omega) dX4_arrive_133 ?_
    refine lv_re (y := M 8 (wr N (f + c))) (by rw [ezM6, up2_f (by decide), ezM5, up2_f (by decide), ezM4, up2_f (by decide), ezM2, up2_f (by decide), ezM1, up2_f (by decide)]) ?_
    refine lv_if_ne (tgt := 153) C.1 C.2.1 dX4_arrive_134 (by decide) (fun c134 => ?_) (fun c134 => ?_)
    · skip
      refine lv_iconst (v := nI 0) C.1 C.2.1 dX4_arrive_153 (by decide) ?_
      refine mI_st (k := 9) (j := wr N (f + c)) C hR hS (by simp only [mAr]; decide) rfl (show wr N (f + c) < 6 by omega) dX4_arrive_154 (fun zM7 H locs ezM7 hR hS => ?_)
      refine lv_aload_n C.1 C.2.1 dX4_arrive_155 rfl (lv_at hl 2 rfl) ?_
      refine m_get C hR 7 (by decide) rfl fl_X4_23 (v := .ref (mA d 7)) rfl dX4_arrive_156 ?_
      refine lv_iload_n C.1 C.2.1 dX4_arrive_159 rfl (lv_at hl 0 rfl) ?_
      refine lv_aload_n C.1 C.2.1 dX4_arrive_160 rfl (lv_at hl 2 rfl) ?_
      refine m_get C hR 8 (by decide) rfl fl_X4_26 (v := .ref (mA d 8)) rfl dX4_arrive_161 ?_
      refine lv_iload_n C.1 C.2.1 dX4_arrive_164 rfl (lv_at hl 0 rfl) ?_
      refine mI_ld (k := 8) (j := wr N (f + c)) C hR (by simp only [mAr]; decide) rfl (show wr N (f + c) < 6 by omega) dX4_arrive_165 ?_
      refine lv_re (y := M 8 (wr N (f + c))) (by rw [ezM7, up2_f (by decide), ezM6, up2_f (by decide), ezM5, up2_f (by decide), ezM4, up2_f (by decide), ezM2, up2_f (by decide), ezM1, up2_f (by decide)]) ?_
      refine lv_if_ne (tgt := 173) C.1 C.2.1 dX4_arrive_166 (by decide) (fun c166 => ?_) (fun c166 => ?_)
      · skip
        refine lv_aload_n C.1 C.2.1 dX4_arrive_173 rfl (lv_at hl 2 rfl) ?_
        refine m_get C hR 7 (by decide) rfl fl_X4_23 (v := .ref (mA d 7)) rfl dX4_arrive_174 ?_
        refine lv_iload_n C.1 C.2.1 dX4_arrive_177 rfl (lv_at hl 0 rfl) ?_
        refine mI_ld (k := 7) (j := wr N (f + c)) C hR (by simp only [mAr]; decide) rfl (show wr N (f + c) < 6 by omega) dX4_arrive_178 ?_
        refine lv_re (y := M 7 (wr N (f + c))) (by rw [ezM7, up2_f (by decide), ezM6, up2_f (by decide), ezM5, up2_f (by decide), ezM4, up2_f (by decide), ezM2, up2_f (by decide), ezM1, up2_f (by decide)]) ?_
        refine mI_st (k := 7) (j := wr N (f + c)) C hR hS (by simp only [mAr]; decide) rfl (show wr N (f + c) < 6 by omega) dX4_arrive_179 (fun zM8 H locs ezM8 hR hS => ?_)
        refine lv_aload_n C.1 C.2.1 dX4_arrive_180 rfl (lv_at hl 2 rfl) ?_
        refine m_get C hR 8 (by decide) rfl fl_X4_26 (v := .ref (mA d 8)) rfl dX4_arrive_181 ?_
        refine lv_iload_n C.1 C.2.1 dX4_arrive_184 rfl (lv_at hl 0 rfl) ?_
        refine lv_iconst (v := nI 0) C.1 C.2.1 dX4_arrive_185 (by decide) ?_
        refine mI_st (k := 8) (j := wr N (f + c)) C hR hS (by simp only [mAr]; decide) rfl (show wr N (f + c) < 6 by omega) dX4_arrive_186 (fun zM9 H locs ezM9 hR hS => ?_)
        refine lv_aload_n C.1 C.2.1 dX4_arrive_187 rfl (lv_at hl 2 rfl) ?_
        refine m_get C hR 10 (by decide) rfl fl_X4_32 (v := .ref (mA d 10)) rfl dX4_arrive_188 ?_
        refine lv_iload_n C.1 C.2.1 dX4_arrive_191 rfl (lv_at hl 0 rfl) ?_
        refine lv_aload_n C.1 C.2.1 dX4_arrive_192 rfl (lv_at hl 2 rfl) ?_
        refine m_get C hR 6 (by decide) rfl fl_X4_20 (v := .ref (mA d 6)) rfl dX4_arrive_193 ?_
        refine lv_iload_n C.1 C.2.1 dX4_arrive_196 rfl (lv_at hl 0 rfl) ?_
        refine mI_ld (k := 6) (j := wr N (f + c)) C hR (by simp only [mAr]; decide) rfl (show wr N (f + c) < 6 by omega) dX4_arrive_197 ?_
        refine lv_re (y := M 6 (wr N (f + c))) (by rw [ezM9, up2_f (by decide), ezM8, up2_f (by decide), ezM7, up2_f (by decide), ezM6, up2_f (by decide), ezM5, up2_f (by decide), ezM4, up2_f (by decide), ezM2, up2_f (by decide), ezM1, up2_f (by decide)]) ?_
        refine mI_st (k := 10) (j := wr N (f + c)) C hR hS (by simp only [mAr]; decide) rfl (show wr N (f + c) < 6 by omega) dX4_arrive_198 (fun zM10 H locs ezM10 hR hS => ?_)
        refine lv_aload_n C.1 C.2.1 dX4_arrive_199 rfl (lv_at hl 2 rfl) ?_
        refine m_get C hR 12 (by decide) rfl fl_X4_38 (v := .ref (mA d 12)) rfl dX4_arrive_200 ?_
        refine lv_iload_n C.1 C.2.1 dX4_arrive_203 rfl (lv_at hl 0 rfl) ?_
        refine lv_iconst (v := nI 0) C.1 C.2.1 dX4_arrive_204 (by decide) ?_
        refine mZ_st (k := 12) (j := wr N (f + c)) C hR hS (by simp only [mAr]; decide) rfl (show wr N (f + c) < 6 by omega) (Or.inl rfl) dX4_arrive_205 (fun zM11 H locs ezM11 hR hS => ?_)
        have hs : s_X4_arrive M N f p L c = zM11 := (if_pos c77).trans ((if_neg c134).trans (by rw [ezM11, ezM10, ezM9, ezM8, ezM7, ezM6, ezM5, ezM4, ezM2, ezM1]))
        rw [hs]
        have hf : f_X4_arrive M G N f p L c = G3 := (show _ = va_up G (wr N (f + c)) (FP.fadd (G (wr N (f + c))) (FP.fmul (FP.fsub (FP.i2f (M 11 (wr N (f + c)))) (G (wr N (f + c)))) 1048576000)) from rfl).trans (by rw [eG3]; try simp only [ezM11, ezM10, ezM9, ezM8, ezM7, ezM6, ezM5, ezM4, ezM2, ezM1, true_and])
        rw [hf]
        exact endv C hr hlk hR hS dX4_arrive_206
      · skip
        exact absurd c166 c134
    · skip
      refine lv_aload_n C.1 C.2.1 dX4_arrive_137 rfl (lv_at hl 2 rfl) ?_
      refine m_get C hR 29 (by decide) rfl fl_X4_90 (v := .ref (mA d 29)) rfl dX4_arrive_138 ?_
      refine lv_iload_n C.1 C.2.1 dX4_arrive_141 rfl (lv_at hl 3 rfl) ?_
      refine mI_ld (k := 29) (j := f) C hR (by simp only [mAr]; decide) rfl (show f < 6 by omega) dX4_arrive_142 ?_
      refine lv_re (y := M 29 f) (by rw [ezM6, up2_f (by decide), ezM5, up2_f (by decide), ezM4, up2_f (by decide), ezM2, up2_f (by decide), ezM1, up2_f (by decide)]) ?_
      refine lv_aload_n C.1 C.2.1 dX4_arrive_143 rfl (lv_at hl 2 rfl) ?_
      refine m_get C hR 7 (by decide) rfl fl_X4_23 (v := .ref (mA d 7)) rfl dX4_arrive_144 ?_
      refine lv_iload_n C.1 C.2.1 dX4_arrive_147 rfl (lv_at hl 0 rfl) ?_
      refine mI_ld (k := 7) (j := wr N (f + c)) C hR (by simp only [mAr]; decide) rfl (show wr N (f + c) < 6 by omega) dX4_arrive_148 ?_
      refine lv_re (y := M 7 (wr N (f + c))) (by rw [ezM6, up2_f (by decide), ezM5, up2_f (by decide), ezM4, up2_f (by decide), ezM2, up2_f (by decide), ezM1, up2_f (by decide)]) ?_
      refine lv_isub C.1 C.2.1 dX4_arrive_149 ?_
      refine lv_goto (tgt := 154) C.1 C.2.1 dX4_arrive_150 (by decide) ?_
      refine mI_st (k := 9) (j := wr N (f + c)) C hR hS (by simp only [mAr]; decide) rfl (show wr N (f + c) < 6 by omega) dX4_arrive_154 (fun zM12 H locs ezM12 hR hS => ?_)
      refine lv_aload_n C.1 C.2.1 dX4_arrive_155 rfl (lv_at hl 2 rfl) ?_
      refine m_get C hR 7 (by decide) rfl fl_X4_23 (v := .ref (mA d 7)) rfl dX4_arrive_156 ?_
      refine lv_iload_n C.1 C.2.1 dX4_arrive_159 rfl (lv_at hl 0 rfl) ?_
      refine lv_aload_n C.1 C.2.1 dX4_arrive_160 rfl (lv_at hl 2 rfl) ?_
      refine m_get C hR 8 (by decide) rfl fl_X4_26 (v := .ref (mA d 8)) rfl dX4_arrive_161 ?_
      refine lv_iload_n C.1 C.2.1 dX4_arrive_164 rfl (lv_at hl 0 rfl) ?_
      refine mI_ld (k := 8) (j := wr N (f + c)) C hR (by simp only [mAr]; decide) rfl (show wr N (f + c) < 6 by omega) dX4_arrive_165 ?_
      refine lv_re (y := M 8 (wr N (f + c))) (by rw [ezM12, up2_f (by decide), ezM6, up2_f (by decide), ezM5, up2_f (by decide), ezM4, up2_f (by decide), ezM2, up2_f (by decide), ezM1, up2_f (by decide)]) ?_
      refine lv_if_ne (tgt := 173) C.1 C.2.1 dX4_arrive_166 (by decide) (fun c166 => ?_) (fun c166 => ?_)
      · skip
        exact absurd c134 c166
      · skip
        refine lv_iconst (v := nI 0) C.1 C.2.1 dX4_arrive_169 (by decide) ?_
        refine lv_goto (tgt := 179) C.1 C.2.1 dX4_arrive_170 (by decide) ?_
        refine mI_st (k := 7) (j := wr N (f + c)) C hR hS (by simp only [mAr]; decide) rfl (show wr N (f + c) < 6 by omega) dX4_arrive_179 (fun zM13 H locs ezM13 hR hS => ?_)
        refine lv_aload_n C.1 C.2.1 dX4_arrive_180 rfl (lv_at hl 2 rfl) ?_
        refine m_get C hR 8 (by decide) rfl fl_X4_26 (v := .ref (mA d 8)) rfl dX4_arrive_181 ?_
        refine lv_iload_n C.1 C.2.1 dX4_arrive_184 rfl (lv_at hl 0 rfl) ?_
        refine lv_iconst (v := nI 0) C.1 C.2.1 dX4_arrive_185 (by decide) ?_
        refine mI_st (k := 8) (j := wr N (f + c)) C hR hS (by simp only [mAr]; decide) rfl (show wr N (f + c) < 6 by omega) dX4_arrive_186 (fun zM14 H locs ezM14 hR hS => ?_)
        refine lv_aload_n C.1 C.2.1 dX4_arrive_187 rfl (lv_at hl 2 rfl) ?_
        refine m_get C hR 10 (by decide) rfl fl_X4_32 (v := .ref (mA d 10)) rfl dX4_arrive_188 ?_
        refine lv_iload_n C.1 C.2.1 dX4_arrive_191 rfl (lv_at hl 0 rfl) ?_
        refine lv_aload_n C.1 C.2.1 dX4_arrive_192 rfl (lv_at hl 2 rfl) ?_
        refine m_get C hR 6 (by decide) rfl fl_X4_20 (v := .ref (mA d 6)) rfl dX4_arrive_193 ?_
        refine lv_iload_n C.1 C.2.1 dX4_arrive_196 rfl (lv_at hl 0 rfl) ?_
        refine mI_ld (k := 6) (j := wr N (f + c)) C hR (by simp only [mAr]; decide) rfl (show wr N (f + c) < 6 by omega) dX4_arrive_197 ?_
        refine lv_re (y := M 6 (wr N (f + c))) (by rw [ezM14, up2_f (by decide), ezM13, up2_f (by decide), ezM12, up2_f (by decide), ezM6, up2_f (by decide), ezM5, up2_f (by decide), ezM4, up2_f (by decide), ezM2, up2_f (by decide), ezM1, up2_f (by decide)]) ?_
        refine mI_st (k := 10) (j := wr N (f + c)) C hR hS (by simp only [mAr]; decide) rfl (show wr N (f + c) < 6 by omega) dX4_arrive_198 (fun zM15 H locs ezM15 hR hS => ?_)
        refine lv_aload_n C.1 C.2.1 dX4_arrive_199 rfl (lv_at hl 2 rfl) ?_
        refine m_get C hR 12 (by decide) rfl fl_X4_38 (v := .ref (mA d 12)) rfl dX4_arrive_200 ?_
        refine lv_iload_n C.1 C.2.1 dX4_arrive_203 rfl (lv_at hl 0 rfl) ?_
        refine lv_iconst (v := nI 0) C.1 C.2.1 dX4_arrive_204 (by decide) ?_
        refine mZ_st (k := 12) (j := wr N (f + c)) C hR hS (by simp only [mAr]; decide) rfl (show wr N (f + c) < 6 by omega) (Or.inl rfl) dX4_arrive_205 (fun zM16 H locs ezM16 hR hS => ?_)
        have hs : s_X4_arrive M N f p L c = zM16 := (if_pos c77).trans ((if_pos c134).trans (by rw [ezM16, ezM15, ezM14, ezM13, ezM12, ezM6, ezM5, ezM4, ezM2, ezM1]))
        rw [hs]
        have hf : f_X4_arrive M G N f p L c = G3 := (show _ = va_up G (wr N (f + c)) (FP.fadd (G (wr N (f + c))) (FP.fmul (FP.fsub (FP.i2f (M 11 (wr N (f + c)))) (G (wr N (f + c)))) 1048576000)) from rfl).trans (by rw [eG3]; try simp only [ezM16, ezM15, ezM14, ezM13, ezM12, ezM6, ezM5, ezM4, ezM2, ezM1, true_and])
        rw [hf]
        exact endv C hr hlk hR hS dX4_arrive_206
  · skip
    refine lv_aload_n C.1 C.2.1 dX4_arrive_80 rfl (lv_at hl 2 rfl) ?_
    refine m_get C hR 11 (by decide) rfl fl_X4_35 (v := .ref (mA d 11)) rfl dX4_arrive_81 ?_
    refine lv_iload_n C.1 C.2.1 dX4_arrive_84 rfl (lv_at hl 0 rfl) ?_
    refine mI_ld (k := 11) (j := wr N (f + c)) C hR (by simp only [mAr]; decide) rfl (show wr N (f + c) < 6 by omega) dX4_arrive_85 ?_
    refine lv_re (y := M 11 (wr N (f + c))) (by rw [ezM2, up2_f (by decide), ezM1, up2_f (by decide)]) ?_
    refine lv_aload_n C.1 C.2.1 dX4_arrive_86 rfl (lv_at hl 2 rfl) ?_
    refine m_get C hR 4 (by decide) rfl fl_X4_150 (v := .int (zM2 4 0)) rfl dX4_arrive_87 ?_
    refine lv_re (y := M 4 0) (by rw [ezM2, up2_f (by decide), ezM1, up2_f (by decide)]) ?_
    refine lv_icmp_le (tgt := 102) C.1 C.2.1 dX4_arrive_90 (by decide) (fun c90 => ?_) (fun c90 => ?_)
    · skip
      refine lv_aload_n C.1 C.2.1 dX4_arrive_102 rfl (lv_at hl 2 rfl) ?_
      refine m_get C hR 4 (by decide) rfl fl_X4_150 (v := .int (zM2 4 0)) rfl dX4_arrive_103 ?_
      refine lv_re (y := M 4 0) (by rw [ezM2, up2_f (by decide), ezM1, up2_f (by decide)]) ?_
      refine m_put C hR hS 4 (by decide) fl_X4_150 dX4_arrive_106 (fun zM17 H locs ezM17 hR hS => ?_)
      refine lv_aload_n C.1 C.2.1 dX4_arrive_109 rfl (lv_at hl 2 rfl) ?_
      refine m_get C hR 13 (by decide) rfl fl_X4_41 (v := .ref (mA d 13)) rfl dX4_arrive_110 ?_
      refine lv_iload_n C.1 C.2.1 dX4_arrive_113 rfl (lv_at hl 0 rfl) ?_
      refine lv_iconst (v := nI 1) C.1 C.2.1 dX4_arrive_114 (by decide) ?_
      refine mZ_st (k := 13) (j := wr N (f + c)) C hR hS (by simp only [mAr]; decide) rfl (show wr N (f + c) < 6 by omega) (Or.inr rfl) dX4_arrive_115 (fun zM18 H locs ezM18 hR hS => ?_)
      refine lv_aload_n C.1 C.2.1 dX4_arrive_116 rfl (lv_at hl 2 rfl) ?_
      refine m_get C hR 11 (by decide) rfl fl_X4_35 (v := .ref (mA d 11)) rfl dX4_arrive_117 ?_
      refine lv_iload_n C.1 C.2.1 dX4_arrive_120 rfl (lv_at hl 0 rfl) ?_
      refine lv_iconst (v := nI 0) C.1 C.2.1 dX4_arrive_121 (by decide) ?_
      refine mI_st (k := 11) (j := wr N (f + c)) C hR hS (by simp only [mAr]; decide) rfl (show wr N (f + c) < 6 by omega) dX4_arrive_122 (fun zM19 H locs ezM19 hR hS => ?_)
      refine lv_aload_n C.1 C.2.1 dX4_arrive_123 rfl (lv_at hl 2 rfl) ?_
      refine m_get C hR 9 (by decide) rfl fl_X4_29 (v := .ref (mA d 9)) rfl dX4_arrive_124 ?_
      refine lv_iload_n C.1 C.2.1 dX4_arrive_127 rfl (lv_at hl 0 rfl) ?_
      refine lv_aload_n C.1 C.2.1 dX4_arrive_128 rfl (lv_at hl 2 rfl) ?_
      refine m_get C hR 8 (by decide) rfl fl_X4_26 (v := .ref (mA d 8)) rfl dX4_arrive_129 ?_
      refine lv_iload_n C.1 C.2.1 dX4_arrive_132 rfl (lv_at hl 0 rfl) ?_
      refine mI_ld (k := 8) (j := wr N (f + c)) C hR (by simp only [mAr]; decide) rfl (show wr N (f + c) < 6 by omega) dX4_arrive_133 ?_
      refine lv_re (y := M 8 (wr N (f + c))) (by rw [ezM19, up2_f (by decide), ezM18, up2_f (by decide), ezM17, up2_f (by decide), ezM2, up2_f (by decide), ezM1, up2_f (by decide)]) ?_
      refine lv_if_ne (tgt := 153) C.1 C.2.1 dX4_arrive_134 (by decide) (fun c134 => ?_) (fun c134 => ?_)
      · skip
        refine lv_iconst (v := nI 0) C.1 C.2.1 dX4_arrive_153 (by decide) ?_
        refine mI_st (k := 9) (j := wr N (f + c)) C hR hS (by simp only [mAr]; decide) rfl (show wr N (f + c) < 6 by omega) dX4_arrive_154 (fun zM20 H locs ezM20 hR hS => ?_)
        refine lv_aload_n C.1 C.2.1 dX4_arrive_155 rfl (lv_at hl 2 rfl) ?_
        refine m_get C hR 7 (by decide) rfl fl_X4_23 (v := .ref (mA d 7)) rfl dX4_arrive_156 ?_
        refine lv_iload_n C.1 C.2.1 dX4_arrive_159 rfl (lv_at hl 0 rfl) ?_
        refine lv_aload_n C.1 C.2.1 dX4_arrive_160 rfl (lv_at hl 2 rfl) ?_
        refine m_get C hR 8 (by decide) rfl fl_X4_26 (v := .ref (mA d 8)) rfl dX4_arrive_161 ?_
        refine lv_iload_n C.1 C.2.1 dX4_arrive_164 rfl (lv_at hl 0 rfl) ?_
        refine mI_ld (k := 8) (j := wr N (f + c)) C hR (by simp only [mAr]; decide) rfl (show wr N (f + c) < 6 by omega) dX4_arrive_165 ?_
        refine lv_re (y := M 8 (wr N (f + c))) (by rw [ezM20, up2_f (by decide), ezM19, up2_f (by decide), ezM18, up2_f (by decide), ezM17, up2_f (by decide), ezM2, up2_f (by decide), ezM1, up2_f (by decide)]) ?_
        refine lv_if_ne (tgt := 173) C.1 C.2.1 dX4_arrive_166 (by decide) (fun c166 => ?_) (fun c166 => ?_)
        · skip
          refine lv_aload_n C.1 C.2.1 dX4_arrive_173 rfl (lv_at hl 2 rfl) ?_
          refine m_get C hR 7 (by decide) rfl fl_X4_23 (v := .ref (mA d 7)) rfl dX4_arrive_174 ?_
          refine lv_iload_n C.1 C.2.1 dX4_arrive_177 rfl (lv_at hl 0 rfl) ?_
          refine mI_ld (k := 7) (j := wr N (f + c)) C hR (by simp only [mAr]; decide) rfl (show wr N (f + c) < 6 by omega) dX4_arrive_178 ?_
          refine lv_re (y := M 7 (wr N (f + c))) (by rw [ezM20, up2_f (by decide), ezM19, up2_f (by decide), ezM18, up2_f (by decide), ezM17, up2_f (by decide), ezM2, up2_f (by decide), ezM1, up2_f (by decide)]) ?_
          refine mI_st (k := 7) (j := wr N (f + c)) C hR hS (by simp only [mAr]; decide) rfl (show wr N (f + c) < 6 by omega) dX4_arrive_179 (fun zM21 H locs ezM21 hR hS => ?_)
          refine lv_aload_n C.1 C.2.1 dX4_arrive_180 rfl (lv_at hl 2 rfl) ?_
          refine m_get C hR 8 (by decide) rfl fl_X4_26 (v := .ref (mA d 8)) rfl dX4_arrive_181 ?_
          refine lv_iload_n C.1 C.2.1 dX4_arrive_184 rfl (lv_at hl 0 rfl) ?_
          refine lv_iconst (v := nI 0) C.1 C.2.1 dX4_arrive_185 (by decide) ?_
          refine mI_st (k := 8) (j := wr N (f + c)) C hR hS (by simp only [mAr]; decide) rfl (show wr N (f + c) < 6 by omega) dX4_arrive_186 (fun zM22 H locs ezM22 hR hS => ?_)
          refine lv_aload_n C.1 C.2.1 dX4_arrive_187 rfl (lv_at hl 2 rfl) ?_
          refine m_get C hR 10 (by decide) rfl fl_X4_32 (v := .ref (mA d 10)) rfl dX4_arrive_188 ?_
          refine lv_iload_n C.1 C.2.1 dX4_arrive_191 rfl (lv_at hl 0 rfl) ?_
          refine lv_aload_n C.1 C.2.1 dX4_arrive_192 rfl (lv_at hl 2 rfl) ?_
          refine m_get C hR 6 (by decide) rfl fl_X4_20 (v := .ref (mA d 6)) rfl dX4_arrive_193 ?_
          refine lv_iload_n C.1 C.2.1 dX4_arrive_196 rfl (lv_at hl 0 rfl) ?_
          refine mI_ld (k := 6) (j := wr N (f + c)) C hR (by simp only [mAr]; decide) rfl (show wr N (f + c) < 6 by omega) dX4_arrive_197 ?_
          refine lv_re (y := M 6 (wr N (f + c))) (by rw [ezM22, up2_f (by decide), ezM21, up2_f (by decide), ezM20, up2_f (by decide), ezM19, up2_f (by decide), ezM18, up2_f (by decide), ezM17, up2_f (by decide), ezM2, up2_f (by decide), ezM1, up2_f (by decide)]) ?_
          refine mI_st (k := 10) (j := wr N (f + c)) C hR hS (by simp only [mAr]; decide) rfl (show wr N (f + c) < 6 by omega) dX4_arrive_198 (fun zM23 H locs ezM23 hR hS => ?_)
          refine lv_aload_n C.1 C.2.1 dX4_arrive_199 rfl (lv_at hl 2 rfl) ?_
          refine m_get C hR 12 (by decide) rfl fl_X4_38 (v := .ref (mA d 12)) rfl dX4_arrive_200 ?_
          refine lv_iload_n C.1 C.2.1 dX4_arrive_203 rfl (lv_at hl 0 rfl) ?_
          refine lv_iconst (v := nI 0) C.1 C.2.1 dX4_arrive_204 (by decide) ?_
          refine mZ_st (k := 12) (j := wr N (f + c)) C hR hS (by simp only [mAr]; decide) rfl (show wr N (f + c) < 6 by omega) (Or.inl rfl) dX4_arrive_205 (fun zM24 H locs ezM24 hR hS => ?_)
          have hs : s_X4_arrive M N f p L c = zM24 := (if_neg c77).trans ((if_pos c90).trans ((if_neg c134).trans (by rw [ezM24, ezM23, ezM22, ezM21, ezM20, ezM19, ezM18, ezM17, ezM2, ezM1])))
          rw [hs]
          have hf : f_X4_arrive M G N f p L c = G3 := (show _ = va_up G (wr N (f + c)) (FP.fadd (G (wr N (f + c))) (FP.fmul (FP.fsub (FP.i2f (M 11 (wr N (f + c)))) (G (wr N (f + c)))) 1048576000)) from rfl).trans (by rw [eG3]; try simp only [ezM24, ezM23, ezM22, ezM21, ezM20, ezM19, ezM18, ezM17, ezM2, ezM1, true_and])
          rw [hf]
          exact endv C hr hlk hR hS dX4_arrive_206
        · skip
          exact absurd c166 c134
      · skip
        refine lv_aload_n C.1 C.2.1 dX4_arrive_137 rfl (lv_at hl 2 rfl) ?_
        refine m_get C hR 29 (by decide) rfl fl_X4_90 (v := .ref (mA d 29)) rfl dX4_arrive_138 ?_
        refine lv_iload_n C.1 C.2.1 dX4_arrive_141 rfl (lv_at hl 3 rfl) ?_
        refine mI_ld (k := 29) (j := f) C hR (by simp only [mAr]; decide) rfl (show f < 6 by omega) dX4_arrive_142 ?_
        refine lv_re (y := M 29 f) (by rw [ezM19, up2_f (by decide), ezM18, up2_f (by decide), ezM17, up2_f (by decide), ezM2, up2_f (by decide), ezM1, up2_f (by decide)]) ?_
        refine lv_aload_n C.1 C.2.1 dX4_arrive_143 rfl (lv_at hl 2 rfl) ?_
        refine m_get C hR 7 (by decide) rfl fl_X4_23 (v := .ref (mA d 7)) rfl dX4_arrive_144 ?_
        refine lv_iload_n C.1 C.2.1 dX4_arrive_147 rfl (lv_at hl 0 rfl) ?_
        refine mI_ld (k := 7) (j := wr N (f + c)) C hR (by simp only [mAr]; decide) rfl (show wr N (f + c) < 6 by omega) dX4_arrive_148 ?_
        refine lv_re (y := M 7 (wr N (f + c))) (by rw [ezM19, up2_f (by decide), ezM18, up2_f (by decide), ezM17, up2_f (by decide), ezM2, up2_f (by decide), ezM1, up2_f (by decide)]) ?_
        refine lv_isub C.1 C.2.1 dX4_arrive_149 ?_
        refine lv_goto (tgt := 154) C.1 C.2.1 dX4_arrive_150 (by decide) ?_
        refine mI_st (k := 9) (j := wr N (f + c)) C hR hS (by simp only [mAr]; decide) rfl (show wr N (f + c) < 6 by omega) dX4_arrive_154 (fun zM25 H locs ezM25 hR hS => ?_)
        refine lv_aload_n C.1 C.2.1 dX4_arrive_155 rfl (lv_at hl 2 rfl) ?_
        refine m_get C hR 7 (by decide) rfl fl_X4_23 (v := .ref (mA d 7)) rfl dX4_arrive_156 ?_
        refine lv_iload_n C.1 C.2.1 dX4_arrive_159 rfl (lv_at hl 0 rfl) ?_
        refine lv_aload_n C.1 C.2.1 dX4_arrive_160 rfl (lv_at hl 2 rfl) ?_
        refine m_get C hR 8 (by decide) rfl fl_X4_26 (v := .ref (mA d 8)) rfl dX4_arrive_161 ?_
        refine lv_iload_n C.1 C.2.1 dX4_arrive_164 rfl (lv_at hl 0 rfl) ?_
        refine mI_ld (k := 8) (j := wr N (f + c)) C hR (by simp only [mAr]; decide) rfl (show wr N (f + c) < 6 by omega) dX4_arrive_165 ?_
        refine lv_re (y := M 8 (wr N (f + c))) (by rw [ezM25, up2_f (by decide), ezM19, up2_f (by decide), ezM18, up2_f (by decide), ezM17, up2_f (by decide), ezM2, up2_f (by decide), ezM1, up2_f (by decide)]) ?_
        refine lv_if_ne (tgt := 173) C.1 C.2.1 dX4_arrive_166 (by decide) (fun c166 => ?_) (fun c166 => ?_)
        · skip
          exact absurd c134 c166
        · skip
          refine lv_iconst (v := nI 0) C.1 C.2.1 dX4_arrive_169 (by decide) ?_
          refine lv_goto (tgt := 179) C.1 C.2.1 dX4_arrive_170 (by decide) ?_
          refine mI_st (k := 7) (j := wr N (f + c)) C hR hS (by simp only [mAr]; decide) rfl (show wr N (f + c) < 6 by omega) dX4_arrive_179 (fun zM26 H locs ezM26 hR hS => ?_)
          refine lv_aload_n C.1 C.2.1 dX4_arrive_180 rfl (lv_at hl 2 rfl) ?_
          refine m_get C hR 8 (by decide) rfl fl_X4_26 (v := .ref (mA d 8)) rfl dX4_arrive_181 ?_
          refine lv_iload_n C.1 C.2.1 dX4_arrive_184 rfl (lv_at hl 0 rfl) ?_
          refine lv_iconst (v := nI 0) C.1 C.2.1 dX4_arrive_185 (by decide) ?_
          refine mI_st (k := 8) (j := wr N (f + c)) C hR hS (by simp only [mAr]; decide) rfl (show wr N (f + c) < 6 by omega) dX4_arrive_186 (fun zM27 H locs ezM27 hR hS => ?_)
          refine lv_aload_n C.1 C.2.1 dX4_arrive_187 rfl (lv_at hl 2 rfl) ?_
          refine m_get C hR 10 (by decide) rfl fl_X4_32 (v := .ref (mA d 10)) rfl dX4_arrive_188 ?_
          refine lv_iload_n C.1 C.2.1 dX4_arrive_191 rfl (lv_at hl 0 rfl) ?_
          refine lv_aload_n C.1 C.2.1 dX4_arrive_192 rfl (lv_at hl 2 rfl) ?_
          refine m_get C hR 6 (by decide) rfl fl_X4_20 (v := .ref (mA d 6)) rfl dX4_arrive_193 ?_
          refine lv_iload_n C.1 C.2.1 dX4_arrive_196 rfl (lv_at hl 0 rfl) ?_
          refine mI_ld (k := 6) (j := wr N (f + c)) C hR (by simp only [mAr]; decide) rfl (show wr N (f + c) < 6 by omega) dX4_arrive_197 ?_
          refine lv_re (y := M 6 (wr N (f + c))) (by rw [ezM27, up2_f (by decide), ezM26, up2_f (by decide), ezM25, up2_f (by decide), ezM19, up2_f (by decide), ezM18, up2_f (by decide), ezM17, up2_f (by decide), ezM2, up2_f (by decide), ezM1, up2_f (by decide)]) ?_
          refine mI_st (k := 10) (j := wr N (f + c)) C hR hS (by simp only [mAr]; decide) rfl (show wr N (f + c) < 6 by omega) dX4_arrive_198 (fun zM28 H locs ezM28 hR hS => ?_)
          refine lv_aload_n C.1 C.2.1 dX4_arrive_199 rfl (lv_at hl 2 rfl) ?_
          refine m_get C hR 12 (by decide) rfl fl_X4_38 (v := .ref (mA d 12)) rfl dX4_arrive_200 ?_
          refine lv_iload_n C.1 C.2.1 dX4_arrive_203 rfl (lv_at hl 0 rfl) ?_
          refine lv_iconst (v := nI 0) C.1 C.2.1 dX4_arrive_204 (by decide) ?_
          refine mZ_st (k := 12) (j := wr N (f + c)) C hR hS (by simp only [mAr]; decide) rfl (show wr N (f + c) < 6 by omega) (Or.inl rfl) dX4_arrive_205 (fun zM29 H locs ezM29 hR hS => ?_)
          have hs : s_X4_arrive M N f p L c = zM29 := (if_neg c77).trans ((if_pos c90).trans ((if_pos c134).trans (by rw [ezM29, ezM28, ezM27, ezM26, ezM25, ezM19, ezM18, ezM17, ezM2, ezM1])))
          rw [hs]
          have hf : f_X4_arrive M G N f p L c = G3 := (show _ = va_up G (wr N (f + c)) (FP.fadd (G (wr N (f + c))) (FP.fmul (FP.fsub (FP.i2f (M 11 (wr N (f + c)))) (G (wr N (f + c)))) 1048576000)) from rfl).trans (by rw [eG3]; try simp only [ezM29, ezM28, ezM27, ezM26, ezM25, ezM19, ezM18, ezM17, ezM2, ezM1, true_and])
          rw [hf]
          exact endv C hr hlk hR hS dX4_arrive_206
    · skip
      refine lv_aload_n C.1 C.2.1 dX4_arrive_93 rfl (lv_at hl 2 rfl) ?_
      refine m_get C hR 11 (by decide) rfl fl_X4_35 (v := .ref (mA d 11)) rfl dX4_arrive_94 ?_
      refine lv_iload_n C.1 C.2.1 dX4_arrive_97 rfl (lv_at hl 0 rfl) ?_
      refine mI_ld (k := 11) (j := wr N (f + c)) C hR (by simp only [mAr]; decide) rfl (show wr N (f + c) < 6 by omega) dX4_arrive_98 ?_
      refine lv_re (y := M 11 (wr N (f + c))) (by rw [ezM2, up2_f (by decide), ezM1, up2_f (by decide)]) ?_
      refine lv_goto (tgt := 106) C.1 C.2.1 dX4_arrive_99 (by decide) ?_
      refine m_put C hR hS 4 (by decide) fl_X4_150 dX4_arrive_106 (fun zM30 H locs ezM30 hR hS => ?_)
      refine lv_aload_n C.1 C.2.1 dX4_arrive_109 rfl (lv_at hl 2 rfl) ?_
      refine m_get C hR 13 (by decide) rfl fl_X4_41 (v := .ref (mA d 13)) rfl dX4_arrive_110 ?_
      refine lv_iload_n C.1 C.2.1 dX4_arrive_113 rfl (lv_at hl 0 rfl) ?_
      refine lv_iconst (v := nI 1) C.1 C.2.1 dX4_arrive_114 (by decide) ?_
      refine mZ_st (k := 13) (j := wr N (f + c)) C hR hS (by simp only [mAr]; decide) rfl (show wr N (f + c) < 6 by omega) (Or.inr rfl) dX4_arrive_115 (fun zM31 H locs ezM31 hR hS => ?_)
      refine lv_aload_n C.1 C.2.1 dX4_arrive_116 rfl (lv_at hl 2 rfl) ?_
      refine m_get C hR 11 (by decide) rfl fl_X4_35 (v := .ref (mA d 11)) rfl dX4_arrive_117 ?_
      refine lv_iload_n C.1 C.2.1 dX4_arrive_120 rfl (lv_at hl 0 rfl) ?_
      refine lv_iconst (v := nI 0) C.1 C.2.1 dX4_arrive_121 (by decide) ?_
      refine mI_st (k := 11) (j := wr N (f + c)) C hR hS (by simp only [mAr]; decide) rfl (show wr N (f + c) < 6 by omega) dX4_arrive_122 (fun zM32 H locs ezM32 hR hS => ?_)
      refine lv_aload_n C.1 C.2.1 dX4_arrive_123 rfl (lv_at hl 2 rfl) ?_
      refine m_get C hR 9 (by decide) rfl fl_X4_29 (v := .ref (mA d 9)) rfl dX4_arrive_124 ?_
      refine lv_iload_n C.1 C.2.1 dX4_arrive_127 rfl (lv_at hl 0 rfl) ?_
      refine lv_aload_n C.1 C.2.1 dX4_arrive_128 rfl (lv_at hl 2 rfl) ?_
      refine m_get C hR 8 (by decide) rfl fl_X4_26 (v := .ref (mA d 8)) rfl dX4_arrive_129 ?_
      refine lv_iload_n C.1 C.2.1 dX4_arrive_132 rfl (lv_at hl 0 rfl) ?_
      refine mI_ld (k := 8) (j := wr N (f + c)) C hR (by simp only [mAr]; decide) rfl (show wr N (f + c) < 6 by omega) dX4_arrive_133 ?_
      refine lv_re (y := M 8 (wr N (f + c))) (by rw [ezM32, up2_f (by decide), ezM31, up2_f (by decide), ezM30, up2_f (by decide), ezM2, up2_f (by decide), ezM1, up2_f (by decide)]) ?_
      refine lv_if_ne (tgt := 153) C.1 C.2.1 dX4_arrive_134 (by decide) (fun c134 => ?_) (fun c134 => ?_)
      · skip
        refine lv_iconst (v := nI 0) C.1 C.2.1 dX4_arrive_153 (by decide) ?_
        refine mI_st (k := 9) (j := wr N (f + c)) C hR hS (by simp only [mAr]; decide) rfl (show wr N (f + c) < 6 by omega) dX4_arrive_154 (fun zM33 H locs ezM33 hR hS => ?_)
        refine lv_aload_n C.1 C.2.1 dX4_arrive_155 rfl (lv_at hl 2 rfl) ?_
        refine m_get C hR 7 (by decide) rfl fl_X4_23 (v := .ref (mA d 7)) rfl dX4_arrive_156 ?_
        refine lv_iload_n C.1 C.2.1 dX4_arrive_159 rfl (lv_at hl 0 rfl) ?_
        refine lv_aload_n C.1 C.2.1 dX4_arrive_160 rfl (lv_at hl 2 rfl) ?_
        refine m_get C hR 8 (by decide) rfl fl_X4_26 (v := .ref (mA d 8)) rfl dX4_arrive_161 ?_
        refine lv_iload_n C.1 C.2.1 dX4_arrive_164 rfl (lv_at hl 0 rfl) ?_
        refine mI_ld (k := 8) (j := wr N (f + c)) C hR (by simp only [mAr]; decide) rfl (show wr N (f + c) < 6 by omega) dX4_arrive_165 ?_
        refine lv_re (y := M 8 (wr N (f + c))) (by rw [ezM33, up2_f (by decide), ezM32, up2_f (by decide), ezM31, up2_f (by decide), ezM30, up2_f (by decide), ezM2, up2_f (by decide), ezM1, up2_f (by decide)]) ?_
        refine lv_if_ne (tgt := 173) C.1 C.2.1 dX4_arrive_166 (by decide) (fun c166 => ?_) (fun c166 => ?_)
        · skip
          refine lv_aload_n C.1 C.2.1 dX4_arrive_173 rfl (lv_at hl 2 rfl) ?_
          refine m_get C hR 7 (by decide) rfl fl_X4_23 (v := .ref (mA d 7)) rfl dX4_arrive_174 ?_
          refine lv_iload_n C.1 C.2.1 dX4_arrive_177 rfl (lv_at hl 0 rfl) ?_
          refine mI_ld (k := 7) (j := wr N (f + c)) C hR (by simp only [mAr]; decide) rfl (show wr N (f + c) < 6 by omega) dX4_arrive_178 ?_
          refine lv_re (y := M 7 (wr N (f + c))) (by rw [ezM33, up2_f (by decide), ezM32, up2_f (by decide), ezM31, up2_f (by decide), ezM30, up2_f (by decide), ezM2, up2_f (by decide), ezM1, up2_f (by decide)]) ?_
          refine mI_st (k := 7) (j := wr N (f + c)) C hR hS (by simp only [mAr]; decide) rfl (show wr N (f + c) < 6 by omega) dX4_arrive_179 (fun zM34 H locs ezM34 hR hS => ?_)
          refine lv_aload_n C.1 C.2.1 dX4_arrive_180 rfl (lv_at hl 2 rfl) ?_
          refine m_get C hR 8 (by decide) rfl fl_X4_26 (v := .ref (mA d 8)) rfl dX4_arrive_181 ?_
          refine lv_iload_n C.1 C.2.1 dX4_arrive_184 rfl (lv_at hl 0 rfl) ?_
          refine lv_iconst (v := nI 0) C.1 C.2.1 dX4_arrive_185 (by decide) ?_
          refine mI_st (k := 8) (j := wr N (f + c)) C hR hS (by simp only [mAr]; decide) rfl (show wr N (f + c) < 6 by omega) dX4_arrive_186 (fun zM35 H locs ezM35 hR hS => ?_)
          refine lv_aload_n C.1 C.2.1 dX4_arrive_187 rfl (lv_at hl 2 rfl) ?_
          refine m_get C hR 10 (by decide) rfl fl_X4_32 (v := .ref (mA d 10)) rfl dX4_arrive_188 ?_
          refine lv_iload_n C.1 C.2.1 dX4_arrive_191 rfl (lv_at hl 0 rfl) ?_
          refine lv_aload_n C.1 C.2.1 dX4_arrive_192 rfl (lv_at hl 2 rfl) ?_
          refine m_get C hR 6 (by decide) rfl fl_X4_20 (v := .ref (mA d 6)) rfl dX4_arrive_193 ?_
          refine lv_iload_n C.1 C.2.1 dX4_arrive_196 rfl (lv_at hl 0 rfl) ?_
          refine mI_ld (k := 6) (j := wr N (f + c)) C hR (by simp only [mAr]; decide) rfl (show wr N (f + c) < 6 by omega) dX4_arrive_197 ?_
          refine lv_re (y := M 6 (wr N (f + c))) (by rw [ezM35, up2_f (by decide), ezM34, up2_f (by decide), ezM33, up2_f (by decide), ezM32, up2_f (by decide), ezM31, up2_f (by decide), ezM30, up2_f (by decide), ezM2, up2_f (by decide), ezM1, up2_f (by decide)]) ?_
          refine mI_st (k := 10) (j := wr N (f + c)) C hR hS (by simp only [mAr]; decide) rfl (show wr N (f + c) < 6 by omega) dX4_arrive_198 (fun zM36 H locs ezM36 hR hS => ?_)
          refine lv_aload_n C.1 C.2.1 dX4_arrive_199 rfl (lv_at hl 2 rfl) ?_
          refine m_get C hR 12 (by decide) rfl fl_X4_38 (v := .ref (mA d 12)) rfl dX4_arrive_200 ?_
          refine lv_iload_n C.1 C.2.1 dX4_arrive_203 rfl (lv_at hl 0 rfl) ?_
          refine lv_iconst (v := nI 0) C.1 C.2.1 dX4_arrive_204 (by decide) ?_
          refine mZ_st (k := 12) (j := wr N (f + c)) C hR hS (by simp only [mAr]; decide) rfl (show wr N (f + c) < 6 by omega) (Or.inl rfl) dX4_arrive_205 (fun zM37 H locs ezM37 hR hS => ?_)
          have hs : s_X4_arrive M N f p L c = zM37 := (if_neg c77).trans ((if_neg c90).trans ((if_neg c134).trans (by rw [ezM37, ezM36, ezM35, ezM34, ezM33, ezM32, ezM31, ezM30, ezM2, ezM1])))
          rw [hs]
          have hf : f_X4_arrive M G N f p L c = G3 := (show _ = va_up G (wr N (f + c)) (FP.fadd (G (wr N (f + c))) (FP.fmul (FP.fsub (FP.i2f (M 11 (wr N (f + c)))) (G (wr N (f + c)))) 1048576000)) from rfl).trans (by rw [eG3]; try simp only [ezM37, ezM36, ezM35, ezM34, ezM33, ezM32, ezM31, ezM30, ezM2, ezM1, true_and])
          rw [hf]
          exact endv C hr hlk hR hS dX4_arrive_206
        · skip
          exact absurd c166 c134
      · skip
        refine lv_aload_n C.1 C.2.1 dX4_arrive_137 rfl (lv_at hl 2 rfl) ?_
        refine m_get C hR 29 (by decide) rfl fl_X4_90 (v := .ref (mA d 29)) rfl dX4_arrive_138 ?_
        refine lv_iload_n C.1 C.2.1 dX4_arrive_141 rfl (lv_at hl 3 rfl) ?_
        refine mI_ld (k := 29) (j := f) C hR (by simp only [mAr]; decide) rfl (show f < 6 by omega) dX4_arrive_142 ?_
        refine lv_re (y := M 29 f) (by rw [ezM32, up2_f (by decide), ezM31, up2_f (by decide), ezM30, up2_f (by decide), ezM2, up2_f (by decide), ezM1, up2_f (by decide)]) ?_
        refine lv_aload_n C.1 C.2.1 dX4_arrive_143 rfl (lv_at hl 2 rfl) ?_
        refine m_get C hR 7 (by decide) rfl fl_X4_23 (v := .ref (mA d 7)) rfl dX4_arrive_144 ?_
        refine lv_iload_n C.1 C.2.1 dX4_arrive_147 rfl (lv_at hl 0 rfl) ?_
        refine mI_ld (k := 7) (j := wr N (f + c)) C hR (by simp only [mAr]; decide) rfl (show wr N (f + c) < 6 by omega) dX4_arrive_148 ?_
        refine lv_re (y := M 7 (wr N (f + c))) (by rw [ezM32, up2_f (by decide), ezM31, up2_f (by decide), ezM30, up2_f (by decide), ezM2, up2_f (by decide), ezM1, up2_f (by decide)]) ?_
        refine lv_isub C.1 C.2.1 dX4_arrive_149 ?_
        refine lv_goto (tgt := 154) C.1 C.2.1 dX4_arrive_150 (by decide) ?_
        refine mI_st (k := 9) (j := wr N (f + c)) C hR hS (by simp only [mAr]; decide) rfl (show wr N (f + c) < 6 by omega) dX4_arrive_154 (fun zM38 H locs ezM38 hR hS => ?_)
        refine lv_aload_n C.1 C.2.1 dX4_arrive_155 rfl (lv_at hl 2 rfl) ?_
        refine m_get C hR 7 (by decide) rfl fl_X4_23 (v := .ref (mA d 7)) rfl dX4_arrive_156 ?_
        refine lv_iload_n C.1 C.2.1 dX4_arrive_159 rfl (lv_at hl 0 rfl) ?_
        refine lv_aload_n C.1 C.2.1 dX4_arrive_160 rfl (lv_at hl 2 rfl) ?_
        refine m_get C hR 8 (by decide) rfl fl_X4_26 (v := .ref (mA d 8)) rfl dX4_arrive_161 ?_
        refine lv_iload_n C.1 C.2.1 dX4_arrive_164 rfl (lv_at hl 0 rfl) ?_
        refine mI_ld (k := 8) (j := wr N (f + c)) C hR (by simp only [mAr]; decide) rfl (show wr N (f + c) < 6 by omega) dX4_arrive_165 ?_
        refine lv_re (y := M 8 (wr N (f + c))) (by rw [ezM38, up2_f (by decide), ezM32, up2_f (by decide), ezM31, up2_f (by decide), ezM30, up2_f (by decide), ezM2, up2_f (by decide), ezM1, up2_f (by decide)]) ?_
        refine lv_if_ne (tgt := 173) C.1 C.2.1 dX4_arrive_166 (by decide) (fun c166 => ?_) (fun c166 => ?_)
        · skip
          exact absurd c134 c166
        · skip
          refine lv_iconst (v := nI 0) C.1 C.2.1 dX4_arrive_169 (by decide) ?_
          refine lv_goto (tgt := 179) C.1 C.2.1 dX4_arrive_170 (by decide) ?_
          refine mI_st (k := 7) (j := wr N (f + c)) C hR hS (by simp only [mAr]; decide) rfl (show wr N (f + c) < 6 by omega) dX4_arrive_179 (fun zM39 H locs ezM39 hR hS => ?_)
          refine lv_aload_n C.1 C.2.1 dX4_arrive_180 rfl (lv_at hl 2 rfl) ?_
          refine m_get C hR 8 (by decide) rfl fl_X4_26 (v := .ref (mA d 8)) rfl dX4_arrive_181 ?_
          refine lv_iload_n C.1 C.2.1 dX4_arrive_184 rfl (lv_at hl 0 rfl) ?_
          refine lv_iconst (v := nI 0) C.1 C.2.1 dX4_arrive_185 (by decide) ?_
          refine mI_st (k := 8) (j := wr N (f + c)) C hR hS (by simp only [mAr]; decide) rfl (show wr N (f + c) < 6 by omega) dX4_arrive_186 (fun zM40 H locs ezM40 hR hS => ?_)
          refine lv_aload_n C.1 C.2.1 dX4_arrive_187 rfl (lv_at hl 2 rfl) ?_
          refine m_get C hR 10 (by decide) rfl fl_X4_32 (v := .ref (mA d 10)) rfl dX4_arrive_188 ?_
          refine lv_iload_n C.1 C.2.1 dX4_arrive_191 rfl (lv_at hl 0 rfl) ?_
          refine lv_aload_n C.1 C.2.1 dX4_arrive_192 rfl (lv_at hl 2 rfl) ?_
          refine m_get C hR 6 (by decide) rfl fl_X4_20 (v := .ref (mA d 6)) rfl dX4_arrive_193 ?_
          refine lv_iload_n C.1 C.2.1 dX4_arrive_196 rfl (lv_at hl 0 rfl) ?_
          refine mI_ld (k := 6) (j := wr N (f + c)) C hR (by simp only [mAr]; decide) rfl (show wr N (f + c) < 6 by omega) dX4_arrive_197 ?_
          refine lv_re (y := M 6 (wr N (f + c))) (by rw [ezM40, up2_f (by decide), ezM39, up2_f (by decide), ezM38, up2_f (by decide), ezM32, up2_f (by decide), ezM31, up2_f (by decide), ezM30, up2_f (by decide), ezM2, up2_f (by decide), ezM1, up2_f (by decide)]) ?_
          refine mI_st (k := 10) (j := wr N (f + c)) C hR hS (by simp only [mAr]; decide) rfl (show wr N (f + c) < 6 by omega) dX4_arrive_198 (fun zM41 H locs ezM41 hR hS => ?_)
          refine lv_aload_n C.1 C.2.1 dX4_arrive_199 rfl (lv_at hl 2 rfl) ?_
          refine m_get C hR 12 (by decide) rfl fl_X4_38 (v := .ref (mA d 12)) rfl dX4_arrive_200 ?_
          refine lv_iload_n C.1 C.2.1 dX4_arrive_203 rfl (lv_at hl 0 rfl) ?_
          refine lv_iconst (v := nI 0) C.1 C.2.1 dX4_arrive_204 (by decide) ?_
          refine mZ_st (k := 12) (j := wr N (f + c)) C hR hS (by simp only [mAr]; decide) rfl (show wr N (f + c) < 6 by omega) (Or.inl rfl) dX4_arrive_205 (fun zM42 H locs ezM42 hR hS => ?_)
          have hs : s_X4_arrive M N f p L c = zM42 := (if_neg c77).trans ((if_neg c90).trans ((if_pos c134).trans (by rw [ezM42, ezM41, ezM40, ezM39, ezM38, ezM32, ezM31, ezM30, ezM2, ezM1])))
          rw [hs]
          have hf : f_X4_arrive M G N f p L c = G3 := (show _ = va_up G (wr N (f + c)) (FP.fadd (G (wr N (f + c))) (FP.fmul (FP.fsub (FP.i2f (M 11 (wr N (f + c)))) (G (wr N (f + c)))) 1048576000)) from rfl).trans (by rw [eG3]; try simp only [ezM42, ezM41, ezM40, ezM39, ezM38, ezM32, ezM31, ezM30, ezM2, ezM1, true_and])
          rw [hf]
          exact endv C hr hlk hR hS dX4_arrive_206

def s_X4_finish (M : SX) (N : Nat) (f p L q z t : Nat) : SX := if M 34 t = nI f then (up2 (up2 (up2 (up2 (mto M f q z) 18 (wr N (f + p)) (M 18 (wr N (f + p)) + (M 23 (5 * q)))) 15 t (M 15 t + (nI 1))) 16 t (M 16 t + (M 23 (5 * q)))) 17 t (nI (wr N (f + p)))) else (up2 (up2 (mto M f q z) 18 (wr N (f + p)) (M 18 (wr N (f + p)) + (M 23 (5 * q)))) 19 (wr N (f + p)) (M 19 (wr N (f + p)) + (nI 1)))
set_option maxHeartbeats 4000000 in
set_option maxRecDepth 100000 in
theorem k_X4_finish (l : Launch) (g : GX) (d N : Nat) (M : SX) (G : FX) (hN : N ≤ 6) (f p L : Nat) (hf : f < N) (hp : p < L) (hL : L ≤ N) (h30 : M 30 f = nI p) (h25 : M 25 f = nI L) (hrow : ∀ k, k < L → M 26 (6 * f + k) = nI (wr N (f + k))) (q z t : Nat) (hq : q < 12) (hz1 : 1 ≤ z) (hz : z ≤ 5) (ht : t < 6) (h32 : M 32 f = nI q) (h21 : M 21 q = nI z) (h22 : M 22 (5 * q) = nI t)  : MR l yX4_finish (.code yX4_finish cX4_finish 6 none :: tb) (rmk 1 23) g (RepM g d N M G) (RepM g d N (s_X4_finish M N f p L q z t) G) (AM d) [.ref d, .int (nI f)] none := by
  refine MR.start RX4 (by decide) rfl (Nat.le_of_ble_eq_true rfl) (fun zp ze zs zm zb zt zc ls C hr hlk hR hS hl => ?_)
  have hl : lv_has ls 6 [(0, .ref d), (1, .int (nI f))] := hl
  have hwp := wr_lt (N := N) (i := f + p) (by omega)
  refine lv_aload_n C.1 C.2.1 dX4_finish_0 rfl (lv_at hl 0 rfl) ?_
  refine lv_iload_n C.1 C.2.1 dX4_finish_1 rfl (lv_at hl 1 rfl) ?_
  refine cxV (b := d) (As := [.int (nI f)]) (rest := []) (ci := 4) (q := (RX4, TX4, 36)) C (k_X4_holder l g d N M G hN f p (wr N (f + p)) (by omega) (by omega) (by rw [h30]) (by rw [hrow p hp])) cf_X4_holder ml_X4_146 ⟨by decide, by decide⟩ ⟨rfl, rfl⟩ rfl (hR.1) rfl hl.1 rfl (Nat.le_of_ble_eq_true rfl) dX4_finish_2 hR ⟨Nat.zero_le _, Nat.zero_le _⟩ hS (fun _ h => h) (fun H locs hR hS _ _ => ?_)
  simp only [Option.toList, List.cons_append, List.nil_append]
  refine lv_istore_n (lv' := [(2, .int (nI (wr N (f + p)))), (0, .ref d), (1, .int (nI f))]) C.1 C.2.1 dX4_finish_5 rfl hl (by decide) rfl (fun ls hl => ?_)
  refine lv_iconst (v := nI 5) C.1 C.2.1 dX4_finish_6 (by decide) ?_
  refine lv_aload_n C.1 C.2.1 dX4_finish_7 rfl (lv_at hl 1 rfl) ?_
  refine m_get C hR 32 (by decide) rfl fl_X4_99 (v := .ref (mA d 32)) rfl dX4_finish_8 ?_
  refine lv_iload_n C.1 C.2.1 dX4_finish_11 rfl (lv_at hl 2 rfl) ?_
  refine mI_ld (k := 32) (j := f) C hR (by simp only [mAr]; decide) rfl (show f < 6 by omega) dX4_finish_12 ?_
  refine lv_re (y := nI q) (by rw [h32]) ?_
  refine n_imul (z := 5 * q) C dX4_finish_13 (by omega) ?_
  refine lv_istore_n (lv' := [(3, .int (nI (5 * q))), (2, .int (nI (wr N (f + p)))), (0, .ref d), (1, .int (nI f))]) C.1 C.2.1 dX4_finish_14 rfl hl (by decide) rfl (fun ls hl => ?_)
  refine lv_aload_n C.1 C.2.1 dX4_finish_15 rfl (lv_at hl 2 rfl) ?_
  refine m_get C hR 22 (by decide) rfl fl_X4_69 (v := .ref (mA d 22)) rfl dX4_finish_16 ?_
  refine lv_iload_n C.1 C.2.1 dX4_finish_19 rfl (lv_at hl 0 rfl) ?_
  refine mI_ld (k := 22) (j := 5 * q) C hR (by simp only [mAr]; decide) rfl (show 5 * q < 60 by omega) dX4_finish_20 ?_
  refine lv_re (y := nI t) (by rw [h22]) ?_
  refine lv_istore (lv' := [(4, .int (nI t)), (3, .int (nI (5 * q))), (2, .int (nI (wr N (f + p)))), (0, .ref d), (1, .int (nI f))]) C.1 C.2.1 dX4_finish_21 hl (by decide) rfl (fun ls hl => ?_)
  refine lv_aload_n C.1 C.2.1 dX4_finish_23 rfl (lv_at hl 3 rfl) ?_
  refine m_get C hR 23 (by decide) rfl fl_X4_72 (v := .ref (mA d 23)) rfl dX4_finish_24 ?_
  refine lv_iload_n C.1 C.2.1 dX4_finish_27 rfl (lv_at hl 1 rfl) ?_
  refine mI_ld (k := 23) (j := 5 * q) C hR (by simp only [mAr]; decide) rfl (show 5 * q < 60 by omega) dX4_finish_28 ?_
  refine lv_istore (lv' := [(5, .int (M 23 (5 * q))), (4, .int (nI t)), (3, .int (nI (5 * q))), (2, .int (nI (wr N (f + p)))), (0, .ref d), (1, .int (nI f))]) C.1 C.2.1 dX4_finish_29 hl (by decide) rfl (fun ls hl => ?_)
  refine lv_aload_n C.1 C.2.1 dX4_finish_31 rfl (lv_at hl 4 rfl) ?_
  refine lv_iload_n C.1 C.2.1 dX4_finish_32 rfl (lv_at hl 5 rfl) ?_
  refine cxV (b := d) (As := [.int (nI f)]) (rest := []) (ci := 4) (q := (RX4, TX4, 36)) C (k_X4_takeOut l g d N M G hN f q z (by omega) (by omega) (by omega) (by omega) (by rw [h32]) (by rw [h21])) cf_X4_takeOut ml_X4_126 ⟨by decide, by decide⟩ ⟨rfl, rfl⟩ rfl (hR.1) rfl hl.1 rfl (Nat.le_of_ble_eq_true rfl) dX4_finish_33 hR ⟨Nat.zero_le _, Nat.zero_le _⟩ hS (fun _ h => h) (fun H locs hR hS _ _ => ?_)
  obtain ⟨zM1, ezM1⟩ : ∃ y, y = mto M f q z := ⟨_, rfl⟩
  rw [← ezM1] at hR
  simp only [Option.toList, List.nil_append]
  refine lv_aload_n C.1 C.2.1 dX4_finish_36 rfl (lv_at hl 4 rfl) ?_
  refine m_get C hR 18 (by decide) rfl fl_X4_56 (v := .ref (mA d 18)) rfl dX4_finish_37 ?_
  refine lv_iload_n C.1 C.2.1 dX4_finish_40 rfl (lv_at hl 3 rfl) ?_
  refine lv_aload_n C.1 C.2.1 dX4_finish_41 rfl (lv_at hl 4 rfl) ?_
  refine m_get C hR 18 (by decide) rfl fl_X4_56 (v := .ref (mA d 18)) rfl dX4_finish_42 ?_
  refine lv_iload_n C.1 C.2.1 dX4_finish_45 rfl (lv_at hl 3 rfl) ?_
  refine mI_ld (k := 18) (j := wr N (f + p)) C hR (by simp only [mAr]; decide) rfl (show wr N (f + p) < 6 by omega) dX4_finish_46 ?_
  refine lv_re (y := M 18 (wr N (f + p))) (by rw [ezM1, mto_o (by decide) (by decide)]) ?_
  refine lv_iload C.1 C.2.1 dX4_finish_47 (lv_at hl 0 rfl) ?_
  refine lv_iadd C.1 C.2.1 dX4_finish_49 ?_
  refine mI_st (k := 18) (j := wr N (f + p)) C hR hS (by simp only [mAr]; decide) rfl (show wr N (f + p) < 6 by omega) dX4_finish_50 (fun zM2 H locs ezM2 hR hS => ?_)
  refine lv_aload_n C.1 C.2.1 dX4_finish_51 rfl (lv_at hl 4 rfl) ?_
  refine m_get C hR 34 (by decide) rfl fl_X4_105 (v := .ref (mA d 34)) rfl dX4_finish_52 ?_
  refine lv_iload C.1 C.2.1 dX4_finish_55 (lv_at hl 1 rfl) ?_
  refine mI_ld (k := 34) (j := t) C hR (by simp only [mAr]; decide) rfl (show t < 6 by omega) dX4_finish_57 ?_
  refine lv_re (y := M 34 t) (by rw [ezM2, up2_f (by decide), ezM1, mto_o (by decide) (by decide)]) ?_
  refine lv_iload_n C.1 C.2.1 dX4_finish_58 rfl (lv_at hl 5 rfl) ?_
  refine lv_icmp_ne (tgt := 106) C.1 C.2.1 dX4_finish_59 (by decide) (fun c59 => ?_) (fun c59 => ?_)
  · skip
    refine lv_aload_n C.1 C.2.1 dX4_finish_106 rfl (lv_at hl 4 rfl) ?_
    refine m_get C hR 19 (by decide) rfl fl_X4_59 (v := .ref (mA d 19)) rfl dX4_finish_107 ?_
    refine lv_iload_n C.1 C.2.1 dX4_finish_110 rfl (lv_at hl 3 rfl) ?_
    refine lv_aload_n C.1 C.2.1 dX4_finish_111 rfl (lv_at hl 4 rfl) ?_
    refine m_get C hR 19 (by decide) rfl fl_X4_59 (v := .ref (mA d 19)) rfl dX4_finish_112 ?_
    refine lv_iload_n C.1 C.2.1 dX4_finish_115 rfl (lv_at hl 3 rfl) ?_
    refine mI_ld (k := 19) (j := wr N (f + p)) C hR (by simp only [mAr]; decide) rfl (show wr N (f + p) < 6 by omega) dX4_finish_116 ?_
    refine lv_re (y := M 19 (wr N (f + p))) (by rw [ezM2, up2_f (by decide), ezM1, mto_o (by decide) (by decide)]) ?_
    refine lv_iconst (v := nI 1) C.1 C.2.1 dX4_finish_117 (by decide) ?_
    refine lv_iadd C.1 C.2.1 dX4_finish_118 ?_
    refine mI_st (k := 19) (j := wr N (f + p)) C hR hS (by simp only [mAr]; decide) rfl (show wr N (f + p) < 6 by omega) dX4_finish_119 (fun zM3 H locs ezM3 hR hS => ?_)
    have hs : s_X4_finish M N f p L q z t = zM3 := (if_neg c59).trans (by rw [ezM3, ezM2, ezM1])
    rw [hs]
    exact endv C hr hlk hR hS dX4_finish_120
  · skip
    refine lv_aload_n C.1 C.2.1 dX4_finish_62 rfl (lv_at hl 4 rfl) ?_
    refine m_get C hR 15 (by decide) rfl fl_X4_47 (v := .ref (mA d 15)) rfl dX4_finish_63 ?_
    refine lv_iload C.1 C.2.1 dX4_finish_66 (lv_at hl 1 rfl) ?_
    refine lv_aload_n C.1 C.2.1 dX4_finish_68 rfl (lv_at hl 4 rfl) ?_
    refine m_get C hR 15 (by decide) rfl fl_X4_47 (v := .ref (mA d 15)) rfl dX4_finish_69 ?_
    refine lv_iload C.1 C.2.1 dX4_finish_72 (lv_at hl 1 rfl) ?_
    refine mI_ld (k := 15) (j := t) C hR (by simp only [mAr]; decide) rfl (show t < 6 by omega) dX4_finish_74 ?_
    refine lv_re (y := M 15 t) (by rw [ezM2, up2_f (by decide), ezM1, mto_o (by decide) (by decide)]) ?_
    refine lv_iconst (v := nI 1) C.1 C.2.1 dX4_finish_75 (by decide) ?_
    refine lv_iadd C.1 C.2.1 dX4_finish_76 ?_
    refine mI_st (k := 15) (j := t) C hR hS (by simp only [mAr]; decide) rfl (show t < 6 by omega) dX4_finish_77 (fun zM4 H locs ezM4 hR hS => ?_)
    refine lv_aload_n C.1 C.2.1 dX4_finish_78 rfl (lv_at hl 4 rfl) ?_
    refine m_get C hR 16 (by decide) rfl fl_X4_50 (v := .ref (mA d 16)) rfl dX4_finish_79 ?_
    refine lv_iload C.1 C.2.1 dX4_finish_82 (lv_at hl 1 rfl) ?_
    refine lv_aload_n C.1 C.2.1 dX4_finish_84 rfl (lv_at hl 4 rfl) ?_
    refine m_get C hR 16 (by decide) rfl fl_X4_50 (v := .ref (mA d 16)) rfl dX4_finish_85 ?_
    refine lv_iload C.1 C.2.1 dX4_finish_88 (lv_at hl 1 rfl) ?_
    refine mI_ld (k := 16) (j := t) C hR (by simp only [mAr]; decide) rfl (show t < 6 by omega) dX4_finish_90 ?_
    refine lv_re (y := M 16 t) (by rw [ezM4, up2_f (by decide), ezM2, up2_f (by decide), ezM1, mto_o (by decide) (by decide)]) ?_
    refine lv_iload C.1 C.2.1 dX4_finish_91 (lv_at hl 0 rfl) ?_
    refine lv_iadd C.1 C.2.1 dX4_finish_93 ?_
    refine mI_st (k := 16) (j := t) C hR hS (by simp only [mAr]; decide) rfl (show t < 6 by omega) dX4_finish_94 (fun zM5 H locs ezM5 hR hS => ?_)
    refine lv_aload_n C.1 C.2.1 dX4_finish_95 rfl (lv_at hl 4 rfl) ?_
    refine m_get C hR 17 (by decide) rfl fl_X4_53 (v := .ref (mA d 17)) rfl dX4_finish_96 ?_
    refine lv_iload C.1 C.2.1 dX4_finish_99 (lv_at hl 1 rfl) ?_
    refine lv_iload_n C.1 C.2.1 dX4_finish_101 rfl (lv_at hl 3 rfl) ?_
    refine mI_st (k := 17) (j := t) C hR hS (by simp only [mAr]; decide) rfl (show t < 6 by omega) dX4_finish_102 (fun zM6 H locs ezM6 hR hS => ?_)
    refine lv_goto (tgt := 120) C.1 C.2.1 dX4_finish_103 (by decide) ?_
    have hs : s_X4_finish M N f p L q z t = zM6 := (if_pos c59).trans (by rw [ezM6, ezM5, ezM4, ezM2, ezM1])
    rw [hs]
    exact endv C hr hlk hR hS dX4_finish_120

theorem mfin_32 {M : SX} {N f p L q z t : Nat} : s_X4_finish M N f p L q z t 32 f = -1 := by
  unfold s_X4_finish
  split
  all_goals
    repeat rw [up2_f (by decide)]
    exact up2_eq _ _ _ _
theorem mfin_o {M : SX} {N f p L q z t g k : Nat} (h : 25 ≤ g) (h2 : g ≠ 32) : s_X4_finish M N f p L q z t g k = M g k := by
  unfold s_X4_finish
  split
  all_goals
    repeat rw [up2_f (by omega)]
    exact mto_o (by omega) h2
def s_X4_begin (M : SX) (N : Nat) (f p L : Nat) : SX := if M 12 (wr N (f + p)) = 0 then (if M 21 (2 * (wr N (f + p))) ≤ 0 then (if M 21 (2 * (wr N (f + p)) + 1) ≤ 0 then (s_X4_leave M f (p) L) else (if M 9 (wr N (f + p)) ≤ 0 then (s_X4_leave M f (p) L) else (if M 9 (wr N (f + p)) < (((nI 3) - (M 24 (5 * (2 * (wr N (f + p)) + 1)))) * (M 29 f)) / (nI 4) then (s_X4_leave M f (p) L) else (up2 (up2 (up2 M 12 (wr N (f + p)) (nI 1)) 32 f (nI (2 * (wr N (f + p)) + 1))) 33 f (M 23 (5 * (2 * (wr N (f + p)) + 1))))))) else (if M 10 (wr N (f + p)) < M 23 (5 * (2 * (wr N (f + p)))) then (if M 21 (2 * (wr N (f + p)) + 1) ≤ 0 then (s_X4_leave M f (p) L) else (if M 9 (wr N (f + p)) ≤ 0 then (s_X4_leave M f (p) L) else (if M 9 (wr N (f + p)) < (((nI 3) - (M 24 (5 * (2 * (wr N (f + p)) + 1)))) * (M 29 f)) / (nI 4) then (s_X4_leave M f (p) L) else (up2 (up2 (up2 M 12 (wr N (f + p)) (nI 1)) 32 f (nI (2 * (wr N (f + p)) + 1))) 33 f (M 23 (5 * (2 * (wr N (f + p)) + 1))))))) else (up2 (up2 (up2 M 10 (wr N (f + p)) ((M 10 (wr N (f + p))) - (M 23 (5 * (2 * (wr N (f + p))))))) 32 f (nI (2 * (wr N (f + p))))) 33 f (M 23 (5 * (2 * (wr N (f + p)))))))) else (if M 21 (2 * (wr N (f + p)) + 1) ≤ 0 then (s_X4_leave M f (p) L) else (if M 9 (wr N (f + p)) ≤ 0 then (s_X4_leave M f (p) L) else (if M 9 (wr N (f + p)) < (((nI 3) - (M 24 (5 * (2 * (wr N (f + p)) + 1)))) * (M 29 f)) / (nI 4) then (s_X4_leave M f (p) L) else (up2 (up2 (up2 M 12 (wr N (f + p)) (nI 1)) 32 f (nI (2 * (wr N (f + p)) + 1))) 33 f (M 23 (5 * (2 * (wr N (f + p)) + 1)))))))
set_option maxHeartbeats 4000000 in
set_option maxRecDepth 100000 in
theorem k_X4_begin (l : Launch) (g : GX) (d N : Nat) (M : SX) (G : FX) (hN : N ≤ 6) (f p L : Nat) (hf : f < N) (hp : p < L) (hL : L ≤ N) (h30 : M 30 f = nI p) (h25 : M 25 f = nI L) (hrow : ∀ k, k < L → M 26 (6 * f + k) = nI (wr N (f + k)))  : MR l yX4_begin (.code yX4_begin cX4_begin 5 none :: tb) (rmk 1 21) g (RepM g d N M G) (RepM g d N (s_X4_begin M N f p L) G) (AM d) [.ref d, .int (nI f)] none := by
  refine MR.start RX4 (by decide) rfl (Nat.le_of_ble_eq_true rfl) (fun zp ze zs zm zb zt zc ls C hr hlk hR hS hl => ?_)
  have hl : lv_has ls 5 [(0, .ref d), (1, .int (nI f))] := hl
  have hwp := wr_lt (N := N) (i := f + p) (by omega)
  refine lv_aload_n C.1 C.2.1 dX4_begin_0 rfl (lv_at hl 0 rfl) ?_
  refine lv_iload_n C.1 C.2.1 dX4_begin_1 rfl (lv_at hl 1 rfl) ?_
  refine cxV (b := d) (As := [.int (nI f)]) (rest := []) (ci := 4) (q := (RX4, TX4, 36)) C (k_X4_holder l g d N M G hN f p (wr N (f + p)) (by omega) (by omega) (by rw [h30]) (by rw [hrow p hp])) cf_X4_holder ml_X4_146 ⟨by decide, by decide⟩ ⟨rfl, rfl⟩ rfl (hR.1) rfl hl.1 rfl (Nat.le_of_ble_eq_true rfl) dX4_begin_2 hR ⟨Nat.zero_le _, Nat.zero_le _⟩ hS (fun _ h => h) (fun H locs hR hS _ _ => ?_)
  simp only [Option.toList, List.cons_append, List.nil_append]
  refine lv_istore_n (lv' := [(2, .int (nI (wr N (f + p)))), (0, .ref d), (1, .int (nI f))]) C.1 C.2.1 dX4_begin_5 rfl hl (by decide) rfl (fun ls hl => ?_)
  refine lv_iconst (v := nI 2) C.1 C.2.1 dX4_begin_6 (by decide) ?_
  refine lv_iload_n C.1 C.2.1 dX4_begin_7 rfl (lv_at hl 0 rfl) ?_
  refine n_imul (z := 2 * (wr N (f + p))) C dX4_begin_8 (by omega) ?_
  refine lv_istore_n (lv' := [(3, .int (nI (2 * (wr N (f + p))))), (2, .int (nI (wr N (f + p)))), (0, .ref d), (1, .int (nI f))]) C.1 C.2.1 dX4_begin_9 rfl hl (by decide) rfl (fun ls hl => ?_)
  refine lv_iconst (v := nI 2) C.1 C.2.1 dX4_begin_10 (by decide) ?_
  refine lv_iload_n C.1 C.2.1 dX4_begin_11 rfl (lv_at hl 1 rfl) ?_
  refine n_imul (z := 2 * (wr N (f + p))) C dX4_begin_12 (by omega) ?_
  refine lv_iconst (v := nI 1) C.1 C.2.1 dX4_begin_13 (by decide) ?_
  refine n_iadd (z := 2 * (wr N (f + p)) + 1) C dX4_begin_14 (by omega) ?_
  refine lv_istore (lv' := [(4, .int (nI (2 * (wr N (f + p)) + 1))), (3, .int (nI (2 * (wr N (f + p))))), (2, .int (nI (wr N (f + p)))), (0, .ref d), (1, .int (nI f))]) C.1 C.2.1 dX4_begin_15 hl (by decide) rfl (fun ls hl => ?_)
  refine lv_aload_n C.1 C.2.1 dX4_begin_17 rfl (lv_at hl 3 rfl) ?_
  refine m_get C hR 12 (by decide) rfl fl_X4_38 (v := .ref (mA d 12)) rfl dX4_begin_18 ?_
  refine lv_iload_n C.1 C.2.1 dX4_begin_21 rfl (lv_at hl 2 rfl) ?_
  refine mZ_ld (k := 12) (j := wr N (f + p)) C hR (by simp only [mAr]; decide) rfl (show wr N (f + p) < 6 by omega) dX4_begin_22 ?_
  refine lv_if_ne (tgt := 97) C.1 C.2.1 dX4_begin_23 (by decide) (fun c23 => ?_) (fun c23 => ?_)
  · skip
    refine lv_aload_n C.1 C.2.1 dX4_begin_97 rfl (lv_at hl 3 rfl) ?_
    refine m_get C hR 21 (by decide) rfl fl_X4_66 (v := .ref (mA d 21)) rfl dX4_begin_98 ?_
    refine lv_iload C.1 C.2.1 dX4_begin_101 (lv_at hl 0 rfl) ?_
    refine mI_ld (k := 21) (j := 2 * (wr N (f + p)) + 1) C hR (by simp only [mAr]; decide) rfl (show 2 * (wr N (f + p)) + 1 < 12 by omega) dX4_begin_103 ?_
    refine lv_if_le (tgt := 178) C.1 C.2.1 dX4_begin_104 (by decide) (fun c104 => ?_) (fun c104 => ?_)
    · skip
      refine lv_aload_n C.1 C.2.1 dX4_begin_178 rfl (lv_at hl 3 rfl) ?_
      refine lv_iload_n C.1 C.2.1 dX4_begin_179 rfl (lv_at hl 4 rfl) ?_
      refine cxV (b := d) (As := [.int (nI f)]) (rest := []) (ci := 4) (q := (RX4, TX4, 36)) C (k_X4_leave l g d N M G hN f (p) L (by omega) (by omega) (by omega) (by rw [h30]) (by rw [h25])) cf_X4_leave ml_X4_143 ⟨by decide, by decide⟩ ⟨rfl, rfl⟩ rfl (hR.1) rfl hl.1 rfl (Nat.le_of_ble_eq_true rfl) dX4_begin_180 hR ⟨Nat.zero_le _, Nat.zero_le _⟩ hS (fun _ h => h) (fun H locs hR hS _ _ => ?_)
      obtain ⟨zM1, ezM1⟩ : ∃ y, y = s_X4_leave M f (p) L := ⟨_, rfl⟩
      rw [← ezM1] at hR
      simp only [Option.toList, List.nil_append]
      have hs : s_X4_begin M N f p L = zM1 := (if_neg c23).trans ((if_pos c104).trans (by rw [ezM1]))
      rw [hs]
      exact endv C hr hlk hR hS dX4_begin_183
    · skip
      refine lv_aload_n C.1 C.2.1 dX4_begin_107 rfl (lv_at hl 3 rfl) ?_
      refine m_get C hR 9 (by decide) rfl fl_X4_29 (v := .ref (mA d 9)) rfl dX4_begin_108 ?_
      refine lv_iload_n C.1 C.2.1 dX4_begin_111 rfl (lv_at hl 2 rfl) ?_
      refine mI_ld (k := 9) (j := wr N (f + p)) C hR (by simp only [mAr]; decide) rfl (show wr N (f + p) < 6 by omega) dX4_begin_112 ?_
      refine lv_if_le (tgt := 178) C.1 C.2.1 dX4_begin_113 (by decide) (fun c113 => ?_) (fun c113 => ?_)
      · skip
        refine lv_aload_n C.1 C.2.1 dX4_begin_178 rfl (lv_at hl 3 rfl) ?_
        refine lv_iload_n C.1 C.2.1 dX4_begin_179 rfl (lv_at hl 4 rfl) ?_
        refine cxV (b := d) (As := [.int (nI f)]) (rest := []) (ci := 4) (q := (RX4, TX4, 36)) C (k_X4_leave l g d N M G hN f (p) L (by omega) (by omega) (by omega) (by rw [h30]) (by rw [h25])) cf_X4_leave ml_X4_143 ⟨by decide, by decide⟩ ⟨rfl, rfl⟩ rfl (hR.1) rfl hl.1 rfl (Nat.le_of_ble_eq_true rfl) dX4_begin_180 hR ⟨Nat.zero_le _, Nat.zero_le _⟩ hS (fun _ h => h) (fun H locs hR hS _ _ => ?_)
        obtain ⟨zM2, ezM2⟩ : ∃ y, y = s_X4_leave M f (p) L := ⟨_, rfl⟩
        rw [← ezM2] at hR
        simp only [Option.toList, List.nil_append]
        have hs : s_X4_begin M N f p L = zM2 := (if_neg c23).trans ((if_neg c104).trans ((if_pos c113).trans (by rw [ezM2])))
        rw [hs]
        exact endv C hr hlk hR hS dX4_begin_183
      · skip
        refine lv_aload_n C.1 C.2.1 dX4_begin_116 rfl (lv_at hl 3 rfl) ?_
        refine m_get C hR 9 (by decide) rfl fl_X4_29 (v := .ref (mA d 9)) rfl dX4_begin_117 ?_
        refine lv_iload_n C.1 C.2.1 dX4_begin_120 rfl (lv_at hl 2 rfl) ?_
        refine mI_ld (k := 9) (j := wr N (f + p)) C hR (by simp only [mAr]; decide) rfl (show wr N (f + p) < 6 by omega) dX4_begin_121 ?_
        refine lv_iconst (v := nI 3) C.1 C.2.1 dX4_begin_122 (by decide) ?_
        refine lv_aload_n C.1 C.2.1 dX4_begin_123 rfl (lv_at hl 3 rfl) ?_
        refine m_get C hR 24 (by decide) rfl fl_X4_75 (v := .ref (mA d 24)) rfl dX4_begin_124 ?_
        refine lv_iconst (v := nI 5) C.1 C.2.1 dX4_begin_127 (by decide) ?_
        refine lv_iload C.1 C.2.1 dX4_begin_128 (lv_at hl 0 rfl) ?_
        refine n_imul (z := 5 * (2 * (wr N (f + p)) + 1)) C dX4_begin_130 (by omega) ?_
        refine mI_ld (k := 24) (j := 5 * (2 * (wr N (f + p)) + 1)) C hR (by simp only [mAr]; decide) rfl (show 5 * (2 * (wr N (f + p)) + 1) < 60 by omega) dX4_begin_131 ?_
        refine lv_isub C.1 C.2.1 dX4_begin_132 ?_
        refine lv_aload_n C.1 C.2.1 dX4_begin_133 rfl (lv_at hl 3 rfl) ?_
        refine m_get C hR 29 (by decide) rfl fl_X4_90 (v := .ref (mA d 29)) rfl dX4_begin_134 ?_
        refine lv_iload_n C.1 C.2.1 dX4_begin_137 rfl (lv_at hl 4 rfl) ?_
        refine mI_ld (k := 29) (j := f) C hR (by simp only [mAr]; decide) rfl (show f < 6 by omega) dX4_begin_138 ?_
        refine lv_imul C.1 C.2.1 dX4_begin_139 ?_
        refine lv_iconst (v := nI 4) C.1 C.2.1 dX4_begin_140 (by decide) ?_
        refine lv_idiv C.1 C.2.1 dX4_begin_141 (by decide) ?_
        refine lv_icmp_lt (tgt := 178) C.1 C.2.1 dX4_begin_142 (by decide) (fun c142 => ?_) (fun c142 => ?_)
        · skip
          refine lv_aload_n C.1 C.2.1 dX4_begin_178 rfl (lv_at hl 3 rfl) ?_
          refine lv_iload_n C.1 C.2.1 dX4_begin_179 rfl (lv_at hl 4 rfl) ?_
          refine cxV (b := d) (As := [.int (nI f)]) (rest := []) (ci := 4) (q := (RX4, TX4, 36)) C (k_X4_leave l g d N M G hN f (p) L (by omega) (by omega) (by omega) (by rw [h30]) (by rw [h25])) cf_X4_leave ml_X4_143 ⟨by decide, by decide⟩ ⟨rfl, rfl⟩ rfl (hR.1) rfl hl.1 rfl (Nat.le_of_ble_eq_true rfl) dX4_begin_180 hR ⟨Nat.zero_le _, Nat.zero_le _⟩ hS (fun _ h => h) (fun H locs hR hS _ _ => ?_)
          obtain ⟨zM3, ezM3⟩ : ∃ y, y = s_X4_leave M f (p) L := ⟨_, rfl⟩
          rw [← ezM3] at hR
          simp only [Option.toList, List.nil_append]
          have hs : s_X4_begin M N f p L = zM3 := (if_neg c23).trans ((if_neg c104).trans ((if_neg c113).trans ((if_pos c142).trans (by rw [ezM3]))))
          rw [hs]
          exact endv C hr hlk hR hS dX4_begin_183
        · skip
          refine lv_aload_n C.1 C.2.1 dX4_begin_145 rfl (lv_at hl 3 rfl) ?_
          refine m_get C hR 12 (by decide) rfl fl_X4_38 (v := .ref (mA d 12)) rfl dX4_begin_146 ?_
          refine lv_iload_n C.1 C.2.1 dX4_begin_149 rfl (lv_at hl 2 rfl) ?_
          refine lv_iconst (v := nI 1) C.1 C.2.1 dX4_begin_150 (by decide) ?_
          refine mZ_st (k := 12) (j := wr N (f + p)) C hR hS (by simp only [mAr]; decide) rfl (show wr N (f + p) < 6 by omega) (Or.inr rfl) dX4_begin_151 (fun zM4 H locs ezM4 hR hS => ?_)
          refine lv_aload_n C.1 C.2.1 dX4_begin_152 rfl (lv_at hl 3 rfl) ?_
          refine m_get C hR 32 (by decide) rfl fl_X4_99 (v := .ref (mA d 32)) rfl dX4_begin_153 ?_
          refine lv_iload_n C.1 C.2.1 dX4_begin_156 rfl (lv_at hl 4 rfl) ?_
          refine lv_iload C.1 C.2.1 dX4_begin_157 (lv_at hl 0 rfl) ?_
          refine mI_st (k := 32) (j := f) C hR hS (by simp only [mAr]; decide) rfl (show f < 6 by omega) dX4_begin_159 (fun zM5 H locs ezM5 hR hS => ?_)
          refine lv_aload_n C.1 C.2.1 dX4_begin_160 rfl (lv_at hl 3 rfl) ?_
          refine m_get C hR 33 (by decide) rfl fl_X4_102 (v := .ref (mA d 33)) rfl dX4_begin_161 ?_
          refine lv_iload_n C.1 C.2.1 dX4_begin_164 rfl (lv_at hl 4 rfl) ?_
          refine lv_aload_n C.1 C.2.1 dX4_begin_165 rfl (lv_at hl 3 rfl) ?_
          refine m_get C hR 23 (by decide) rfl fl_X4_72 (v := .ref (mA d 23)) rfl dX4_begin_166 ?_
          refine lv_iconst (v := nI 5) C.1 C.2.1 dX4_begin_169 (by decide) ?_
          refine lv_iload C.1 C.2.1 dX4_begin_170 (lv_at hl 0 rfl) ?_
          refine n_imul (z := 5 * (2 * (wr N (f + p)) + 1)) C dX4_begin_172 (by omega) ?_
          refine mI_ld (k := 23) (j := 5 * (2 * (wr N (f + p)) + 1)) C hR (by simp only [mAr]; decide) rfl (show 5 * (2 * (wr N (f + p)) + 1) < 60 by omega) dX4_begin_173 ?_
          refine lv_re (y := M 23 (5 * (2 * (wr N (f + p)) + 1))) (by rw [ezM5, up2_f (by decide), ezM4, up2_f (by decide)]) ?_
          refine mI_st (k := 33) (j := f) C hR hS (by simp only [mAr]; decide) rfl (show f < 6 by omega) dX4_begin_174 (fun zM6 H locs ezM6 hR hS => ?_)
          refine lv_goto (tgt := 183) C.1 C.2.1 dX4_begin_175 (by decide) ?_
          have hs : s_X4_begin M N f p L = zM6 := (if_neg c23).trans ((if_neg c104).trans ((if_neg c113).trans ((if_neg c142).trans (by rw [ezM6, ezM5, ezM4]))))
          rw [hs]
          exact endv C hr hlk hR hS dX4_begin_183
  · skip
    refine lv_aload_n C.1 C.2.1 dX4_begin_26 rfl (lv_at hl 3 rfl) ?_
    refine m_get C hR 21 (by decide) rfl fl_X4_66 (v := .ref (mA d 21)) rfl dX4_begin_27 ?_
    refine lv_iload_n C.1 C.2.1 dX4_begin_30 rfl (lv_at hl 1 rfl) ?_
    refine mI_ld (k := 21) (j := 2 * (wr N (f + p))) C hR (by simp only [mAr]; decide) rfl (show 2 * (wr N (f + p)) < 12 by omega) dX4_begin_31 ?_
    refine lv_if_le (tgt := 97) C.1 C.2.1 dX4_begin_32 (by decide) (fun c32 => ?_) (fun c32 => ?_)
    · skip
      refine lv_aload_n C.1 C.2.1 dX4_begin_97 rfl (lv_at hl 3 rfl) ?_
      refine m_get C hR 21 (by decide) rfl fl_X4_66 (v := .ref (mA d 21)) rfl dX4_begin_98 ?_
      refine lv_iload C.1 C.2.1 dX4_begin_101 (lv_at hl 0 rfl) ?_
      refine mI_ld (k := 21) (j := 2 * (wr N (f + p)) + 1) C hR (by simp only [mAr]; decide) rfl (show 2 * (wr N (f + p)) + 1 < 12 by omega) dX4_begin_103 ?_
      refine lv_if_le (tgt := 178) C.1 C.2.1 dX4_begin_104 (by decide) (fun c104 => ?_) (fun c104 => ?_)
      · skip
        refine lv_aload_n C.1 C.2.1 dX4_begin_178 rfl (lv_at hl 3 rfl) ?_
        refine lv_iload_n C.1 C.2.1 dX4_begin_179 rfl (lv_at hl 4 rfl) ?_
        refine cxV (b := d) (As := [.int (nI f)]) (rest := []) (ci := 4) (q := (RX4, TX4, 36)) C (k_X4_leave l g d N M G hN f (p) L (by omega) (by omega) (by omega) (by rw [h30]) (by rw [h25])) cf_X4_leave ml_X4_143 ⟨by decide, by decide⟩ ⟨rfl, rfl⟩ rfl (hR.1) rfl hl.1 rfl (Nat.le_of_ble_eq_true rfl) dX4_begin_180 hR ⟨Nat.zero_le _, Nat.zero_le _⟩ hS (fun _ h => h) (fun H locs hR hS _ _ => ?_)
        obtain ⟨zM7, ezM7⟩ : ∃ y, y = s_X4_leave M f (p) L := ⟨_, rfl⟩
        rw [← ezM7] at hR
        simp only [Option.toList, List.nil_append]
        have hs : s_X4_begin M N f p L = zM7 := (if_pos c23).trans ((if_pos c32).trans ((if_pos c104).trans (by rw [ezM7])))
        rw [hs]
        exact endv C hr hlk hR hS dX4_begin_183
      · skip
        refine lv_aload_n C.1 C.2.1 dX4_begin_107 rfl (lv_at hl 3 rfl) ?_
        refine m_get C hR 9 (by decide) rfl fl_X4_29 (v := .ref (mA d 9)) rfl dX4_begin_108 ?_
        refine lv_iload_n C.1 C.2.1 dX4_begin_111 rfl (lv_at hl 2 rfl) ?_
        refine mI_ld (k := 9) (j := wr N (f + p)) C hR (by simp only [mAr]; decide) rfl (show wr N (f + p) < 6 by omega) dX4_begin_112 ?_
        refine lv_if_le (tgt := 178) C.1 C.2.1 dX4_begin_113 (by decide) (fun c113 => ?_) (fun c113 => ?_)
        · skip
          refine lv_aload_n C.1 C.2.1 dX4_begin_178 rfl (lv_at hl 3 rfl) ?_
          refine lv_iload_n C.1 C.2.1 dX4_begin_179 rfl (lv_at hl 4 rfl) ?_
          refine cxV (b := d) (As := [.int (nI f)]) (rest := []) (ci := 4) (q := (RX4, TX4, 36)) C (k_X4_leave l g d N M G hN f (p) L (by omega) (by omega) (by omega) (by rw [h30]) (by rw [h25])) cf_X4_leave ml_X4_143 ⟨by decide, by decide⟩ ⟨rfl, rfl⟩ rfl (hR.1) rfl hl.1 rfl (Nat.le_of_ble_eq_true rfl) dX4_begin_180 hR ⟨Nat.zero_le _, Nat.zero_le _⟩ hS (fun _ h => h) (fun H locs hR hS _ _ => ?_)
          obtain ⟨zM8, ezM8⟩ : ∃ y, y = s_X4_leave M f (p) L := ⟨_, rfl⟩
          rw [← ezM8] at hR
          simp only [Option.toList, List.nil_append]
          have hs : s_X4_begin M N f p L = zM8 := (if_pos c23).trans ((if_pos c32).trans ((if_neg c104).trans ((if_pos c113).trans (by rw [ezM8]))))
          rw [hs]
          exact endv C hr hlk hR hS dX4_begin_183
        · skip
          refine lv_aload_n C.1 C.2.1 dX4_begin_116 rfl (lv_at hl 3 rfl) ?_
          refine m_get C hR 9 (by decide) rfl fl_X4_29 (v := .ref (mA d 9)) rfl dX4_begin_117 ?_
          refine lv_iload_n C.1 C.2.1 dX4_begin_120 rfl (lv_at hl 2 rfl) ?_
          refine mI_ld (k := 9) (j := wr N (f + p)) C hR (by simp only [mAr]; decide) rfl (show wr N (f + p) < 6 by omega) dX4_begin_121 ?_
          refine lv_iconst (v := nI 3) C.1 C.2.1 dX4_begin_122 (by decide) ?_
          refine lv_aload_n C.1 C.2.1 dX4_begin_123 rfl (lv_at hl 3 rfl) ?_
          refine m_get C hR 24 (by decide) rfl fl_X4_75 (v := .ref (mA d 24)) rfl dX4_begin_124 ?_
          refine lv_iconst (v := nI 5) C.1 C.2.1 dX4_begin_127 (by decide) ?_
          refine lv_iload C.1 C.2.1 dX4_begin_128 (lv_at hl 0 rfl) ?_
          refine n_imul (z := 5 * (2 * (wr N (f + p)) + 1)) C dX4_begin_130 (by omega) ?_
          refine mI_ld (k := 24) (j := 5 * (2 * (wr N (f + p)) + 1)) C hR (by simp only [mAr]; decide) rfl (show 5 * (2 * (wr N (f + p)) + 1) < 60 by omega) dX4_begin_131 ?_
          refine lv_isub C.1 C.2.1 dX4_begin_132 ?_
          refine lv_aload_n C.1 C.2.1 dX4_begin_133 rfl (lv_at hl 3 rfl) ?_
          refine m_get C hR 29 (by decide) rfl fl_X4_90 (v := .ref (mA d 29)) rfl dX4_begin_134 ?_
          refine lv_iload_n C.1 C.2.1 dX4_begin_137 rfl (lv_at hl 4 rfl) ?_
          refine mI_ld (k := 29) (j := f) C hR (by simp only [mAr]; decide) rfl (show f < 6 by omega) dX4_begin_138 ?_
          refine lv_imul C.1 C.2.1 dX4_begin_139 ?_
          refine lv_iconst (v := nI 4) C.1 C.2.1 dX4_begin_140 (by decide) ?_
          refine lv_idiv C.1 C.2.1 dX4_begin_141 (by decide) ?_
          refine lv_icmp_lt (tgt := 178) C.1 C.2.1 dX4_begin_142 (by decide) (fun c142 => ?_) (fun c142 => ?_)
          · skip
            refine lv_aload_n C.1 C.2.1 dX4_begin_178 rfl (lv_at hl 3 rfl) ?_
            refine lv_iload_n C.1 C.2.1 dX4_begin_179 rfl (lv_at hl 4 rfl) ?_
            refine cxV (b := d) (As := [.int (nI f)]) (rest := []) (ci := 4) (q := (RX4, TX4, 36)) C (k_X4_leave l g d N M G hN f (p) L (by omega) (by omega) (by omega) (by rw [h30]) (by rw [h25])) cf_X4_leave ml_X4_143 ⟨by decide, by decide⟩ ⟨rfl, rfl⟩ rfl (hR.1) rfl hl.1 rfl (Nat.le_of_ble_eq_true rfl) dX4_begin_180 hR ⟨Nat.zero_le _, Nat.zero_le _⟩ hS (fun _ h => h) (fun H locs hR hS _ _ => ?_)
            obtain ⟨zM9, ezM9⟩ : ∃ y, y = s_X4_leave M f (p) L := ⟨_, rfl⟩
            rw [← ezM9] at hR
            simp only [Option.toList, List.nil_append]
            have hs : s_X4_begin M N f p L = zM9 := (if_pos c23).trans ((if_pos c32).trans ((if_neg c104).trans ((if_neg c113).trans ((if_pos c142).trans (by rw [ezM9])))))
            rw [hs]
            exact endv C hr hlk hR hS dX4_begin_183
          · skip
            refine lv_aload_n C.1 C.2.1 dX4_begin_145 rfl (lv_at hl 3 rfl) ?_
            refine m_get C hR 12 (by decide) rfl fl_X4_38 (v := .ref (mA d 12)) rfl dX4_begin_146 ?_
            refine lv_iload_n C.1 C.2.1 dX4_begin_149 rfl (lv_at hl 2 rfl) ?_
            refine lv_iconst (v := nI 1) C.1 C.2.1 dX4_begin_150 (by decide) ?_
            refine mZ_st (k := 12) (j := wr N (f + p)) C hR hS (by simp only [mAr]; decide) rfl (show wr N (f + p) < 6 by omega) (Or.inr rfl) dX4_begin_151 (fun zM10 H locs ezM10 hR hS => ?_)
            refine lv_aload_n C.1 C.2.1 dX4_begin_152 rfl (lv_at hl 3 rfl) ?_
            refine m_get C hR 32 (by decide) rfl fl_X4_99 (v := .ref (mA d 32)) rfl dX4_begin_153 ?_
            refine lv_iload_n C.1 C.2.1 dX4_begin_156 rfl (lv_at hl 4 rfl) ?_
            refine lv_iload C.1 C.2.1 dX4_begin_157 (lv_at hl 0 rfl) ?_
            refine mI_st (k := 32) (j := f) C hR hS (by simp only [mAr]; decide) rfl (show f < 6 by omega) dX4_begin_159 (fun zM11 H locs ezM11 hR hS => ?_)
            refine lv_aload_n C.1 C.2.1 dX4_begin_160 rfl (lv_at hl 3 rfl) ?_
            refine m_get C hR 33 (by decide) rfl fl_X4_102 (v := .ref (mA d 33)) rfl dX4_begin_161 ?_
            refine lv_iload_n C.1 C.2.1 dX4_begin_164 rfl (lv_at hl 4 rfl) ?_
            refine lv_aload_n C.1 C.2.1 dX4_begin_165 rfl (lv_at hl 3 rfl) ?_
            refine m_get C hR 23 (by decide) rfl fl_X4_72 (v := .ref (mA d 23)) rfl dX4_begin_166 ?_
            refine lv_iconst (v := nI 5) C.1 C.2.1 dX4_begin_169 (by decide) ?_
            refine lv_iload C.1 C.2.1 dX4_begin_170 (lv_at hl 0 rfl) ?_
            refine n_imul (z := 5 * (2 * (wr N (f + p)) + 1)) C dX4_begin_172 (by omega) ?_
            refine mI_ld (k := 23) (j := 5 * (2 * (wr N (f + p)) + 1)) C hR (by simp only [mAr]; decide) rfl (show 5 * (2 * (wr N (f + p)) + 1) < 60 by omega) dX4_begin_173 ?_
            refine lv_re (y := M 23 (5 * (2 * (wr N (f + p)) + 1))) (by rw [ezM11, up2_f (by decide), ezM10, up2_f (by decide)]) ?_
            refine mI_st (k := 33) (j := f) C hR hS (by simp only [mAr]; decide) rfl (show f < 6 by omega) dX4_begin_174 (fun zM12 H locs ezM12 hR hS => ?_)
            refine lv_goto (tgt := 183) C.1 C.2.1 dX4_begin_175 (by decide) ?_
            have hs : s_X4_begin M N f p L = zM12 := (if_pos c23).trans ((if_pos c32).trans ((if_neg c104).trans ((if_neg c113).trans ((if_neg c142).trans (by rw [ezM12, ezM11, ezM10])))))
            rw [hs]
            exact endv C hr hlk hR hS dX4_begin_183
    · skip
      refine lv_aload_n C.1 C.2.1 dX4_begin_35 rfl (lv_at hl 3 rfl) ?_
      refine m_get C hR 23 (by decide) rfl fl_X4_72 (v := .ref (mA d 23)) rfl dX4_begin_36 ?_
      refine lv_iconst (v := nI 5) C.1 C.2.1 dX4_begin_39 (by decide) ?_
      refine lv_iload_n C.1 C.2.1 dX4_begin_40 rfl (lv_at hl 1 rfl) ?_
      refine n_imul (z := 5 * (2 * (wr N (f + p)))) C dX4_begin_41 (by omega) ?_
      refine mI_ld (k := 23) (j := 5 * (2 * (wr N (f + p)))) C hR (by simp only [mAr]; decide) rfl (show 5 * (2 * (wr N (f + p))) < 60 by omega) dX4_begin_42 ?_
      refine lv_aload_n C.1 C.2.1 dX4_begin_43 rfl (lv_at hl 3 rfl) ?_
      refine m_get C hR 10 (by decide) rfl fl_X4_32 (v := .ref (mA d 10)) rfl dX4_begin_44 ?_
      refine lv_iload_n C.1 C.2.1 dX4_begin_47 rfl (lv_at hl 2 rfl) ?_
      refine mI_ld (k := 10) (j := wr N (f + p)) C hR (by simp only [mAr]; decide) rfl (show wr N (f + p) < 6 by omega) dX4_begin_48 ?_
      refine lv_icmp_gt (tgt := 97) C.1 C.2.1 dX4_begin_49 (by decide) (fun c49 => ?_) (fun c49 => ?_)
      · skip
        refine lv_aload_n C.1 C.2.1 dX4_begin_97 rfl (lv_at hl 3 rfl) ?_
        refine m_get C hR 21 (by decide) rfl fl_X4_66 (v := .ref (mA d 21)) rfl dX4_begin_98 ?_
        refine lv_iload C.1 C.2.1 dX4_begin_101 (lv_at hl 0 rfl) ?_
        refine mI_ld (k := 21) (j := 2 * (wr N (f + p)) + 1) C hR (by simp only [mAr]; decide) rfl (show 2 * (wr N (f + p)) + 1 < 12 by omega) dX4_begin_103 ?_
        refine lv_if_le (tgt := 178) C.1 C.2.1 dX4_begin_104 (by decide) (fun c104 => ?_) (fun c104 => ?_)
        · skip
          refine lv_aload_n C.1 C.2.1 dX4_begin_178 rfl (lv_at hl 3 rfl) ?_
          refine lv_iload_n C.1 C.2.1 dX4_begin_179 rfl (lv_at hl 4 rfl) ?_
          refine cxV (b := d) (As := [.int (nI f)]) (rest := []) (ci := 4) (q := (RX4, TX4, 36)) C (k_X4_leave l g d N M G hN f (p) L (by omega) (by omega) (by omega) (by rw [h30]) (by rw [h25])) cf_X4_leave ml_X4_143 ⟨by decide, by decide⟩ ⟨rfl, rfl⟩ rfl (hR.1) rfl hl.1 rfl (Nat.le_of_ble_eq_true rfl) dX4_begin_180 hR ⟨Nat.zero_le _, Nat.zero_le _⟩ hS (fun _ h => h) (fun H locs hR hS _ _ => ?_)
          obtain ⟨zM13, ezM13⟩ : ∃ y, y = s_X4_leave M f (p) L := ⟨_, rfl⟩
          rw [← ezM13] at hR
          simp only [Option.toList, List.nil_append]
          have hs : s_X4_begin M N f p L = zM13 := (if_pos c23).trans ((if_neg c32).trans ((if_pos c49).trans ((if_pos c104).trans (by rw [ezM13]))))
          rw [hs]
          exact endv C hr hlk hR hS dX4_begin_183
        · skip
          refine lv_aload_n C.1 C.2.1 dX4_begin_107 rfl (lv_at hl 3 rfl) ?_
          refine m_get C hR 9 (by decide) rfl fl_X4_29 (v := .ref (mA d 9)) rfl dX4_begin_108 ?_
          refine lv_iload_n C.1 C.2.1 dX4_begin_111 rfl (lv_at hl 2 rfl) ?_
          refine mI_ld (k := 9) (j := wr N (f + p)) C hR (by simp only [mAr]; decide) rfl (show wr N (f + p) < 6 by omega) dX4_begin_112 ?_
          refine lv_if_le (tgt := 178) C.1 C.2.1 dX4_begin_113 (by decide) (fun c113 => ?_) (fun c113 => ?_)
          · skip
            refine lv_aload_n C.1 C.2.1 dX4_begin_178 rfl (lv_at hl 3 rfl) ?_
            refine lv_iload_n C.1 C.2.1 dX4_begin_179 rfl (lv_at hl 4 rfl) ?_
            refine cxV (b := d) (As := [.int (nI f)]) (rest := []) (ci := 4) (q := (RX4, TX4, 36)) C (k_X4_leave l g d N M G hN f (p) L (by omega) (by omega) (by omega) (by rw [h30]) (by rw [h25])) cf_X4_leave ml_X4_143 ⟨by decide, by decide⟩ ⟨rfl, rfl⟩ rfl (hR.1) rfl hl.1 rfl (Nat.le_of_ble_eq_true rfl) dX4_begin_180 hR ⟨Nat.zero_le _, Nat.zero_le _⟩ hS (fun _ h => h) (fun H locs hR hS _ _ => ?_)
            obtain ⟨zM14, ezM14⟩ : ∃ y, y = s_X4_leave M f (p) L := ⟨_, rfl⟩
            rw [← ezM14] at hR
            simp only [Option.toList, List.nil_append]
            have hs : s_X4_begin M N f p L = zM14 := (if_pos c23).trans ((if_neg c32).trans ((if_pos c49).trans ((if_neg c104).trans ((if_pos c113).trans (by rw [ezM14])))))
            rw [hs]
            exact endv C hr hlk hR hS dX4_begin_183
          · skip
            refine lv_aload_n C.1 C.2.1 dX4_begin_116 rfl (lv_at hl 3 rfl) ?_
            refine m_get C hR 9 (by decide) rfl fl_X4_29 (v := .ref (mA d 9)) rfl dX4_begin_117 ?_
            refine lv_iload_n C.1 C.2.1 dX4_begin_120 rfl (lv_at hl 2 rfl) ?_
            refine mI_ld (k := 9) (j := wr N (f + p)) C hR (by simp only [mAr]; decide) rfl (show wr N (f + p) < 6 by omega) dX4_begin_121 ?_
            refine lv_iconst (v := nI 3) C.1 C.2.1 dX4_begin_122 (by decide) ?_
            refine lv_aload_n C.1 C.2.1 dX4_begin_123 rfl (lv_at hl 3 rfl) ?_
            refine m_get C hR 24 (by decide) rfl fl_X4_75 (v := .ref (mA d 24)) rfl dX4_begin_124 ?_
            refine lv_iconst (v := nI 5) C.1 C.2.1 dX4_begin_127 (by decide) ?_
            refine lv_iload C.1 C.2.1 dX4_begin_128 (lv_at hl 0 rfl) ?_
            refine n_imul (z := 5 * (2 * (wr N (f + p)) + 1)) C dX4_begin_130 (by omega) ?_
            refine mI_ld (k := 24) (j := 5 * (2 * (wr N (f + p)) + 1)) C hR (by simp only [mAr]; decide) rfl (show 5 * (2 * (wr N (f + p)) + 1) < 60 by omega) dX4_begin_131 ?_
            refine lv_isub C.1 C.2.1 dX4_begin_132 ?_
            refine lv_aload_n C.1 C.2.1 dX4_begin_133 rfl (lv_at hl 3 rfl) ?_
            refine m_get C hR 29 (by decide) rfl fl_X4_90 (v := .ref (mA d 29)) rfl dX4_begin_134 ?_
            refine lv_iload_n C.1 C.2.1 dX4_begin_137 rfl (lv_at hl 4 rfl) ?_
            refine mI_ld (k := 29) (j := f) C hR (by simp only [mAr]; decide) rfl (show f < 6 by omega) dX4_begin_138 ?_
            refine lv_imul C.1 C.2.1 dX4_begin_139 ?_
            refine lv_iconst (v := nI 4) C.1 C.2.1 dX4_begin_140 (by decide) ?_
            refine lv_idiv C.1 C.2.1 dX4_begin_141 (by decide) ?_
            refine lv_icmp_lt (tgt := 178) C.1 C.2.1 dX4_begin_142 (by decide) (fun c142 => ?_) (fun c142 => ?_)
            · skip
              refine lv_aload_n C.1 C.2.1 dX4_begin_178 rfl (lv_at hl 3 rfl) ?_
              refine lv_iload_n C.1 C.2.1 dX4_begin_179 rfl (lv_at hl 4 rfl) ?_
              refine cxV (b := d) (As := [.int (nI f)]) (rest := []) (ci := 4) (q := (RX4, TX4, 36)) C (k_X4_leave l g d N M G hN f (p) L (by omega) (by omega) (by omega) (by rw [h30]) (by rw [h25])) cf_X4_leave ml_X4_143 ⟨by decide, by decide⟩ ⟨rfl, rfl⟩ rfl (hR.1) rfl hl.1 rfl (Nat.le_of_ble_eq_true rfl) dX4_begin_180 hR ⟨Nat.zero_le _, Nat.zero_le _⟩ hS (fun _ h => h) (fun H locs hR hS _ _ => ?_)
              obtain ⟨zM15, ezM15⟩ : ∃ y, y = s_X4_leave M f (p) L := ⟨_, rfl⟩
              rw [← ezM15] at hR
              simp only [Option.toList, List.nil_append]
              have hs : s_X4_begin M N f p L = zM15 := (if_pos c23).trans ((if_neg c32).trans ((if_pos c49).trans ((if_neg c104).trans ((if_neg c113).trans ((if_pos c142).trans (by rw [ezM15]))))))
              rw [hs]
              exact endv C hr hlk hR hS dX4_begin_183
            · skip
              refine lv_aload_n C.1 C.2.1 dX4_begin_145 rfl (lv_at hl 3 rfl) ?_
              refine m_get C hR 12 (by decide) rfl fl_X4_38 (v := .ref (mA d 12)) rfl dX4_begin_146 ?_
              refine lv_iload_n C.1 C.2.1 dX4_begin_149 rfl (lv_at hl 2 rfl) ?_
              refine lv_iconst (v := nI 1) C.1 C.2.1 dX4_begin_150 (by decide) ?_
              refine mZ_st (k := 12) (j := wr N (f + p)) C hR hS (by simp only [mAr]; decide) rfl (show wr N (f + p) < 6 by omega) (Or.inr rfl) dX4_begin_151 (fun zM16 H locs ezM16 hR hS => ?_)
              refine lv_aload_n C.1 C.2.1 dX4_begin_152 rfl (lv_at hl 3 rfl) ?_
              refine m_get C hR 32 (by decide) rfl fl_X4_99 (v := .ref (mA d 32)) rfl dX4_begin_153 ?_
              refine lv_iload_n C.1 C.2.1 dX4_begin_156 rfl (lv_at hl 4 rfl) ?_
              refine lv_iload C.1 C.2.1 dX4_begin_157 (lv_at hl 0 rfl) ?_
              refine mI_st (k := 32) (j := f) C hR hS (by simp only [mAr]; decide) rfl (show f < 6 by omega) dX4_begin_159 (fun zM17 H locs ezM17 hR hS => ?_)
              refine lv_aload_n C.1 C.2.1 dX4_begin_160 rfl (lv_at hl 3 rfl) ?_
              refine m_get C hR 33 (by decide) rfl fl_X4_102 (v := .ref (mA d 33)) rfl dX4_begin_161 ?_
              refine lv_iload_n C.1 C.2.1 dX4_begin_164 rfl (lv_at hl 4 rfl) ?_
              refine lv_aload_n C.1 C.2.1 dX4_begin_165 rfl (lv_at hl 3 rfl) ?_
              refine m_get C hR 23 (by decide) rfl fl_X4_72 (v := .ref (mA d 23)) rfl dX4_begin_166 ?_
              refine lv_iconst (v := nI 5) C.1 C.2.1 dX4_begin_169 (by decide) ?_
              refine lv_iload C.1 C.2.1 dX4_begin_170 (lv_at hl 0 rfl) ?_
              refine n_imul (z := 5 * (2 * (wr N (f + p)) + 1)) C dX4_begin_172 (by omega) ?_
              refine mI_ld (k := 23) (j := 5 * (2 * (wr N (f + p)) + 1)) C hR (by simp only [mAr]; decide) rfl (show 5 * (2 * (wr N (f + p)) + 1) < 60 by omega) dX4_begin_173 ?_
              refine lv_re (y := M 23 (5 * (2 * (wr N (f + p)) + 1))) (by rw [ezM17, up2_f (by decide), ezM16, up2_f (by decide)]) ?_
              refine mI_st (k := 33) (j := f) C hR hS (by simp only [mAr]; decide) rfl (show f < 6 by omega) dX4_begin_174 (fun zM18 H locs ezM18 hR hS => ?_)
              refine lv_goto (tgt := 183) C.1 C.2.1 dX4_begin_175 (by decide) ?_
              have hs : s_X4_begin M N f p L = zM18 := (if_pos c23).trans ((if_neg c32).trans ((if_pos c49).trans ((if_neg c104).trans ((if_neg c113).trans ((if_neg c142).trans (by rw [ezM18, ezM17, ezM16]))))))
              rw [hs]
              exact endv C hr hlk hR hS dX4_begin_183
      · skip
        refine lv_aload_n C.1 C.2.1 dX4_begin_52 rfl (lv_at hl 3 rfl) ?_
        refine m_get C hR 10 (by decide) rfl fl_X4_32 (v := .ref (mA d 10)) rfl dX4_begin_53 ?_
        refine lv_iload_n C.1 C.2.1 dX4_begin_56 rfl (lv_at hl 2 rfl) ?_
        refine lv_aload_n C.1 C.2.1 dX4_begin_57 rfl (lv_at hl 3 rfl) ?_
        refine m_get C hR 10 (by decide) rfl fl_X4_32 (v := .ref (mA d 10)) rfl dX4_begin_58 ?_
        refine lv_iload_n C.1 C.2.1 dX4_begin_61 rfl (lv_at hl 2 rfl) ?_
        refine mI_ld (k := 10) (j := wr N (f + p)) C hR (by simp only [mAr]; decide) rfl (show wr N (f + p) < 6 by omega) dX4_begin_62 ?_
        refine lv_aload_n C.1 C.2.1 dX4_begin_63 rfl (lv_at hl 3 rfl) ?_
        refine m_get C hR 23 (by decide) rfl fl_X4_72 (v := .ref (mA d 23)) rfl dX4_begin_64 ?_
        refine lv_iconst (v := nI 5) C.1 C.2.1 dX4_begin_67 (by decide) ?_
        refine lv_iload_n C.1 C.2.1 dX4_begin_68 rfl (lv_at hl 1 rfl) ?_
        refine n_imul (z := 5 * (2 * (wr N (f + p)))) C dX4_begin_69 (by omega) ?_
        refine mI_ld (k := 23) (j := 5 * (2 * (wr N (f + p)))) C hR (by simp only [mAr]; decide) rfl (show 5 * (2 * (wr N (f + p))) < 60 by omega) dX4_begin_70 ?_
        refine lv_isub C.1 C.2.1 dX4_begin_71 ?_
        refine mI_st (k := 10) (j := wr N (f + p)) C hR hS (by simp only [mAr]; decide) rfl (show wr N (f + p) < 6 by omega) dX4_begin_72 (fun zM19 H locs ezM19 hR hS => ?_)
        refine lv_aload_n C.1 C.2.1 dX4_begin_73 rfl (lv_at hl 3 rfl) ?_
        refine m_get C hR 32 (by decide) rfl fl_X4_99 (v := .ref (mA d 32)) rfl dX4_begin_74 ?_
        refine lv_iload_n C.1 C.2.1 dX4_begin_77 rfl (lv_at hl 4 rfl) ?_
        refine lv_iload_n C.1 C.2.1 dX4_begin_78 rfl (lv_at hl 1 rfl) ?_
        refine mI_st (k := 32) (j := f) C hR hS (by simp only [mAr]; decide) rfl (show f < 6 by omega) dX4_begin_79 (fun zM20 H locs ezM20 hR hS => ?_)
        refine lv_aload_n C.1 C.2.1 dX4_begin_80 rfl (lv_at hl 3 rfl) ?_
        refine m_get C hR 33 (by decide) rfl fl_X4_102 (v := .ref (mA d 33)) rfl dX4_begin_81 ?_
        refine lv_iload_n C.1 C.2.1 dX4_begin_84 rfl (lv_at hl 4 rfl) ?_
        refine lv_aload_n C.1 C.2.1 dX4_begin_85 rfl (lv_at hl 3 rfl) ?_
        refine m_get C hR 23 (by decide) rfl fl_X4_72 (v := .ref (mA d 23)) rfl dX4_begin_86 ?_
        refine lv_iconst (v := nI 5) C.1 C.2.1 dX4_begin_89 (by decide) ?_
        refine lv_iload_n C.1 C.2.1 dX4_begin_90 rfl (lv_at hl 1 rfl) ?_
        refine n_imul (z := 5 * (2 * (wr N (f + p)))) C dX4_begin_91 (by omega) ?_
        refine mI_ld (k := 23) (j := 5 * (2 * (wr N (f + p)))) C hR (by simp only [mAr]; decide) rfl (show 5 * (2 * (wr N (f + p))) < 60 by omega) dX4_begin_92 ?_
        refine lv_re (y := M 23 (5 * (2 * (wr N (f + p))))) (by rw [ezM20, up2_f (by decide), ezM19, up2_f (by decide)]) ?_
        refine mI_st (k := 33) (j := f) C hR hS (by simp only [mAr]; decide) rfl (show f < 6 by omega) dX4_begin_93 (fun zM21 H locs ezM21 hR hS => ?_)
        refine lv_goto (tgt := 183) C.1 C.2.1 dX4_begin_94 (by decide) ?_
        have hs : s_X4_begin M N f p L = zM21 := (if_pos c23).trans ((if_neg c32).trans ((if_neg c49).trans (by rw [ezM21, ezM20, ezM19])))
        rw [hs]
        exact endv C hr hlk hR hS dX4_begin_183

def s_X4_tickRing_c (M : SX) (N : Nat) (f L : Nat) : SX := if (M 28 f) - (nI 1) = 0 then (s_X4_leave (mopr N (up2 M 28 f ((M 28 f) - (nI 1))) f L) f (mwins N (up2 M 28 f ((M 28 f) - (nI 1))) f (L - 1) 1 0) L) else (up2 M 28 f ((M 28 f) - (nI 1)))
set_option maxHeartbeats 4000000 in
set_option maxRecDepth 100000 in
theorem k_X4_tickRing_c (l : Launch) (g : GX) (d N : Nat) (M : SX) (G : FX) (hN : N ≤ 6) (f L : Nat) (hf : f < N) (hL1 : 1 ≤ L) (hL : L ≤ N) (h25 : M 25 f = nI L) (hrow : ∀ k, k < L → M 26 (6 * f + k) = nI (wr N (f + k))) (h28 : ¬ M 28 f ≤ 0)  : MR l yX4_tickRing (.code yX4_tickRing cX4_tickRing 3 none :: tb) (rmk 2 48) g (RepM g d N M G) (RepM g d N (s_X4_tickRing_c M N f L) G) (AM d) [.ref d, .int (nI f)] none := by
  refine MR.start RX4 (by decide) rfl (Nat.le_of_ble_eq_true rfl) (fun zp ze zs zm zb zt zc ls C hr hlk hR hS hl => ?_)
  have hl : lv_has ls 3 [(0, .ref d), (1, .int (nI f))] := hl
  refine lv_aload_n C.1 C.2.1 dX4_tickRing_0 rfl (lv_at hl 0 rfl) ?_
  refine m_get C hR 28 (by decide) rfl fl_X4_87 (v := .ref (mA d 28)) rfl dX4_tickRing_1 ?_
  refine lv_iload_n C.1 C.2.1 dX4_tickRing_4 rfl (lv_at hl 1 rfl) ?_
  refine mI_ld (k := 28) (j := f) C hR (by simp only [mAr]; decide) rfl (show f < 6 by omega) dX4_tickRing_5 ?_
  refine lv_if_le (tgt := 40) C.1 C.2.1 dX4_tickRing_6 (by decide) (fun c6 => ?_) (fun c6 => ?_)
  · skip
    exact absurd c6 (h28)
  · skip
    refine lv_aload_n C.1 C.2.1 dX4_tickRing_9 rfl (lv_at hl 0 rfl) ?_
    refine m_get C hR 28 (by decide) rfl fl_X4_87 (v := .ref (mA d 28)) rfl dX4_tickRing_10 ?_
    refine lv_iload_n C.1 C.2.1 dX4_tickRing_13 rfl (lv_at hl 1 rfl) ?_
    refine lv_aload_n C.1 C.2.1 dX4_tickRing_14 rfl (lv_at hl 0 rfl) ?_
    refine m_get C hR 28 (by decide) rfl fl_X4_87 (v := .ref (mA d 28)) rfl dX4_tickRing_15 ?_
    refine lv_iload_n C.1 C.2.1 dX4_tickRing_18 rfl (lv_at hl 1 rfl) ?_
    refine mI_ld (k := 28) (j := f) C hR (by simp only [mAr]; decide) rfl (show f < 6 by omega) dX4_tickRing_19 ?_
    refine lv_iconst (v := nI 1) C.1 C.2.1 dX4_tickRing_20 (by decide) ?_
    refine lv_isub C.1 C.2.1 dX4_tickRing_21 ?_
    refine mI_st (k := 28) (j := f) C hR hS (by simp only [mAr]; decide) rfl (show f < 6 by omega) dX4_tickRing_22 (fun zM1 H locs ezM1 hR hS => ?_)
    refine lv_aload_n C.1 C.2.1 dX4_tickRing_23 rfl (lv_at hl 0 rfl) ?_
    refine m_get C hR 28 (by decide) rfl fl_X4_87 (v := .ref (mA d 28)) rfl dX4_tickRing_24 ?_
    refine lv_iload_n C.1 C.2.1 dX4_tickRing_27 rfl (lv_at hl 1 rfl) ?_
    refine mI_ld (k := 28) (j := f) C hR (by simp only [mAr]; decide) rfl (show f < 6 by omega) dX4_tickRing_28 ?_
    refine lv_re (y := (M 28 f) - (nI 1)) (by rw [ezM1, up2_eq]) ?_
    refine lv_if_ne (tgt := 188) C.1 C.2.1 dX4_tickRing_29 (by decide) (fun c29 => ?_) (fun c29 => ?_)
    · skip
      have hs : s_X4_tickRing_c M N f L = zM1 := (if_neg c29).trans (by rw [ezM1])
      rw [hs]
      exact endv C hr hlk hR hS dX4_tickRing_188
    · skip
      refine lv_aload_n C.1 C.2.1 dX4_tickRing_32 rfl (lv_at hl 0 rfl) ?_
      refine lv_iload_n C.1 C.2.1 dX4_tickRing_33 rfl (lv_at hl 1 rfl) ?_
      refine cxV (b := d) (As := [.int (nI f)]) (rest := []) (ci := 4) (q := (RX4, TX4, 36)) C (k_X4_operate l g d N zM1 G hN f L (by omega) (by omega) (by omega) (by rw [ezM1, up2_f (by decide), h25]) (fun k hk => by rw [ezM1, up2_f (by decide), hrow k hk])) cf_X4_operate ml_X4_153 ⟨by decide, by decide⟩ ⟨rfl, rfl⟩ rfl (hR.1) rfl hl.1 rfl (Nat.le_of_ble_eq_true rfl) dX4_tickRing_34 hR ⟨Nat.zero_le _, Nat.zero_le _⟩ hS (fun _ h => h) (fun H locs hR hS _ _ => ?_)
      obtain ⟨zM2, ezM2⟩ : ∃ y, y = s_X4_leave (mopr N zM1 f L) f (mwins N zM1 f (L - 1) 1 0) L := ⟨_, rfl⟩
      rw [← ezM2] at hR
      simp only [Option.toList, List.nil_append]
      refine lv_goto (tgt := 188) C.1 C.2.1 dX4_tickRing_37 (by decide) ?_
      have hs : s_X4_tickRing_c M N f L = zM2 := (if_pos c29).trans (by rw [ezM2, ezM1])
      rw [hs]
      exact endv C hr hlk hR hS dX4_tickRing_188

def s_X4_tickRing_i (M : SX) (N : Nat) (f p L c : Nat) : SX := if bI (maB N f (M 29 f) L 0 M) = 0 then (if M 31 f ≤ 0 then (s_X4_begin (maS N f (M 29 f) L 0 M) N f p L) else (if (M 31 f) - (nI 1) = 0 then (s_X4_arrive (up2 (maS N f (M 29 f) L 0 M) 31 f ((M 31 f) - (nI 1))) N f p L c) else (up2 (maS N f (M 29 f) L 0 M) 31 f ((M 31 f) - (nI 1))))) else (s_X4_claim_i (maS N f (M 29 f) L 0 M) f L)
def f_X4_tickRing_i (M : SX) (G : FX) (N : Nat) (f p L c : Nat) : FX := if bI (maB N f (M 29 f) L 0 M) = 0 then (if M 31 f ≤ 0 then G else (if (M 31 f) - (nI 1) = 0 then (f_X4_arrive (up2 (maS N f (M 29 f) L 0 M) 31 f ((M 31 f) - (nI 1))) G N f p L c) else G)) else G
set_option maxHeartbeats 4000000 in
set_option maxRecDepth 100000 in
theorem k_X4_tickRing_i (l : Launch) (g : GX) (d N : Nat) (M : SX) (G : FX) (hN : N ≤ 6) (f p L : Nat) (hf : f < N) (hp : p < L) (hL : L ≤ N) (h30 : M 30 f = nI p) (h25 : M 25 f = nI L) (hrow : ∀ k, k < L → M 26 (6 * f + k) = nI (wr N (f + k))) (c : Nat) (hc : (p + 1) % L = c) (hcL : c < L) (hF : fOK (G (wr N (f + c)))) (h28 : M 28 f ≤ 0) (h32 : M 32 f = -1)  : MR l yX4_tickRing (.code yX4_tickRing cX4_tickRing 3 none :: tb) (rmk 2 48) g (RepM g d N M G) (RepM g d N (s_X4_tickRing_i M N f p L c) (f_X4_tickRing_i M G N f p L c)) (AM d) [.ref d, .int (nI f)] none := by
  refine MR.start RX4 (by decide) rfl (Nat.le_of_ble_eq_true rfl) (fun zp ze zs zm zb zt zc ls C hr hlk hR hS hl => ?_)
  have hl : lv_has ls 3 [(0, .ref d), (1, .int (nI f))] := hl
  have hwp := wr_lt (N := N) (i := f + p) (by omega)
  refine lv_aload_n C.1 C.2.1 dX4_tickRing_0 rfl (lv_at hl 0 rfl) ?_
  refine m_get C hR 28 (by decide) rfl fl_X4_87 (v := .ref (mA d 28)) rfl dX4_tickRing_1 ?_
  refine lv_iload_n C.1 C.2.1 dX4_tickRing_4 rfl (lv_at hl 1 rfl) ?_
  refine mI_ld (k := 28) (j := f) C hR (by simp only [mAr]; decide) rfl (show f < 6 by omega) dX4_tickRing_5 ?_
  refine lv_if_le (tgt := 40) C.1 C.2.1 dX4_tickRing_6 (by decide) (fun c6 => ?_) (fun c6 => ?_)
  · skip
    refine lv_aload_n C.1 C.2.1 dX4_tickRing_40 rfl (lv_at hl 0 rfl) ?_
    refine lv_iload_n C.1 C.2.1 dX4_tickRing_41 rfl (lv_at hl 1 rfl) ?_
    refine cxV (b := d) (As := [.int (nI f)]) (rest := []) (ci := 4) (q := (RX4, TX4, 36)) C (k_X4_age l g d N M G hN f p L (by omega) (by omega) (by omega) (by rw [h30]) (by rw [h25]) hrow) cf_X4_age ml_X4_156 ⟨by decide, by decide⟩ ⟨rfl, rfl⟩ rfl (hR.1) rfl hl.1 rfl (Nat.le_of_ble_eq_true rfl) dX4_tickRing_42 hR ⟨Nat.zero_le _, Nat.zero_le _⟩ hS (fun _ h => h) (fun H locs hR hS _ _ => ?_)
    obtain ⟨zM1, ezM1⟩ : ∃ y, y = maS N f (M 29 f) L 0 M := ⟨_, rfl⟩
    rw [← ezM1] at hR
    simp only [Option.toList, List.cons_append, List.nil_append]
    refine lv_if_eq (tgt := 56) C.1 C.2.1 dX4_tickRing_45 (by decide) (fun c45 => ?_) (fun c45 => ?_)
    · skip
      refine lv_aload_n C.1 C.2.1 dX4_tickRing_56 rfl (lv_at hl 0 rfl) ?_
      refine m_get C hR 31 (by decide) rfl fl_X4_96 (v := .ref (mA d 31)) rfl dX4_tickRing_57 ?_
      refine lv_iload_n C.1 C.2.1 dX4_tickRing_60 rfl (lv_at hl 1 rfl) ?_
      refine mI_ld (k := 31) (j := f) C hR (by simp only [mAr]; decide) rfl (show f < 6 by omega) dX4_tickRing_61 ?_
      refine lv_re (y := M 31 f) (by rw [ezM1, maS_o (by decide) (by decide) (by decide)]) ?_
      refine lv_if_le (tgt := 96) C.1 C.2.1 dX4_tickRing_62 (by decide) (fun c62 => ?_) (fun c62 => ?_)
      · skip
        refine lv_aload_n C.1 C.2.1 dX4_tickRing_96 rfl (lv_at hl 0 rfl) ?_
        refine lv_iload_n C.1 C.2.1 dX4_tickRing_97 rfl (lv_at hl 1 rfl) ?_
        refine cxV (b := d) (As := [.int (nI f)]) (rest := []) (ci := 4) (q := (RX4, TX4, 36)) C (k_X4_holder l g d N zM1 G hN f p (wr N (f + p)) (by omega) (by omega) (by rw [ezM1, maS_o (by decide) (by decide) (by decide), h30]) (by rw [ezM1, maS_o (by decide) (by decide) (by decide), hrow p hp])) cf_X4_holder ml_X4_146 ⟨by decide, by decide⟩ ⟨rfl, rfl⟩ rfl (hR.1) rfl hl.1 rfl (Nat.le_of_ble_eq_true rfl) dX4_tickRing_98 hR ⟨Nat.zero_le _, Nat.zero_le _⟩ hS (fun _ h => h) (fun H locs hR hS _ _ => ?_)
        simp only [Option.toList, List.cons_append, List.nil_append]
        refine lv_istore_n (lv' := [(2, .int (nI (wr N (f + p)))), (0, .ref d), (1, .int (nI f))]) C.1 C.2.1 dX4_tickRing_101 rfl hl (by decide) rfl (fun ls hl => ?_)
        refine lv_aload_n C.1 C.2.1 dX4_tickRing_102 rfl (lv_at hl 1 rfl) ?_
        refine m_get C hR 32 (by decide) rfl fl_X4_99 (v := .ref (mA d 32)) rfl dX4_tickRing_103 ?_
        refine lv_iload_n C.1 C.2.1 dX4_tickRing_106 rfl (lv_at hl 2 rfl) ?_
        refine mI_ld (k := 32) (j := f) C hR (by simp only [mAr]; decide) rfl (show f < 6 by omega) dX4_tickRing_107 ?_
        refine lv_re (y := (-1)) (by rw [ezM1, maS_o (by decide) (by decide) (by decide), h32]) ?_
        refine lv_if_lt (tgt := 174) C.1 C.2.1 dX4_tickRing_108 (by decide) (fun c108 => ?_) (fun c108 => ?_)
        · skip
          refine lv_aload_n C.1 C.2.1 dX4_tickRing_174 rfl (lv_at hl 1 rfl) ?_
          refine m_get C hR 32 (by decide) rfl fl_X4_99 (v := .ref (mA d 32)) rfl dX4_tickRing_175 ?_
          refine lv_iload_n C.1 C.2.1 dX4_tickRing_178 rfl (lv_at hl 2 rfl) ?_
          refine mI_ld (k := 32) (j := f) C hR (by simp only [mAr]; decide) rfl (show f < 6 by omega) dX4_tickRing_179 ?_
          refine lv_re (y := (-1)) (by rw [ezM1, maS_o (by decide) (by decide) (by decide), h32]) ?_
          refine lv_if_ge (tgt := 188) C.1 C.2.1 dX4_tickRing_180 (by decide) (fun c180 => ?_) (fun c180 => ?_)
          · skip
            exact absurd c180 (by decide)
          · skip
            refine lv_aload_n C.1 C.2.1 dX4_tickRing_183 rfl (lv_at hl 1 rfl) ?_
            refine lv_iload_n C.1 C.2.1 dX4_tickRing_184 rfl (lv_at hl 2 rfl) ?_
            refine cxV (b := d) (As := [.int (nI f)]) (rest := []) (ci := 4) (q := (RX4, TX4, 36)) C (k_X4_begin l g d N zM1 G hN f p L (by omega) (by omega) (by omega) (by rw [ezM1, maS_o (by decide) (by decide) (by decide), h30]) (by rw [ezM1, maS_o (by decide) (by decide) (by decide), h25]) (fun k hk => by rw [ezM1, maS_o (by decide) (by decide) (by decide), hrow k hk])) cf_X4_begin ml_X4_165 ⟨by decide, by decide⟩ ⟨rfl, rfl⟩ rfl (hR.1) rfl hl.1 rfl (Nat.le_of_ble_eq_true rfl) dX4_tickRing_185 hR ⟨Nat.zero_le _, Nat.zero_le _⟩ hS (fun _ h => h) (fun H locs hR hS _ _ => ?_)
            obtain ⟨zM2, ezM2⟩ : ∃ y, y = s_X4_begin zM1 N f p L := ⟨_, rfl⟩
            rw [← ezM2] at hR
            simp only [Option.toList, List.nil_append]
            have hs : s_X4_tickRing_i M N f p L c = zM2 := (if_pos c45).trans ((if_pos c62).trans (by rw [ezM2, ezM1]))
            rw [hs]
            have hf : f_X4_tickRing_i M G N f p L c = G := (if_pos c45).trans ((if_pos c62).trans (rfl))
            rw [hf]
            exact endv C hr hlk hR hS dX4_tickRing_188
        · skip
          exact absurd c108 (by decide)
      · skip
        refine lv_aload_n C.1 C.2.1 dX4_tickRing_65 rfl (lv_at hl 0 rfl) ?_
        refine m_get C hR 31 (by decide) rfl fl_X4_96 (v := .ref (mA d 31)) rfl dX4_tickRing_66 ?_
        refine lv_iload_n C.1 C.2.1 dX4_tickRing_69 rfl (lv_at hl 1 rfl) ?_
        refine lv_aload_n C.1 C.2.1 dX4_tickRing_70 rfl (lv_at hl 0 rfl) ?_
        refine m_get C hR 31 (by decide) rfl fl_X4_96 (v := .ref (mA d 31)) rfl dX4_tickRing_71 ?_
        refine lv_iload_n C.1 C.2.1 dX4_tickRing_74 rfl (lv_at hl 1 rfl) ?_
        refine mI_ld (k := 31) (j := f) C hR (by simp only [mAr]; decide) rfl (show f < 6 by omega) dX4_tickRing_75 ?_
        refine lv_re (y := M 31 f) (by rw [ezM1, maS_o (by decide) (by decide) (by decide)]) ?_
        refine lv_iconst (v := nI 1) C.1 C.2.1 dX4_tickRing_76 (by decide) ?_
        refine lv_isub C.1 C.2.1 dX4_tickRing_77 ?_
        refine mI_st (k := 31) (j := f) C hR hS (by simp only [mAr]; decide) rfl (show f < 6 by omega) dX4_tickRing_78 (fun zM3 H locs ezM3 hR hS => ?_)
        refine lv_aload_n C.1 C.2.1 dX4_tickRing_79 rfl (lv_at hl 0 rfl) ?_
        refine m_get C hR 31 (by decide) rfl fl_X4_96 (v := .ref (mA d 31)) rfl dX4_tickRing_80 ?_
        refine lv_iload_n C.1 C.2.1 dX4_tickRing_83 rfl (lv_at hl 1 rfl) ?_
        refine mI_ld (k := 31) (j := f) C hR (by simp only [mAr]; decide) rfl (show f < 6 by omega) dX4_tickRing_84 ?_
        refine lv_re (y := (M 31 f) - (nI 1)) (by rw [ezM3, up2_eq]) ?_
        refine lv_if_ne (tgt := 188) C.1 C.2.1 dX4_tickRing_85 (by decide) (fun c85 => ?_) (fun c85 => ?_)
        · skip
          have hs : s_X4_tickRing_i M N f p L c = zM3 := (if_pos c45).trans ((if_neg c62).trans ((if_neg c85).trans (by rw [ezM3, ezM1])))
          rw [hs]
          have hf : f_X4_tickRing_i M G N f p L c = G := (if_pos c45).trans ((if_neg c62).trans ((if_neg c85).trans (rfl)))
          rw [hf]
          exact endv C hr hlk hR hS dX4_tickRing_188
        · skip
          refine lv_aload_n C.1 C.2.1 dX4_tickRing_88 rfl (lv_at hl 0 rfl) ?_
          refine lv_iload_n C.1 C.2.1 dX4_tickRing_89 rfl (lv_at hl 1 rfl) ?_
          refine cxV (b := d) (As := [.int (nI f)]) (rest := []) (ci := 4) (q := (RX4, TX4, 36)) C (k_X4_arrive l g d N zM3 G hN f p L (by omega) (by omega) (by omega) (by rw [ezM3, up2_f (by decide), ezM1, maS_o (by decide) (by decide) (by decide), h30]) (by rw [ezM3, up2_f (by decide), ezM1, maS_o (by decide) (by decide) (by decide), h25]) (fun k hk => by rw [ezM3, up2_f (by decide), ezM1, maS_o (by decide) (by decide) (by decide), hrow k hk]) c hc hcL hF) cf_X4_arrive ml_X4_159 ⟨by decide, by decide⟩ ⟨rfl, rfl⟩ rfl (hR.1) rfl hl.1 rfl (Nat.le_of_ble_eq_true rfl) dX4_tickRing_90 hR ⟨Nat.zero_le _, Nat.zero_le _⟩ hS (fun _ h => h) (fun H locs hR hS _ _ => ?_)
          obtain ⟨zM4, ezM4⟩ : ∃ y, y = s_X4_arrive zM3 N f p L c := ⟨_, rfl⟩
          rw [← ezM4] at hR
          obtain ⟨F5, eF5⟩ : ∃ y, y = f_X4_arrive zM3 G N f p L c := ⟨_, rfl⟩
          rw [← eF5] at hR
          simp only [Option.toList, List.nil_append]
          refine lv_goto (tgt := 188) C.1 C.2.1 dX4_tickRing_93 (by decide) ?_
          have hs : s_X4_tickRing_i M N f p L c = zM4 := (if_pos c45).trans ((if_neg c62).trans ((if_pos c85).trans (by rw [ezM4, ezM3, ezM1])))
          rw [hs]
          have hf : f_X4_tickRing_i M G N f p L c = F5 := (if_pos c45).trans ((if_neg c62).trans ((if_pos c85).trans (by rw [eF5]; try simp only [ezM4, ezM3, ezM1, true_and])))
          rw [hf]
          exact endv C hr hlk hR hS dX4_tickRing_188
    · skip
      refine lv_aload_n C.1 C.2.1 dX4_tickRing_48 rfl (lv_at hl 0 rfl) ?_
      refine lv_iload_n C.1 C.2.1 dX4_tickRing_49 rfl (lv_at hl 1 rfl) ?_
      refine cxV (b := d) (As := [.int (nI f)]) (rest := []) (ci := 4) (q := (RX4, TX4, 36)) C (k_X4_claim_i l g d N zM1 G hN f (by omega) L (by omega) (by rw [ezM1, maS_o (by decide) (by decide) (by decide), h25]) (by rw [ezM1, maS_o (by decide) (by decide) (by decide), h32])) cf_X4_claim ml_X4_140 ⟨by decide, by decide⟩ ⟨rfl, rfl⟩ rfl (hR.1) rfl hl.1 rfl (Nat.le_of_ble_eq_true rfl) dX4_tickRing_50 hR ⟨Nat.zero_le _, Nat.zero_le _⟩ hS (fun _ h => h) (fun H locs hR hS _ _ => ?_)
      obtain ⟨zM6, ezM6⟩ : ∃ y, y = s_X4_claim_i zM1 f L := ⟨_, rfl⟩
      rw [← ezM6] at hR
      simp only [Option.toList, List.nil_append]
      refine lv_goto (tgt := 188) C.1 C.2.1 dX4_tickRing_53 (by decide) ?_
      have hs : s_X4_tickRing_i M N f p L c = zM6 := (if_neg c45).trans (by rw [ezM6, ezM1])
      rw [hs]
      have hf : f_X4_tickRing_i M G N f p L c = G := (if_neg c45).trans (rfl)
      rw [hf]
      exact endv C hr hlk hR hS dX4_tickRing_188
  · skip
    exact absurd (h28) c6

def s_X4_tickRing_s (M : SX) (N : Nat) (f p L c q z t : Nat) : SX := if bI (maB N f (M 29 f) L 0 M) = 0 then (if q % 2 = 1 then (if M 9 (wr N (f + p)) ≤ 0 then (if (M 33 f) - (nI 1) = 0 then (s_X4_begin (s_X4_finish (up2 (maS N f (M 29 f) L 0 M) 33 f ((M 33 f) - (nI 1))) N f p L q z t) N f p L) else (up2 (maS N f (M 29 f) L 0 M) 33 f ((M 33 f) - (nI 1)))) else (if (M 33 f) - (nI 1) = 0 then (s_X4_begin (s_X4_finish (up2 (up2 (maS N f (M 29 f) L 0 M) 33 f ((M 33 f) - (nI 1))) 9 (wr N (f + p)) ((M 9 (wr N (f + p))) - (nI 1))) N f p L q z t) N f p L) else (up2 (up2 (maS N f (M 29 f) L 0 M) 33 f ((M 33 f) - (nI 1))) 9 (wr N (f + p)) ((M 9 (wr N (f + p))) - (nI 1))))) else (if (M 33 f) - (nI 1) = 0 then (s_X4_begin (s_X4_finish (up2 (maS N f (M 29 f) L 0 M) 33 f ((M 33 f) - (nI 1))) N f p L q z t) N f p L) else (up2 (maS N f (M 29 f) L 0 M) 33 f ((M 33 f) - (nI 1))))) else (s_X4_claim_s (maS N f (M 29 f) L 0 M) f q z L)
set_option maxHeartbeats 4000000 in
set_option maxRecDepth 100000 in
theorem k_X4_tickRing_s (l : Launch) (g : GX) (d N : Nat) (M : SX) (G : FX) (hN : N ≤ 6) (f p L : Nat) (hf : f < N) (hp : p < L) (hL : L ≤ N) (h30 : M 30 f = nI p) (h25 : M 25 f = nI L) (hrow : ∀ k, k < L → M 26 (6 * f + k) = nI (wr N (f + k))) (c : Nat) (hc : (p + 1) % L = c) (hcL : c < L) (hF : fOK (G (wr N (f + c)))) (q z t : Nat) (hq : q < 12) (hz1 : 1 ≤ z) (hz : z ≤ 5) (ht : t < 6) (h32 : M 32 f = nI q) (h21 : M 21 q = nI z) (h22 : M 22 (5 * q) = nI t) (h28 : M 28 f ≤ 0) (h31 : M 31 f ≤ 0)  : MR l yX4_tickRing (.code yX4_tickRing cX4_tickRing 3 none :: tb) (rmk 2 48) g (RepM g d N M G) (RepM g d N (s_X4_tickRing_s M N f p L c q z t) G) (AM d) [.ref d, .int (nI f)] none := by
  refine MR.start RX4 (by decide) rfl (Nat.le_of_ble_eq_true rfl) (fun zp ze zs zm zb zt zc ls C hr hlk hR hS hl => ?_)
  have hl : lv_has ls 3 [(0, .ref d), (1, .int (nI f))] := hl
  have hwp := wr_lt (N := N) (i := f + p) (by omega)
  refine lv_aload_n C.1 C.2.1 dX4_tickRing_0 rfl (lv_at hl 0 rfl) ?_
  refine m_get C hR 28 (by decide) rfl fl_X4_87 (v := .ref (mA d 28)) rfl dX4_tickRing_1 ?_
  refine lv_iload_n C.1 C.2.1 dX4_tickRing_4 rfl (lv_at hl 1 rfl) ?_
  refine mI_ld (k := 28) (j := f) C hR (by simp only [mAr]; decide) rfl (show f < 6 by omega) dX4_tickRing_5 ?_
  refine lv_if_le (tgt := 40) C.1 C.2.1 dX4_tickRing_6 (by decide) (fun c6 => ?_) (fun c6 => ?_)
  · skip
    refine lv_aload_n C.1 C.2.1 dX4_tickRing_40 rfl (lv_at hl 0 rfl) ?_
    refine lv_iload_n C.1 C.2.1 dX4_tickRing_41 rfl (lv_at hl 1 rfl) ?_
    refine cxV (b := d) (As := [.int (nI f)]) (rest := []) (ci := 4) (q := (RX4, TX4, 36)) C (k_X4_age l g d N M G hN f p L (by omega) (by omega) (by omega) (by rw [h30]) (by rw [h25]) hrow) cf_X4_age ml_X4_156 ⟨by decide, by decide⟩ ⟨rfl, rfl⟩ rfl (hR.1) rfl hl.1 rfl (Nat.le_of_ble_eq_true rfl) dX4_tickRing_42 hR ⟨Nat.zero_le _, Nat.zero_le _⟩ hS (fun _ h => h) (fun H locs hR hS _ _ => ?_)
    obtain ⟨zM1, ezM1⟩ : ∃ y, y = maS N f (M 29 f) L 0 M := ⟨_, rfl⟩
    rw [← ezM1] at hR
    simp only [Option.toList, List.cons_append, List.nil_append]
    refine lv_if_eq (tgt := 56) C.1 C.2.1 dX4_tickRing_45 (by decide) (fun c45 => ?_) (fun c45 => ?_)
    · skip
      refine lv_aload_n C.1 C.2.1 dX4_tickRing_56 rfl (lv_at hl 0 rfl) ?_
      refine m_get C hR 31 (by decide) rfl fl_X4_96 (v := .ref (mA d 31)) rfl dX4_tickRing_57 ?_
      refine lv_iload_n C.1 C.2.1 dX4_tickRing_60 rfl (lv_at hl 1 rfl) ?_
      refine mI_ld (k := 31) (j := f) C hR (by simp only [mAr]; decide) rfl (show f < 6 by omega) dX4_tickRing_61 ?_
      refine lv_re (y := M 31 f) (by rw [ezM1, maS_o (by decide) (by decide) (by decide)]) ?_
      refine lv_if_le (tgt := 96) C.1 C.2.1 dX4_tickRing_62 (by decide) (fun c62 => ?_) (fun c62 => ?_)
      · skip
        refine lv_aload_n C.1 C.2.1 dX4_tickRing_96 rfl (lv_at hl 0 rfl) ?_
        refine lv_iload_n C.1 C.2.1 dX4_tickRing_97 rfl (lv_at hl 1 rfl) ?_
        refine cxV (b := d) (As := [.int (nI f)]) (rest := []) (ci := 4) (q := (RX4, TX4, 36)) C (k_X4_holder l g d N zM1 G hN f p (wr N (f + p)) (by omega) (by omega) (by rw [ezM1, maS_o (by decide) (by decide) (by decide), h30]) (by rw [ezM1, maS_o (by decide) (by decide) (by decide), hrow p hp])) cf_X4_holder ml_X4_146 ⟨by decide, by decide⟩ ⟨rfl, rfl⟩ rfl (hR.1) rfl hl.1 rfl (Nat.le_of_ble_eq_true rfl) dX4_tickRing_98 hR ⟨Nat.zero_le _, Nat.zero_le _⟩ hS (fun _ h => h) (fun H locs hR hS _ _ => ?_)
        simp only [Option.toList, List.cons_append, List.nil_append]
        refine lv_istore_n (lv' := [(2, .int (nI (wr N (f + p)))), (0, .ref d), (1, .int (nI f))]) C.1 C.2.1 dX4_tickRing_101 rfl hl (by decide) rfl (fun ls hl => ?_)
        refine lv_aload_n C.1 C.2.1 dX4_tickRing_102 rfl (lv_at hl 1 rfl) ?_
        refine m_get C hR 32 (by decide) rfl fl_X4_99 (v := .ref (mA d 32)) rfl dX4_tickRing_103 ?_
        refine lv_iload_n C.1 C.2.1 dX4_tickRing_106 rfl (lv_at hl 2 rfl) ?_
        refine mI_ld (k := 32) (j := f) C hR (by simp only [mAr]; decide) rfl (show f < 6 by omega) dX4_tickRing_107 ?_
        refine lv_re (y := nI q) (by rw [ezM1, maS_o (by decide) (by decide) (by decide), h32]) ?_
        refine lv_if_lt (tgt := 174) C.1 C.2.1 dX4_tickRing_108 (by decide) (fun c108 => ?_) (fun c108 => ?_)
        · skip
          exact absurd c108 (nI_pos (by omega))
        · skip
          have c108 : ¬ (q < 0) := mt (nI_ltI (a := q) (b := 0) (by omega) (by omega)).mpr c108
          refine lv_aload_n C.1 C.2.1 dX4_tickRing_111 rfl (lv_at hl 1 rfl) ?_
          refine m_get C hR 33 (by decide) rfl fl_X4_102 (v := .ref (mA d 33)) rfl dX4_tickRing_112 ?_
          refine lv_iload_n C.1 C.2.1 dX4_tickRing_115 rfl (lv_at hl 2 rfl) ?_
          refine lv_aload_n C.1 C.2.1 dX4_tickRing_116 rfl (lv_at hl 1 rfl) ?_
          refine m_get C hR 33 (by decide) rfl fl_X4_102 (v := .ref (mA d 33)) rfl dX4_tickRing_117 ?_
          refine lv_iload_n C.1 C.2.1 dX4_tickRing_120 rfl (lv_at hl 2 rfl) ?_
          refine mI_ld (k := 33) (j := f) C hR (by simp only [mAr]; decide) rfl (show f < 6 by omega) dX4_tickRing_121 ?_
          refine lv_re (y := M 33 f) (by rw [ezM1, maS_o (by decide) (by decide) (by decide)]) ?_
          refine lv_iconst (v := nI 1) C.1 C.2.1 dX4_tickRing_122 (by decide) ?_
          refine lv_isub C.1 C.2.1 dX4_tickRing_123 ?_
          refine mI_st (k := 33) (j := f) C hR hS (by simp only [mAr]; decide) rfl (show f < 6 by omega) dX4_tickRing_124 (fun zM2 H locs ezM2 hR hS => ?_)
          refine lv_aload_n C.1 C.2.1 dX4_tickRing_125 rfl (lv_at hl 1 rfl) ?_
          refine m_get C hR 32 (by decide) rfl fl_X4_99 (v := .ref (mA d 32)) rfl dX4_tickRing_126 ?_
          refine lv_iload_n C.1 C.2.1 dX4_tickRing_129 rfl (lv_at hl 2 rfl) ?_
          refine mI_ld (k := 32) (j := f) C hR (by simp only [mAr]; decide) rfl (show f < 6 by omega) dX4_tickRing_130 ?_
          refine lv_re (y := nI q) (by rw [ezM2, up2_f (by decide), ezM1, maS_o (by decide) (by decide) (by decide), h32]) ?_
          refine lv_iconst (v := nI 2) C.1 C.2.1 dX4_tickRing_131 (by decide) ?_
          refine n_irem C (by omega) (by omega) (by omega) dX4_tickRing_132 ?_
          refine lv_iconst (v := nI 1) C.1 C.2.1 dX4_tickRing_133 (by decide) ?_
          refine lv_icmp_ne (tgt := 160) C.1 C.2.1 dX4_tickRing_134 (by decide) (fun c134 => ?_) (fun c134 => ?_)
          · skip
            have c134 : ¬ (q % 2 = 1) := mt (nI_eq (a := q % 2) (b := 1) (by omega) (by omega)).mpr c134
            refine lv_aload_n C.1 C.2.1 dX4_tickRing_160 rfl (lv_at hl 1 rfl) ?_
            refine m_get C hR 33 (by decide) rfl fl_X4_102 (v := .ref (mA d 33)) rfl dX4_tickRing_161 ?_
            refine lv_iload_n C.1 C.2.1 dX4_tickRing_164 rfl (lv_at hl 2 rfl) ?_
            refine mI_ld (k := 33) (j := f) C hR (by simp only [mAr]; decide) rfl (show f < 6 by omega) dX4_tickRing_165 ?_
            refine lv_re (y := (M 33 f) - (nI 1)) (by rw [ezM2, up2_eq]) ?_
            refine lv_if_ne (tgt := 174) C.1 C.2.1 dX4_tickRing_166 (by decide) (fun c166 => ?_) (fun c166 => ?_)
            · skip
              refine lv_aload_n C.1 C.2.1 dX4_tickRing_174 rfl (lv_at hl 1 rfl) ?_
              refine m_get C hR 32 (by decide) rfl fl_X4_99 (v := .ref (mA d 32)) rfl dX4_tickRing_175 ?_
              refine lv_iload_n C.1 C.2.1 dX4_tickRing_178 rfl (lv_at hl 2 rfl) ?_
              refine mI_ld (k := 32) (j := f) C hR (by simp only [mAr]; decide) rfl (show f < 6 by omega) dX4_tickRing_179 ?_
              refine lv_re (y := nI q) (by rw [ezM2, up2_f (by decide), ezM1, maS_o (by decide) (by decide) (by decide), h32]) ?_
              refine lv_if_ge (tgt := 188) C.1 C.2.1 dX4_tickRing_180 (by decide) (fun c180 => ?_) (fun c180 => ?_)
              · skip
                have c180 : 0 ≤ q := (nI_leI (a := 0) (b := q) (by omega) (by omega)).mp c180
                have hs : s_X4_tickRing_s M N f p L c q z t = zM2 := (if_pos c45).trans ((if_neg c134).trans ((if_neg c166).trans (by rw [ezM2, ezM1])))
                rw [hs]
                exact endv C hr hlk hR hS dX4_tickRing_188
              · skip
                exact absurd (nI_pos' (by omega)) c180
            · skip
              refine lv_aload_n C.1 C.2.1 dX4_tickRing_169 rfl (lv_at hl 1 rfl) ?_
              refine lv_iload_n C.1 C.2.1 dX4_tickRing_170 rfl (lv_at hl 2 rfl) ?_
              refine cxV (b := d) (As := [.int (nI f)]) (rest := []) (ci := 4) (q := (RX4, TX4, 36)) C (k_X4_finish l g d N zM2 G hN f p L (by omega) (by omega) (by omega) (by rw [ezM2, up2_f (by decide), ezM1, maS_o (by decide) (by decide) (by decide), h30]) (by rw [ezM2, up2_f (by decide), ezM1, maS_o (by decide) (by decide) (by decide), h25]) (fun k hk => by rw [ezM2, up2_f (by decide), ezM1, maS_o (by decide) (by decide) (by decide), hrow k hk]) q z t hq hz1 hz ht (by rw [ezM2, up2_f (by decide), ezM1, maS_o (by decide) (by decide) (by decide), h32]) (by rw [ezM2, up2_f (by decide), ezM1, maS_o (by decide) (by decide) (by decide), h21]) (by rw [ezM2, up2_f (by decide), ezM1, maS_o (by decide) (by decide) (by decide), h22])) cf_X4_finish ml_X4_162 ⟨by decide, by decide⟩ ⟨rfl, rfl⟩ rfl (hR.1) rfl hl.1 rfl (Nat.le_of_ble_eq_true rfl) dX4_tickRing_171 hR ⟨Nat.zero_le _, Nat.zero_le _⟩ hS (fun _ h => h) (fun H locs hR hS _ _ => ?_)
              obtain ⟨zM3, ezM3⟩ : ∃ y, y = s_X4_finish zM2 N f p L q z t := ⟨_, rfl⟩
              rw [← ezM3] at hR
              simp only [Option.toList, List.nil_append]
              have h32b : zM3 32 f = -1 := by rw [ezM3]; exact mfin_32
              refine lv_aload_n C.1 C.2.1 dX4_tickRing_174 rfl (lv_at hl 1 rfl) ?_
              refine m_get C hR 32 (by decide) rfl fl_X4_99 (v := .ref (mA d 32)) rfl dX4_tickRing_175 ?_
              refine lv_iload_n C.1 C.2.1 dX4_tickRing_178 rfl (lv_at hl 2 rfl) ?_
              refine mI_ld (k := 32) (j := f) C hR (by simp only [mAr]; decide) rfl (show f < 6 by omega) dX4_tickRing_179 ?_
              refine lv_re (y := (-1)) (by rw [h32b]) ?_
              refine lv_if_ge (tgt := 188) C.1 C.2.1 dX4_tickRing_180 (by decide) (fun c180 => ?_) (fun c180 => ?_)
              · skip
                exact absurd c180 (by decide)
              · skip
                refine lv_aload_n C.1 C.2.1 dX4_tickRing_183 rfl (lv_at hl 1 rfl) ?_
                refine lv_iload_n C.1 C.2.1 dX4_tickRing_184 rfl (lv_at hl 2 rfl) ?_
                refine cxV (b := d) (As := [.int (nI f)]) (rest := []) (ci := 4) (q := (RX4, TX4, 36)) C (k_X4_begin l g d N zM3 G hN f p L (by omega) (by omega) (by omega) (by rw [ezM3, mfin_o (by decide) (by decide), ezM2, up2_f (by decide), ezM1, maS_o (by decide) (by decide) (by decide), h30]) (by rw [ezM3, mfin_o (by decide) (by decide), ezM2, up2_f (by decide), ezM1, maS_o (by decide) (by decide) (by decide), h25]) (fun k hk => by rw [ezM3, mfin_o (by decide) (by decide), ezM2, up2_f (by decide), ezM1, maS_o (by decide) (by decide) (by decide), hrow k hk])) cf_X4_begin ml_X4_165 ⟨by decide, by decide⟩ ⟨rfl, rfl⟩ rfl (hR.1) rfl hl.1 rfl (Nat.le_of_ble_eq_true rfl) dX4_tickRing_185 hR ⟨Nat.zero_le _, Nat.zero_le _⟩ hS (fun _ h => h) (fun H locs hR hS _ _ => ?_)
                obtain ⟨zM4, ezM4⟩ : ∃ y, y = s_X4_begin zM3 N f p L := ⟨_, rfl⟩
                rw [← ezM4] at hR
                simp only [Option.toList, List.nil_append]
                have hs : s_X4_tickRing_s M N f p L c q z t = zM4 := (if_pos c45).trans ((if_neg c134).trans ((if_pos c166).trans (by rw [ezM4, ezM3, ezM2, ezM1])))
                rw [hs]
                exact endv C hr hlk hR hS dX4_tickRing_188
          · skip
            have c134 : q % 2 = 1 := (nI_eq (a := q % 2) (b := 1) (by omega) (by omega)).mp c134
            refine lv_aload_n C.1 C.2.1 dX4_tickRing_137 rfl (lv_at hl 1 rfl) ?_
            refine m_get C hR 9 (by decide) rfl fl_X4_29 (v := .ref (mA d 9)) rfl dX4_tickRing_138 ?_
            refine lv_iload_n C.1 C.2.1 dX4_tickRing_141 rfl (lv_at hl 0 rfl) ?_
            refine mI_ld (k := 9) (j := wr N (f + p)) C hR (by simp only [mAr]; decide) rfl (show wr N (f + p) < 6 by omega) dX4_tickRing_142 ?_
            refine lv_re (y := M 9 (wr N (f + p))) (by rw [ezM2, up2_f (by decide), ezM1, maS_o (by decide) (by decide) (by decide)]) ?_
            refine lv_if_le (tgt := 160) C.1 C.2.1 dX4_tickRing_143 (by decide) (fun c143 => ?_) (fun c143 => ?_)
            · skip
              refine lv_aload_n C.1 C.2.1 dX4_tickRing_160 rfl (lv_at hl 1 rfl) ?_
              refine m_get C hR 33 (by decide) rfl fl_X4_102 (v := .ref (mA d 33)) rfl dX4_tickRing_161 ?_
              refine lv_iload_n C.1 C.2.1 dX4_tickRing_164 rfl (lv_at hl 2 rfl) ?_
              refine mI_ld (k := 33) (j := f) C hR (by simp only [mAr]; decide) rfl (show f < 6 by omega) dX4_tickRing_165 ?_
              refine lv_re (y := (M 33 f) - (nI 1)) (by rw [ezM2, up2_eq]) ?_
              refine lv_if_ne (tgt := 174) C.1 C.2.1 dX4_tickRing_166 (by decide) (fun c166 => ?_) (fun c166 => ?_)
              · skip
                refine lv_aload_n C.1 C.2.1 dX4_tickRing_174 rfl (lv_at hl 1 rfl) ?_
                refine m_get C hR 32 (by decide) rfl fl_X4_99 (v := .ref (mA d 32)) rfl dX4_tickRing_175 ?_
                refine lv_iload_n C.1 C.2.1 dX4_tickRing_178 rfl (lv_at hl 2 rfl) ?_
                refine mI_ld (k := 32) (j := f) C hR (by simp only [mAr]; decide) rfl (show f < 6 by omega) dX4_tickRing_179 ?_
                refine lv_re (y := nI q) (by rw [ezM2, up2_f (by decide), ezM1, maS_o (by decide) (by decide) (by decide), h32]) ?_
                refine lv_if_ge (tgt := 188) C.1 C.2.1 dX4_tickRing_180 (by decide) (fun c180 => ?_) (fun c180 => ?_)
                · skip
                  have c180 : 0 ≤ q := (nI_leI (a := 0) (b := q) (by omega) (by omega)).mp c180
                  have hs : s_X4_tickRing_s M N f p L c q z t = zM2 := (if_pos c45).trans ((if_pos c134).trans ((if_pos c143).trans ((if_neg c166).trans (by rw [ezM2, ezM1]))))
                  rw [hs]
                  exact endv C hr hlk hR hS dX4_tickRing_188
                · skip
                  exact absurd (nI_pos' (by omega)) c180
              · skip
                refine lv_aload_n C.1 C.2.1 dX4_tickRing_169 rfl (lv_at hl 1 rfl) ?_
                refine lv_iload_n C.1 C.2.1 dX4_tickRing_170 rfl (lv_at hl 2 rfl) ?_
                refine cxV (b := d) (As := [.int (nI f)]) (rest := []) (ci := 4) (q := (RX4, TX4, 36)) C (k_X4_finish l g d N zM2 G hN f p L (by omega) (by omega) (by omega) (by rw [ezM2, up2_f (by decide), ezM1, maS_o (by decide) (by decide) (by decide), h30]) (by rw [ezM2, up2_f (by decide), ezM1, maS_o (by decide) (by decide) (by decide), h25]) (fun k hk => by rw [ezM2, up2_f (by decide), ezM1, maS_o (by decide) (by decide) (by decide), hrow k hk]) q z t hq hz1 hz ht (by rw [ezM2, up2_f (by decide), ezM1, maS_o (by decide) (by decide) (by decide), h32]) (by rw [ezM2, up2_f (by decide), ezM1, maS_o (by decide) (by decide) (by decide), h21]) (by rw [ezM2, up2_f (by decide), ezM1, maS_o (by decide) (by decide) (by decide), h22])) cf_X4_finish ml_X4_162 ⟨by decide, by decide⟩ ⟨rfl, rfl⟩ rfl (hR.1) rfl hl.1 rfl (Nat.le_of_ble_eq_true rfl) dX4_tickRing_171 hR ⟨Nat.zero_le _, Nat.zero_le _⟩ hS (fun _ h => h) (fun H locs hR hS _ _ => ?_)
                obtain ⟨zM5, ezM5⟩ : ∃ y, y = s_X4_finish zM2 N f p L q z t := ⟨_, rfl⟩
                rw [← ezM5] at hR
                simp only [Option.toList, List.nil_append]
                have h32b : zM5 32 f = -1 := by rw [ezM5]; exact mfin_32
                refine lv_aload_n C.1 C.2.1 dX4_tickRing_174 rfl (lv_at hl 1 rfl) ?_
                refine m_get C hR 32 (by decide) rfl fl_X4_99 (v := .ref (mA d 32)) rfl dX4_tickRing_175 ?_
                refine lv_iload_n C.1 C.2.1 dX4_tickRing_178 rfl (lv_at hl 2 rfl) ?_
                refine mI_ld (k := 32) (j := f) C hR (by simp only [mAr]; decide) rfl (show f < 6 by omega) dX4_tickRing_179 ?_
                refine lv_re (y := (-1)) (by rw [h32b]) ?_
                refine lv_if_ge (tgt := 188) C.1 C.2.1 dX4_tickRing_180 (by decide) (fun c180 => ?_) (fun c180 => ?_)
                · skip
                  exact absurd c180 (by decide)
                · skip
                  refine lv_aload_n C.1 C.2.1 dX4_tickRing_183 rfl (lv_at hl 1 rfl) ?_
                  refine lv_iload_n C.1 C.2.1 dX4_tickRing_184 rfl (lv_at hl 2 rfl) ?_
                  refine cxV (b := d) (As := [.int (nI f)]) (rest := []) (ci := 4) (q := (RX4, TX4, 36)) C (k_X4_begin l g d N zM5 G hN f p L (by omega) (by omega) (by omega) (by rw [ezM5, mfin_o (by decide) (by decide), ezM2, up2_f (by decide), ezM1, maS_o (by decide) (by decide) (by decide), h30]) (by rw [ezM5, mfin_o (by decide) (by decide), ezM2, up2_f (by decide), ezM1, maS_o (by decide) (by decide) (by decide), h25]) (fun k hk => by rw [ezM5, mfin_o (by decide) (by decide), ezM2, up2_f (by decide), ezM1, maS_o (by decide) (by decide) (by decide), hrow k hk])) cf_X4_begin ml_X4_165 ⟨by decide, by decide⟩ ⟨rfl, rfl⟩ rfl (hR.1) rfl hl.1 rfl (Nat.le_of_ble_eq_true rfl) dX4_tickRing_185 hR ⟨Nat.zero_le _, Nat.zero_le _⟩ hS (fun _ h => h) (fun H locs hR hS _ _ => ?_)
                  obtain ⟨zM6, ezM6⟩ : ∃ y, y = s_X4_begin zM5 N f p L := ⟨_, rfl⟩
                  rw [← ezM6] at hR
                  simp only [Option.toList, List.nil_append]
                  have hs : s_X4_tickRing_s M N f p L c q z t = zM6 := (if_pos c45).trans ((if_pos c134).trans ((if_pos c143).trans ((if_pos c166).trans (by rw [ezM6, ezM5, ezM2, ezM1]))))
                  rw [hs]
                  exact endv C hr hlk hR hS dX4_tickRing_188
            · skip
              refine lv_aload_n C.1 C.2.1 dX4_tickRing_146 rfl (lv_at hl 1 rfl) ?_
              refine m_get C hR 9 (by decide) rfl fl_X4_29 (v := .ref (mA d 9)) rfl dX4_tickRing_147 ?_
              refine lv_iload_n C.1 C.2.1 dX4_tickRing_150 rfl (lv_at hl 0 rfl) ?_
              refine lv_aload_n C.1 C.2.1 dX4_tickRing_151 rfl (lv_at hl 1 rfl) ?_
              refine m_get C hR 9 (by decide) rfl fl_X4_29 (v := .ref (mA d 9)) rfl dX4_tickRing_152 ?_
              refine lv_iload_n C.1 C.2.1 dX4_tickRing_155 rfl (lv_at hl 0 rfl) ?_
              refine mI_ld (k := 9) (j := wr N (f + p)) C hR (by simp only [mAr]; decide) rfl (show wr N (f + p) < 6 by omega) dX4_tickRing_156 ?_
              refine lv_re (y := M 9 (wr N (f + p))) (by rw [ezM2, up2_f (by decide), ezM1, maS_o (by decide) (by decide) (by decide)]) ?_
              refine lv_iconst (v := nI 1) C.1 C.2.1 dX4_tickRing_157 (by decide) ?_
              refine lv_isub C.1 C.2.1 dX4_tickRing_158 ?_
              refine mI_st (k := 9) (j := wr N (f + p)) C hR hS (by simp only [mAr]; decide) rfl (show wr N (f + p) < 6 by omega) dX4_tickRing_159 (fun zM7 H locs ezM7 hR hS => ?_)
              refine lv_aload_n C.1 C.2.1 dX4_tickRing_160 rfl (lv_at hl 1 rfl) ?_
              refine m_get C hR 33 (by decide) rfl fl_X4_102 (v := .ref (mA d 33)) rfl dX4_tickRing_161 ?_
              refine lv_iload_n C.1 C.2.1 dX4_tickRing_164 rfl (lv_at hl 2 rfl) ?_
              refine mI_ld (k := 33) (j := f) C hR (by simp only [mAr]; decide) rfl (show f < 6 by omega) dX4_tickRing_165 ?_
              refine lv_re (y := (M 33 f) - (nI 1)) (by rw [ezM7, up2_f (by decide), ezM2, up2_eq]) ?_
              refine lv_if_ne (tgt := 174) C.1 C.2.1 dX4_tickRing_166 (by decide) (fun c166 => ?_) (fun c166 => ?_)
              · skip
                refine lv_aload_n C.1 C.2.1 dX4_tickRing_174 rfl (lv_at hl 1 rfl) ?_
                refine m_get C hR 32 (by decide) rfl fl_X4_99 (v := .ref (mA d 32)) rfl dX4_tickRing_175 ?_
                refine lv_iload_n C.1 C.2.1 dX4_tickRing_178 rfl (lv_at hl 2 rfl) ?_
                refine mI_ld (k := 32) (j := f) C hR (by simp only [mAr]; decide) rfl (show f < 6 by omega) dX4_tickRing_179 ?_
                refine lv_re (y := nI q) (by rw [ezM7, up2_f (by decide), ezM2, up2_f (by decide), ezM1, maS_o (by decide) (by decide) (by decide), h32]) ?_
                refine lv_if_ge (tgt := 188) C.1 C.2.1 dX4_tickRing_180 (by decide) (fun c180 => ?_) (fun c180 => ?_)
                · skip
                  have c180 : 0 ≤ q := (nI_leI (a := 0) (b := q) (by omega) (by omega)).mp c180
                  have hs : s_X4_tickRing_s M N f p L c q z t = zM7 := (if_pos c45).trans ((if_pos c134).trans ((if_neg c143).trans ((if_neg c166).trans (by rw [ezM7, ezM2, ezM1]))))
                  rw [hs]
                  exact endv C hr hlk hR hS dX4_tickRing_188
                · skip
                  exact absurd (nI_pos' (by omega)) c180
              · skip
                refine lv_aload_n C.1 C.2.1 dX4_tickRing_169 rfl (lv_at hl 1 rfl) ?_
                refine lv_iload_n C.1 C.2.1 dX4_tickRing_170 rfl (lv_at hl 2 rfl) ?_
                refine cxV (b := d) (As := [.int (nI f)]) (rest := []) (ci := 4) (q := (RX4, TX4, 36)) C (k_X4_finish l g d N zM7 G hN f p L (by omega) (by omega) (by omega) (by rw [ezM7, up2_f (by decide), ezM2, up2_f (by decide), ezM1, maS_o (by decide) (by decide) (by decide), h30]) (by rw [ezM7, up2_f (by decide), ezM2, up2_f (by decide), ezM1, maS_o (by decide) (by decide) (by decide), h25]) (fun k hk => by rw [ezM7, up2_f (by decide), ezM2, up2_f (by decide), ezM1, maS_o (by decide) (by decide) (by decide), hrow k hk]) q z t hq hz1 hz ht (by rw [ezM7, up2_f (by decide), ezM2, up2_f (by decide), ezM1, maS_o (by decide) (by decide) (by decide), h32]) (by rw [ezM7, up2_f (by decide), ezM2, up2_f (by decide), ezM1, maS_o (by decide) (by decide) (by decide), h21]) (by rw [ezM7, up2_f (by decide), ezM2, up2_f (by decide), ezM1, maS_o (by decide) (by decide) (by decide), h22])) cf_X4_finish ml_X4_162 ⟨by decide, by decide⟩ ⟨rfl, rfl⟩ rfl (hR.1) rfl hl.1 rfl (Nat.le_of_ble_eq_true rfl) dX4_tickRing_171 hR ⟨Nat.zero_le _, Nat.zero_le _⟩ hS (fun _ h => h) (fun H locs hR hS _ _ => ?_)
                obtain ⟨zM8, ezM8⟩ : ∃ y, y = s_X4_finish zM7 N f p L q z t := ⟨_, rfl⟩
                rw [← ezM8] at hR
                simp only [Option.toList, List.nil_append]
                have h32b : zM8 32 f = -1 := by rw [ezM8]; exact mfin_32
                refine lv_aload_n C.1 C.2.1 dX4_tickRing_174 rfl (lv_at hl 1 rfl) ?_
                refine m_get C hR 32 (by decide) rfl fl_X4_99 (v := .ref (mA d 32)) rfl dX4_tickRing_175 ?_
                refine lv_iload_n C.1 C.2.1 dX4_tickRing_178 rfl (lv_at hl 2 rfl) ?_
                refine mI_ld (k := 32) (j := f) C hR (by simp only [mAr]; decide) rfl (show f < 6 by omega) dX4_tickRing_179 ?_
                refine lv_re (y := (-1)) (by rw [h32b]) ?_
                refine lv_if_ge (tgt := 188) C.1 C.2.1 dX4_tickRing_180 (by decide) (fun c180 => ?_) (fun c180 => ?_)
                · skip
                  exact absurd c180 (by decide)
                · skip
                  refine lv_aload_n C.1 C.2.1 dX4_tickRing_183 rfl (lv_at hl 1 rfl) ?_
                  refine lv_iload_n C.1 C.2.1 dX4_tickRing_184 rfl (lv_at hl 2 rfl) ?_
                  refine cxV (b := d) (As := [.int (nI f)]) (rest := []) (ci := 4) (q := (RX4, TX4, 36)) C (k_X4_begin l g d N zM8 G hN f p L (by omega) (by omega) (by omega) (by rw [ezM8, mfin_o (by decide) (by decide), ezM7, up2_f (by decide), ezM2, up2_f (by decide), ezM1, maS_o (by decide) (by decide) (by decide), h30]) (by rw [ezM8, mfin_o (by decide) (by decide), ezM7, up2_f (by decide), ezM2, up2_f (by decide), ezM1, maS_o (by decide) (by decide) (by decide), h25]) (fun k hk => by rw [ezM8, mfin_o (by decide) (by decide), ezM7, up2_f (by decide), ezM2, up2_f (by decide), ezM1, maS_o (by decide) (by decide) (by decide), hrow k hk])) cf_X4_begin ml_X4_165 ⟨by decide, by decide⟩ ⟨rfl, rfl⟩ rfl (hR.1) rfl hl.1 rfl (Nat.le_of_ble_eq_true rfl) dX4_tickRing_185 hR ⟨Nat.zero_le _, Nat.zero_le _⟩ hS (fun _ h => h) (fun H locs hR hS _ _ => ?_)
                  obtain ⟨zM9, ezM9⟩ : ∃ y, y = s_X4_begin zM8 N f p L := ⟨_, rfl⟩
                  rw [← ezM9] at hR
                  simp only [Option.toList, List.nil_append]
                  have hs : s_X4_tickRing_s M N f p L c q z t = zM9 := (if_pos c45).trans ((if_pos c134).trans ((if_neg c143).trans ((if_pos c166).trans (by rw [ezM9, ezM8, ezM7, ezM2, ezM1]))))
                  rw [hs]
                  exact endv C hr hlk hR hS dX4_tickRing_188
      · skip
        exact absurd (h31) c62
    · skip
      refine lv_aload_n C.1 C.2.1 dX4_tickRing_48 rfl (lv_at hl 0 rfl) ?_
      refine lv_iload_n C.1 C.2.1 dX4_tickRing_49 rfl (lv_at hl 1 rfl) ?_
      refine cxV (b := d) (As := [.int (nI f)]) (rest := []) (ci := 4) (q := (RX4, TX4, 36)) C (k_X4_claim_s l g d N zM1 G hN f q z (by omega) hq hz1 hz (by rw [ezM1, maS_o (by decide) (by decide) (by decide), h32]) (by rw [ezM1, maS_o (by decide) (by decide) (by decide), h21]) L (by omega) (by rw [ezM1, maS_o (by decide) (by decide) (by decide), h25])) cf_X4_claim ml_X4_140 ⟨by decide, by decide⟩ ⟨rfl, rfl⟩ rfl (hR.1) rfl hl.1 rfl (Nat.le_of_ble_eq_true rfl) dX4_tickRing_50 hR ⟨Nat.zero_le _, Nat.zero_le _⟩ hS (fun _ h => h) (fun H locs hR hS _ _ => ?_)
      obtain ⟨zM10, ezM10⟩ : ∃ y, y = s_X4_claim_s zM1 f q z L := ⟨_, rfl⟩
      rw [← ezM10] at hR
      simp only [Option.toList, List.nil_append]
      refine lv_goto (tgt := 188) C.1 C.2.1 dX4_tickRing_53 (by decide) ?_
      have hs : s_X4_tickRing_s M N f p L c q z t = zM10 := (if_neg c45).trans (by rw [ezM10, ezM1])
      rw [hs]
      exact endv C hr hlk hR hS dX4_tickRing_188
  · skip
    exact absurd (h28) c6

