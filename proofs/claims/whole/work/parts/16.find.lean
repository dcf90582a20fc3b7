set_option maxHeartbeats 4000000 in
set_option maxRecDepth 100000 in
theorem k_X3_findRings (l : Launch) (g : GX) (b N : Nat) (S : SX) (Fl : FX) (hN : N ≤ 6) (hI : IX N S) : MR l yX3_findRings (.code yX3_findRings cX3_findRings 6 none :: tb) (rmk 4 91) g (RepX g b N S Fl) (RepX g b N (frl N (allj N S N) S N) Fl) (AX b N) [.ref b] none := by
  refine MR.start RX3 (by decide) rfl (Nat.le_of_ble_eq_true rfl) (fun zp ze zs zm zb zt zc ls C hr hlk hR hS hl => ?_)
  have hl : lv_has ls 6 [(0, .ref b)] := hl
  refine lv_aload_n C.1 C.2.1 dX3_findRings_0 rfl (lv_at hl 0 rfl) ?_
  refine cxV (b := b) (As := []) (rest := []) (ci := 3) (q := (RX3, TX3, 6)) C (k_X3_isUnbroken l g b N S Fl hN) cf_X3_isUnbroken ml_X3_147 ⟨by decide, by decide⟩ ⟨rfl, rfl⟩ rfl (hR.1) rfl hl.1 rfl (Nat.le_of_ble_eq_true rfl) dX3_findRings_1 hR ⟨Nat.zero_le _, Nat.zero_le _⟩ hS (fun _ h => h) (fun H locs hR hS _ _ => ?_)
  simp only [Option.toList, List.cons_append, List.nil_append]
  refine lv_istore_n (lv' := [(1, .int (bI (allj N S N))), (0, .ref b)]) C.1 C.2.1 dX3_findRings_4 rfl hl (by decide) rfl (fun ls hl => ?_)
  refine lv_iconst (v := nI 0) C.1 C.2.1 dX3_findRings_5 (by decide) ?_
  refine lv_istore_n (lv' := [(2, .int (nI 0)), (1, .int (bI (allj N S N))), (0, .ref b)]) C.1 C.2.1 dX3_findRings_6 rfl hl (by decide) rfl (fun ls hl => ?_)
  have lp : ∀ (n : Nat) (i : Nat) (H : Heap) (locs : List Loc) (ls : Array Slot), N - i < n → i ≤ N → IX N (frl N (allj N S N) S i) → RepX g b N (frl N (allj N S N) S i) Fl H → va_S (AX b N) zs.heap H locs → lv_has ls 6 [(2, .int (nI i)), (1, .int (bI (allj N S N))), (0, .ref b)] → W zp l ze (rmk 4 91) zs zm ([.ref b] : List Value).toArray zb zt zc H locs 0 0 (MQ zb (QR (RepX g b N (frl N (allj N S N) S N) Fl) (AX b N) none) ([.ref b] : List Value).toArray zs 0 0 (AX b N)) (F0 zm 7 ls []) := by
    intro n
    induction n with
    | zero => intro i H locs ls hm; exact absurd hm (Nat.not_lt_zero _)
    | succ n ih =>
      intro i H locs ls hm hi hI hR hS hl
      obtain ⟨S1, eS1⟩ : ∃ y, y = frl N (allj N S N) S i := ⟨_, rfl⟩
      rw [← eS1] at hR
      rw [← eS1] at hI
      refine lv_iload_n C.1 C.2.1 dX3_findRings_7 rfl (lv_at hl 0 rfl) ?_
      refine lv_aload_n C.1 C.2.1 dX3_findRings_8 rfl (lv_at hl 2 rfl) ?_
      refine xO_get C hR 0 (by decide) rfl fl_X3_9 (v := .int (nI N)) rfl dX3_findRings_9 ?_
      refine lv_icmp_ge (tgt := 97) C.1 C.2.1 dX3_findRings_12 (by decide) (fun c12 => ?_) (fun c12 => ?_)
      · skip
        have c12 : N ≤ i := (nI_leI (a := N) (b := i) (by omega) (by omega)).mp c12
        have hs : frl N (allj N S N) S N = S1 := by rw [eS1, show i = N by omega]
        rw [hs]
        exact endv C hr hlk hR hS dX3_findRings_97
      · skip
        have c12 : ¬ (N ≤ i) := mt (nI_leI (a := N) (b := i) (by omega) (by omega)).mpr c12
        obtain ⟨K, hK, g21⟩ := hI.2.2.1 i (by omega)
        refine lv_aload_n C.1 C.2.1 dX3_findRings_15 rfl (lv_at hl 2 rfl) ?_
        refine xO_get C hR 3 (by decide) rfl fl_X3_25 (v := .ref (b + 3)) rfl dX3_findRings_16 ?_
        refine lv_iload_n C.1 C.2.1 dX3_findRings_19 rfl (lv_at hl 0 rfl) ?_
        refine xR_ald (j := i) C hR (by omega) hN dX3_findRings_20 ?_
        refine lv_astore_n (lv' := [(3, .ref (aRg b i)), (2, .int (nI i)), (1, .int (bI (allj N S N))), (0, .ref b)]) C.1 C.2.1 dX3_findRings_21 rfl hl (by decide) rfl (fun ls hl => ?_)
        refine lv_iload_n C.1 C.2.1 dX3_findRings_22 rfl (lv_at hl 2 rfl) ?_
        refine lv_if_eq (tgt := 34) C.1 C.2.1 dX3_findRings_23 (by decide) (fun c23 => ?_) (fun c23 => ?_)
        · skip
          refine lv_iconst (v := nI 0) C.1 C.2.1 dX3_findRings_34 (by decide) ?_
          refine lv_istore (lv' := [(4, .int (nI 0)), (3, .ref (aRg b i)), (2, .int (nI i)), (1, .int (bI (allj N S N))), (0, .ref b)]) C.1 C.2.1 dX3_findRings_35 hl (by decide) rfl (fun ls hl => ?_)
          refine lv_iload_n C.1 C.2.1 dX3_findRings_37 rfl (lv_at hl 3 rfl) ?_
          refine lv_if_eq (tgt := 57) C.1 C.2.1 dX3_findRings_38 (by decide) (fun c38 => ?_) (fun c38 => ?_)
          · skip
            refine lv_aload_n C.1 C.2.1 dX3_findRings_57 rfl (lv_at hl 4 rfl) ?_
            refine lv_iload_n C.1 C.2.1 dX3_findRings_58 rfl (lv_at hl 2 rfl) ?_
            refine cxV (b := b) (As := [.int (nI i)]) (rest := []) (ci := 3) (q := (RX3, TX3, 6)) C (k_X3_rowLength l g b N S1 Fl hN (i) (by omega)) cf_X3_rowLength ml_X3_150 ⟨by decide, by decide⟩ ⟨rfl, rfl⟩ rfl (hR.1) rfl hl.1 rfl (Nat.le_of_ble_eq_true rfl) dX3_findRings_59 hR ⟨Nat.zero_le _, Nat.zero_le _⟩ hS (fun _ h => h) (fun H locs hR hS _ _ => ?_)
            simp only [Option.toList, List.cons_append, List.nil_append]
            have hw41 := rowL_le (N := N) (S := S1) (f := i) (by omega)
            refine lv_istore (lv' := [(5, .int (nI (rowL N S1 i))), (4, .int (nI 0)), (3, .ref (aRg b i)), (2, .int (nI i)), (1, .int (bI (allj N S N))), (0, .ref b)]) C.1 C.2.1 dX3_findRings_62 hl (by decide) rfl (fun ls hl => ?_)
            have eL : fL N (allj N S N) S1 i = rowL N S1 i := if_neg (by rw [bI_0.mp c23]; decide)
            have eC : fC (allj N S N) i = nI 0 := if_neg (by rw [bI_0.mp c23]; decide)
            refine lv_iload C.1 C.2.1 dX3_findRings_64 (lv_at hl 0 rfl) ?_
            refine lv_aload_n C.1 C.2.1 dX3_findRings_66 rfl (lv_at hl 2 rfl) ?_
            refine xR_get (j := i) C hR (by omega) 1 (by decide) rfl fl_X3_153 (v := .int (S1 21 i)) rfl dX3_findRings_67 ?_
            refine lv_re (y := nI K) (by rw [g21]) ?_
            refine lv_icmp_ne (tgt := 82) C.1 C.2.1 dX3_findRings_70 (by decide) (fun c70 => ?_) (fun c70 => ?_)
            · skip
              have c70 : ¬ (rowL N S1 i = K) := mt (nI_eq (a := rowL N S1 i) (b := K) (by omega) (by omega)).mpr c70
              refine lv_aload_n C.1 C.2.1 dX3_findRings_82 rfl (lv_at hl 5 rfl) ?_
              refine lv_aload_n C.1 C.2.1 dX3_findRings_83 rfl (lv_at hl 2 rfl) ?_
              refine lv_iload C.1 C.2.1 dX3_findRings_84 (lv_at hl 0 rfl) ?_
              refine lv_iload C.1 C.2.1 dX3_findRings_86 (lv_at hl 1 rfl) ?_
              refine cxV (b := b) (As := [.ref (aRg b i), .int (nI (rowL N S1 i)), .int (nI 0)]) (rest := []) (ci := 3) (q := (RX3, TX3, 6)) C (kx_reform l g b N S1 Fl hN hI (i) (by omega) (rowL N S1 i) (by omega) (nI 0) (Or.inl rfl)) cf_X3_reform ml_X3_159 ⟨by decide, by decide⟩ ⟨rfl, rfl⟩ rfl (hR.1) rfl hl.1 rfl (Nat.le_of_ble_eq_true rfl) dX3_findRings_88 hR ⟨Nat.zero_le _, Nat.zero_le _⟩ hS (fun _ h => h) (fun H locs hR hS _ _ => ?_)
              obtain ⟨S2, eS2⟩ : ∃ y, y = xRef N S1 i (rowL N S1 i) (nI 0) := ⟨_, rfl⟩
              rw [← eS2] at hR
              simp only [Option.toList, List.nil_append]
              refine lv_iinc (v := nI (i + 1)) (lv' := [(2, .int (nI (i + 1))), (5, .int (nI (rowL N S1 i))), (4, .int (nI 0)), (3, .ref (aRg b i)), (1, .int (bI (allj N S N))), (0, .ref b)]) C.1 C.2.1 dX3_findRings_91 hl (k := 3) rfl (nI_add _ _) (by decide) rfl (fun ls hl => ?_)
              refine lv_goto (tgt := 7) C.1 C.2.1 dX3_findRings_94 (by decide) ?_
              have hb : frl N (allj N S N) S (i + 1) = S2 := by
                show fstep N (allj N S N) (frl N (allj N S N) S i) i = S2
                rw [← eS1, eS2]
                exact (if_neg (fun h => by rw [eL, eC, g21, nv_nI (by omega)] at h; first | exact c70 h.1 | exact c79 h.2)).trans (by rw [eL, eC])
              have hI2 : IX N (frl N (allj N S N) S (i + 1)) := fstep_IX hN (by omega) (by rw [← eS1]; exact hI)
              rw [← hb] at hR
              exact ih (i + 1) H locs ls (by omega) (by omega) hI2 hR hS (lv_sub hl [0, 4, 5] rfl)
            · skip
              have c70 : rowL N S1 i = K := (nI_eq (a := rowL N S1 i) (b := K) (by omega) (by omega)).mp c70
              refine lv_iload C.1 C.2.1 dX3_findRings_73 (lv_at hl 1 rfl) ?_
              refine lv_aload_n C.1 C.2.1 dX3_findRings_75 rfl (lv_at hl 2 rfl) ?_
              refine xR_get (j := i) C hR (by omega) 2 (by decide) rfl fl_X3_156 (v := .int (S1 22 i)) rfl dX3_findRings_76 ?_
              refine lv_icmp_eq (tgt := 91) C.1 C.2.1 dX3_findRings_79 (by decide) (fun c79 => ?_) (fun c79 => ?_)
              · skip
                refine lv_iinc (v := nI (i + 1)) (lv' := [(2, .int (nI (i + 1))), (5, .int (nI (rowL N S1 i))), (4, .int (nI 0)), (3, .ref (aRg b i)), (1, .int (bI (allj N S N))), (0, .ref b)]) C.1 C.2.1 dX3_findRings_91 hl (k := 3) rfl (nI_add _ _) (by decide) rfl (fun ls hl => ?_)
                refine lv_goto (tgt := 7) C.1 C.2.1 dX3_findRings_94 (by decide) ?_
                have hb : frl N (allj N S N) S (i + 1) = S1 := by
                  show fstep N (allj N S N) (frl N (allj N S N) S i) i = S1
                  rw [← eS1]
                  exact if_pos ⟨by rw [eL, g21, nv_nI (by omega)]; exact c70, by rw [eC]; exact c79⟩
                have hI2 : IX N (frl N (allj N S N) S (i + 1)) := fstep_IX hN (by omega) (by rw [← eS1]; exact hI)
                rw [← hb] at hR
                exact ih (i + 1) H locs ls (by omega) (by omega) hI2 hR hS (lv_sub hl [0, 4, 5] rfl)
              · skip
                refine lv_aload_n C.1 C.2.1 dX3_findRings_82 rfl (lv_at hl 5 rfl) ?_
                refine lv_aload_n C.1 C.2.1 dX3_findRings_83 rfl (lv_at hl 2 rfl) ?_
                refine lv_iload C.1 C.2.1 dX3_findRings_84 (lv_at hl 0 rfl) ?_
                refine lv_iload C.1 C.2.1 dX3_findRings_86 (lv_at hl 1 rfl) ?_
                refine cxV (b := b) (As := [.ref (aRg b i), .int (nI (rowL N S1 i)), .int (nI 0)]) (rest := []) (ci := 3) (q := (RX3, TX3, 6)) C (kx_reform l g b N S1 Fl hN hI (i) (by omega) (rowL N S1 i) (by omega) (nI 0) (Or.inl rfl)) cf_X3_reform ml_X3_159 ⟨by decide, by decide⟩ ⟨rfl, rfl⟩ rfl (hR.1) rfl hl.1 rfl (Nat.le_of_ble_eq_true rfl) dX3_findRings_88 hR ⟨Nat.zero_le _, Nat.zero_le _⟩ hS (fun _ h => h) (fun H locs hR hS _ _ => ?_)
                obtain ⟨S3, eS3⟩ : ∃ y, y = xRef N S1 i (rowL N S1 i) (nI 0) := ⟨_, rfl⟩
                rw [← eS3] at hR
                simp only [Option.toList, List.nil_append]
                refine lv_iinc (v := nI (i + 1)) (lv' := [(2, .int (nI (i + 1))), (5, .int (nI (rowL N S1 i))), (4, .int (nI 0)), (3, .ref (aRg b i)), (1, .int (bI (allj N S N))), (0, .ref b)]) C.1 C.2.1 dX3_findRings_91 hl (k := 3) rfl (nI_add _ _) (by decide) rfl (fun ls hl => ?_)
                refine lv_goto (tgt := 7) C.1 C.2.1 dX3_findRings_94 (by decide) ?_
                have hb : frl N (allj N S N) S (i + 1) = S3 := by
                  show fstep N (allj N S N) (frl N (allj N S N) S i) i = S3
                  rw [← eS1, eS3]
                  exact (if_neg (fun h => by rw [eL, eC, g21, nv_nI (by omega)] at h; first | exact c70 h.1 | exact c79 h.2)).trans (by rw [eL, eC])
                have hI2 : IX N (frl N (allj N S N) S (i + 1)) := fstep_IX hN (by omega) (by rw [← eS1]; exact hI)
                rw [← hb] at hR
                exact ih (i + 1) H locs ls (by omega) (by omega) hI2 hR hS (lv_sub hl [0, 4, 5] rfl)
          · skip
            exact absurd c23 c38
        · skip
          refine lv_iload_n C.1 C.2.1 dX3_findRings_26 rfl (lv_at hl 1 rfl) ?_
          refine lv_if_ne (tgt := 34) C.1 C.2.1 dX3_findRings_27 (by decide) (fun c27 => ?_) (fun c27 => ?_)
          · skip
            have c27 : ¬ (i = 0) := mt (nI_eq (a := i) (b := 0) (by omega) (by omega)).mpr c27
            refine lv_iconst (v := nI 0) C.1 C.2.1 dX3_findRings_34 (by decide) ?_
            refine lv_istore (lv' := [(4, .int (nI 0)), (3, .ref (aRg b i)), (2, .int (nI i)), (1, .int (bI (allj N S N))), (0, .ref b)]) C.1 C.2.1 dX3_findRings_35 hl (by decide) rfl (fun ls hl => ?_)
            refine lv_iload_n C.1 C.2.1 dX3_findRings_37 rfl (lv_at hl 3 rfl) ?_
            refine lv_if_eq (tgt := 57) C.1 C.2.1 dX3_findRings_38 (by decide) (fun c38 => ?_) (fun c38 => ?_)
            · skip
              exact absurd c38 c23
            · skip
              refine lv_iload C.1 C.2.1 dX3_findRings_41 (lv_at hl 0 rfl) ?_
              refine lv_if_eq (tgt := 53) C.1 C.2.1 dX3_findRings_43 (by decide) (fun c43 => ?_) (fun c43 => ?_)
              · skip
                refine lv_iconst (v := nI 0) C.1 C.2.1 dX3_findRings_53 (by decide) ?_
                refine lv_goto (tgt := 62) C.1 C.2.1 dX3_findRings_54 (by decide) ?_
                refine lv_istore (lv' := [(5, .int (nI 0)), (4, .int (nI 0)), (3, .ref (aRg b i)), (2, .int (nI i)), (1, .int (bI (allj N S N))), (0, .ref b)]) C.1 C.2.1 dX3_findRings_62 hl (by decide) rfl (fun ls hl => ?_)
                have eL : fL N (allj N S N) S1 i = 0 := (if_pos (bI_n0.mp c23)).trans (if_neg c27)
                have eC : fC (allj N S N) i = nI 0 := (if_pos (bI_n0.mp c23)).trans (if_neg c27)
                refine lv_iload C.1 C.2.1 dX3_findRings_64 (lv_at hl 0 rfl) ?_
                refine lv_aload_n C.1 C.2.1 dX3_findRings_66 rfl (lv_at hl 2 rfl) ?_
                refine xR_get (j := i) C hR (by omega) 1 (by decide) rfl fl_X3_153 (v := .int (S1 21 i)) rfl dX3_findRings_67 ?_
                refine lv_re (y := nI K) (by rw [g21]) ?_
                refine lv_icmp_ne (tgt := 82) C.1 C.2.1 dX3_findRings_70 (by decide) (fun c70 => ?_) (fun c70 => ?_)
                · skip
                  have c70 : ¬ (0 = K) := mt (nI_eq (a := 0) (b := K) (by omega) (by omega)).mpr c70
                  refine lv_aload_n C.1 C.2.1 dX3_findRings_82 rfl (lv_at hl 5 rfl) ?_
                  refine lv_aload_n C.1 C.2.1 dX3_findRings_83 rfl (lv_at hl 2 rfl) ?_
                  refine lv_iload C.1 C.2.1 dX3_findRings_84 (lv_at hl 0 rfl) ?_
                  refine lv_iload C.1 C.2.1 dX3_findRings_86 (lv_at hl 1 rfl) ?_
                  refine cxV (b := b) (As := [.ref (aRg b i), .int (nI 0), .int (nI 0)]) (rest := []) (ci := 3) (q := (RX3, TX3, 6)) C (kx_reform l g b N S1 Fl hN hI (i) (by omega) (0) (by omega) (nI 0) (Or.inl rfl)) cf_X3_reform ml_X3_159 ⟨by decide, by decide⟩ ⟨rfl, rfl⟩ rfl (hR.1) rfl hl.1 rfl (Nat.le_of_ble_eq_true rfl) dX3_findRings_88 hR ⟨Nat.zero_le _, Nat.zero_le _⟩ hS (fun _ h => h) (fun H locs hR hS _ _ => ?_)
                  obtain ⟨S4, eS4⟩ : ∃ y, y = xRef N S1 i 0 (nI 0) := ⟨_, rfl⟩
                  rw [← eS4] at hR
                  simp only [Option.toList, List.nil_append]
                  refine lv_iinc (v := nI (i + 1)) (lv' := [(2, .int (nI (i + 1))), (5, .int (nI 0)), (4, .int (nI 0)), (3, .ref (aRg b i)), (1, .int (bI (allj N S N))), (0, .ref b)]) C.1 C.2.1 dX3_findRings_91 hl (k := 3) rfl (nI_add _ _) (by decide) rfl (fun ls hl => ?_)
                  refine lv_goto (tgt := 7) C.1 C.2.1 dX3_findRings_94 (by decide) ?_
                  have hb : frl N (allj N S N) S (i + 1) = S4 := by
                    show fstep N (allj N S N) (frl N (allj N S N) S i) i = S4
                    rw [← eS1, eS4]
                    exact (if_neg (fun h => by rw [eL, eC, g21, nv_nI (by omega)] at h; first | exact c70 h.1 | exact c79 h.2)).trans (by rw [eL, eC])
                  have hI2 : IX N (frl N (allj N S N) S (i + 1)) := fstep_IX hN (by omega) (by rw [← eS1]; exact hI)
                  rw [← hb] at hR
                  exact ih (i + 1) H locs ls (by omega) (by omega) hI2 hR hS (lv_sub hl [0, 4, 5] rfl)
                · skip
                  have c70 : 0 = K := (nI_eq (a := 0) (b := K) (by omega) (by omega)).mp c70
                  refine lv_iload C.1 C.2.1 dX3_findRings_73 (lv_at hl 1 rfl) ?_
                  refine lv_aload_n C.1 C.2.1 dX3_findRings_75 rfl (lv_at hl 2 rfl) ?_
                  refine xR_get (j := i) C hR (by omega) 2 (by decide) rfl fl_X3_156 (v := .int (S1 22 i)) rfl dX3_findRings_76 ?_
                  refine lv_icmp_eq (tgt := 91) C.1 C.2.1 dX3_findRings_79 (by decide) (fun c79 => ?_) (fun c79 => ?_)
                  · skip
                    refine lv_iinc (v := nI (i + 1)) (lv' := [(2, .int (nI (i + 1))), (5, .int (nI 0)), (4, .int (nI 0)), (3, .ref (aRg b i)), (1, .int (bI (allj N S N))), (0, .ref b)]) C.1 C.2.1 dX3_findRings_91 hl (k := 3) rfl (nI_add _ _) (by decide) rfl (fun ls hl => ?_)
                    refine lv_goto (tgt := 7) C.1 C.2.1 dX3_findRings_94 (by decide) ?_
                    have hb : frl N (allj N S N) S (i + 1) = S1 := by
                      show fstep N (allj N S N) (frl N (allj N S N) S i) i = S1
                      rw [← eS1]
                      exact if_pos ⟨by rw [eL, g21, nv_nI (by omega)]; exact c70, by rw [eC]; exact c79⟩
                    have hI2 : IX N (frl N (allj N S N) S (i + 1)) := fstep_IX hN (by omega) (by rw [← eS1]; exact hI)
                    rw [← hb] at hR
                    exact ih (i + 1) H locs ls (by omega) (by omega) hI2 hR hS (lv_sub hl [0, 4, 5] rfl)
                  · skip
                    refine lv_aload_n C.1 C.2.1 dX3_findRings_82 rfl (lv_at hl 5 rfl) ?_
                    refine lv_aload_n C.1 C.2.1 dX3_findRings_83 rfl (lv_at hl 2 rfl) ?_
                    refine lv_iload C.1 C.2.1 dX3_findRings_84 (lv_at hl 0 rfl) ?_
                    refine lv_iload C.1 C.2.1 dX3_findRings_86 (lv_at hl 1 rfl) ?_
                    refine cxV (b := b) (As := [.ref (aRg b i), .int (nI 0), .int (nI 0)]) (rest := []) (ci := 3) (q := (RX3, TX3, 6)) C (kx_reform l g b N S1 Fl hN hI (i) (by omega) (0) (by omega) (nI 0) (Or.inl rfl)) cf_X3_reform ml_X3_159 ⟨by decide, by decide⟩ ⟨rfl, rfl⟩ rfl (hR.1) rfl hl.1 rfl (Nat.le_of_ble_eq_true rfl) dX3_findRings_88 hR ⟨Nat.zero_le _, Nat.zero_le _⟩ hS (fun _ h => h) (fun H locs hR hS _ _ => ?_)
                    obtain ⟨S5, eS5⟩ : ∃ y, y = xRef N S1 i 0 (nI 0) := ⟨_, rfl⟩
                    rw [← eS5] at hR
                    simp only [Option.toList, List.nil_append]
                    refine lv_iinc (v := nI (i + 1)) (lv' := [(2, .int (nI (i + 1))), (5, .int (nI 0)), (4, .int (nI 0)), (3, .ref (aRg b i)), (1, .int (bI (allj N S N))), (0, .ref b)]) C.1 C.2.1 dX3_findRings_91 hl (k := 3) rfl (nI_add _ _) (by decide) rfl (fun ls hl => ?_)
                    refine lv_goto (tgt := 7) C.1 C.2.1 dX3_findRings_94 (by decide) ?_
                    have hb : frl N (allj N S N) S (i + 1) = S5 := by
                      show fstep N (allj N S N) (frl N (allj N S N) S i) i = S5
                      rw [← eS1, eS5]
                      exact (if_neg (fun h => by rw [eL, eC, g21, nv_nI (by omega)] at h; first | exact c70 h.1 | exact c79 h.2)).trans (by rw [eL, eC])
                    have hI2 : IX N (frl N (allj N S N) S (i + 1)) := fstep_IX hN (by omega) (by rw [← eS1]; exact hI)
                    rw [← hb] at hR
                    exact ih (i + 1) H locs ls (by omega) (by omega) hI2 hR hS (lv_sub hl [0, 4, 5] rfl)
              · skip
                exact absurd c43 (by decide)
          · skip
            have c27 : i = 0 := (nI_eq (a := i) (b := 0) (by omega) (by omega)).mp c27
            refine lv_iconst (v := nI 1) C.1 C.2.1 dX3_findRings_30 (by decide) ?_
            refine lv_goto (tgt := 35) C.1 C.2.1 dX3_findRings_31 (by decide) ?_
            refine lv_istore (lv' := [(4, .int (nI 1)), (3, .ref (aRg b i)), (2, .int (nI i)), (1, .int (bI (allj N S N))), (0, .ref b)]) C.1 C.2.1 dX3_findRings_35 hl (by decide) rfl (fun ls hl => ?_)
            refine lv_iload_n C.1 C.2.1 dX3_findRings_37 rfl (lv_at hl 3 rfl) ?_
            refine lv_if_eq (tgt := 57) C.1 C.2.1 dX3_findRings_38 (by decide) (fun c38 => ?_) (fun c38 => ?_)
            · skip
              exact absurd c38 c23
            · skip
              refine lv_iload C.1 C.2.1 dX3_findRings_41 (lv_at hl 0 rfl) ?_
              refine lv_if_eq (tgt := 53) C.1 C.2.1 dX3_findRings_43 (by decide) (fun c43 => ?_) (fun c43 => ?_)
              · skip
                exact absurd c43 (by decide)
              · skip
                refine lv_aload_n C.1 C.2.1 dX3_findRings_46 rfl (lv_at hl 4 rfl) ?_
                refine xO_get C hR 0 (by decide) rfl fl_X3_9 (v := .int (nI N)) rfl dX3_findRings_47 ?_
                refine lv_goto (tgt := 62) C.1 C.2.1 dX3_findRings_50 (by decide) ?_
                refine lv_istore (lv' := [(5, .int (nI N)), (4, .int (nI 1)), (3, .ref (aRg b i)), (2, .int (nI i)), (1, .int (bI (allj N S N))), (0, .ref b)]) C.1 C.2.1 dX3_findRings_62 hl (by decide) rfl (fun ls hl => ?_)
                have eL : fL N (allj N S N) S1 i = N := (if_pos (bI_n0.mp c23)).trans (if_pos c27)
                have eC : fC (allj N S N) i = nI 1 := (if_pos (bI_n0.mp c23)).trans (if_pos c27)
                refine lv_iload C.1 C.2.1 dX3_findRings_64 (lv_at hl 0 rfl) ?_
                refine lv_aload_n C.1 C.2.1 dX3_findRings_66 rfl (lv_at hl 2 rfl) ?_
                refine xR_get (j := i) C hR (by omega) 1 (by decide) rfl fl_X3_153 (v := .int (S1 21 i)) rfl dX3_findRings_67 ?_
                refine lv_re (y := nI K) (by rw [g21]) ?_
                refine lv_icmp_ne (tgt := 82) C.1 C.2.1 dX3_findRings_70 (by decide) (fun c70 => ?_) (fun c70 => ?_)
                · skip
                  have c70 : ¬ (N = K) := mt (nI_eq (a := N) (b := K) (by omega) (by omega)).mpr c70
                  refine lv_aload_n C.1 C.2.1 dX3_findRings_82 rfl (lv_at hl 5 rfl) ?_
                  refine lv_aload_n C.1 C.2.1 dX3_findRings_83 rfl (lv_at hl 2 rfl) ?_
                  refine lv_iload C.1 C.2.1 dX3_findRings_84 (lv_at hl 0 rfl) ?_
                  refine lv_iload C.1 C.2.1 dX3_findRings_86 (lv_at hl 1 rfl) ?_
                  refine cxV (b := b) (As := [.ref (aRg b i), .int (nI N), .int (nI 1)]) (rest := []) (ci := 3) (q := (RX3, TX3, 6)) C (kx_reform l g b N S1 Fl hN hI (i) (by omega) (N) (by omega) (nI 1) (Or.inr rfl)) cf_X3_reform ml_X3_159 ⟨by decide, by decide⟩ ⟨rfl, rfl⟩ rfl (hR.1) rfl hl.1 rfl (Nat.le_of_ble_eq_true rfl) dX3_findRings_88 hR ⟨Nat.zero_le _, Nat.zero_le _⟩ hS (fun _ h => h) (fun H locs hR hS _ _ => ?_)
                  obtain ⟨S6, eS6⟩ : ∃ y, y = xRef N S1 i N (nI 1) := ⟨_, rfl⟩
                  rw [← eS6] at hR
                  simp only [Option.toList, List.nil_append]
                  refine lv_iinc (v := nI (i + 1)) (lv' := [(2, .int (nI (i + 1))), (5, .int (nI N)), (4, .int (nI 1)), (3, .ref (aRg b i)), (1, .int (bI (allj N S N))), (0, .ref b)]) C.1 C.2.1 dX3_findRings_91 hl (k := 3) rfl (nI_add _ _) (by decide) rfl (fun ls hl => ?_)
                  refine lv_goto (tgt := 7) C.1 C.2.1 dX3_findRings_94 (by decide) ?_
                  have hb : frl N (allj N S N) S (i + 1) = S6 := by
                    show fstep N (allj N S N) (frl N (allj N S N) S i) i = S6
                    rw [← eS1, eS6]
                    exact (if_neg (fun h => by rw [eL, eC, g21, nv_nI (by omega)] at h; first | exact c70 h.1 | exact c79 h.2)).trans (by rw [eL, eC])
                  have hI2 : IX N (frl N (allj N S N) S (i + 1)) := fstep_IX hN (by omega) (by rw [← eS1]; exact hI)
                  rw [← hb] at hR
                  exact ih (i + 1) H locs ls (by omega) (by omega) hI2 hR hS (lv_sub hl [0, 4, 5] rfl)
                · skip
                  have c70 : N = K := (nI_eq (a := N) (b := K) (by omega) (by omega)).mp c70
                  refine lv_iload C.1 C.2.1 dX3_findRings_73 (lv_at hl 1 rfl) ?_
                  refine lv_aload_n C.1 C.2.1 dX3_findRings_75 rfl (lv_at hl 2 rfl) ?_
                  refine xR_get (j := i) C hR (by omega) 2 (by decide) rfl fl_X3_156 (v := .int (S1 22 i)) rfl dX3_findRings_76 ?_
                  refine lv_icmp_eq (tgt := 91) C.1 C.2.1 dX3_findRings_79 (by decide) (fun c79 => ?_) (fun c79 => ?_)
                  · skip
                    refine lv_iinc (v := nI (i + 1)) (lv' := [(2, .int (nI (i + 1))), (5, .int (nI N)), (4, .int (nI 1)), (3, .ref (aRg b i)), (1, .int (bI (allj N S N))), (0, .ref b)]) C.1 C.2.1 dX3_findRings_91 hl (k := 3) rfl (nI_add _ _) (by decide) rfl (fun ls hl => ?_)
                    refine lv_goto (tgt := 7) C.1 C.2.1 dX3_findRings_94 (by decide) ?_
                    have hb : frl N (allj N S N) S (i + 1) = S1 := by
                      show fstep N (allj N S N) (frl N (allj N S N) S i) i = S1
                      rw [← eS1]
                      exact if_pos ⟨by rw [eL, g21, nv_nI (by omega)]; exact c70, by rw [eC]; exact c79⟩
                    have hI2 : IX N (frl N (allj N S N) S (i + 1)) := fstep_IX hN (by omega) (by rw [← eS1]; exact hI)
                    rw [← hb] at hR
                    exact ih (i + 1) H locs ls (by omega) (by omega) hI2 hR hS (lv_sub hl [0, 4, 5] rfl)
                  · skip
                    refine lv_aload_n C.1 C.2.1 dX3_findRings_82 rfl (lv_at hl 5 rfl) ?_
                    refine lv_aload_n C.1 C.2.1 dX3_findRings_83 rfl (lv_at hl 2 rfl) ?_
                    refine lv_iload C.1 C.2.1 dX3_findRings_84 (lv_at hl 0 rfl) ?_
                    refine lv_iload C.1 C.2.1 dX3_findRings_86 (lv_at hl 1 rfl) ?_
                    refine cxV (b := b) (As := [.ref (aRg b i), .int (nI N), .int (nI 1)]) (rest := []) (ci := 3) (q := (RX3, TX3, 6)) C (kx_reform l g b N S1 Fl hN hI (i) (by omega) (N) (by omega) (nI 1) (Or.inr rfl)) cf_X3_reform ml_X3_159 ⟨by decide, by decide⟩ ⟨rfl, rfl⟩ rfl (hR.1) rfl hl.1 rfl (Nat.le_of_ble_eq_true rfl) dX3_findRings_88 hR ⟨Nat.zero_le _, Nat.zero_le _⟩ hS (fun _ h => h) (fun H locs hR hS _ _ => ?_)
                    obtain ⟨S7, eS7⟩ : ∃ y, y = xRef N S1 i N (nI 1) := ⟨_, rfl⟩
                    rw [← eS7] at hR
                    simp only [Option.toList, List.nil_append]
                    refine lv_iinc (v := nI (i + 1)) (lv' := [(2, .int (nI (i + 1))), (5, .int (nI N)), (4, .int (nI 1)), (3, .ref (aRg b i)), (1, .int (bI (allj N S N))), (0, .ref b)]) C.1 C.2.1 dX3_findRings_91 hl (k := 3) rfl (nI_add _ _) (by decide) rfl (fun ls hl => ?_)
                    refine lv_goto (tgt := 7) C.1 C.2.1 dX3_findRings_94 (by decide) ?_
                    have hb : frl N (allj N S N) S (i + 1) = S7 := by
                      show fstep N (allj N S N) (frl N (allj N S N) S i) i = S7
                      rw [← eS1, eS7]
                      exact (if_neg (fun h => by rw [eL, eC, g21, nv_nI (by omega)] at h; first | exact c70 h.1 | exact c79 h.2)).trans (by rw [eL, eC])
                    have hI2 : IX N (frl N (allj N S N) S (i + 1)) := fstep_IX hN (by omega) (by rw [← eS1]; exact hI)
                    rw [← hb] at hR
                    exact ih (i + 1) H locs ls (by omega) (by omega) hI2 hR hS (lv_sub hl [0, 4, 5] rfl)
  exact lp _ 0 _ _ ls (Nat.lt_succ_self _) (by omega) hI hR hS (lv_sub hl [0, 1, 2] rfl)

set_option maxHeartbeats 4000000 in
set_option maxRecDepth 100000 in
theorem k_X3_cable_bad (l : Launch) (g : GX) (b N : Nat) (S : SX) (Fl : FX) (hN : N ≤ 6) (x on : Int32) (hb : bad N x)  : MR l yX3_cable (.code yX3_cable cX3_cable 3 (some .boolean) :: tb) (rmk 5 116) g (RepX g b N S Fl) (RepX g b N S Fl) (AX b N) [.ref b, .int x, .int on] (some (.int (nI 0))) := by
  refine MR.start RX3 (by decide) rfl (Nat.le_of_ble_eq_true rfl) (fun zp ze zs zm zb zt zc ls C hr hlk hR hS hl => ?_)
  have hl : lv_has ls 3 [(0, .ref b), (1, .int x), (2, .int on)] := hl
  refine lv_aload_n C.1 C.2.1 dX3_cable_0 rfl (lv_at hl 0 rfl) ?_
  refine lv_iload_n C.1 C.2.1 dX3_cable_1 rfl (lv_at hl 1 rfl) ?_
  refine cxV (b := b) (As := [.int x]) (rest := []) (ci := 3) (q := (RX3, TX3, 6)) C (kis_bad l g b N S Fl hN x hb) cf_X3_isStation ml_X3_36 ⟨by decide, by decide⟩ ⟨rfl, rfl⟩ rfl (hR.1) rfl hl.1 rfl (Nat.le_of_ble_eq_true rfl) dX3_cable_2 hR ⟨Nat.zero_le _, Nat.zero_le _⟩ hS (fun _ h => h) (fun H locs hR hS _ _ => ?_)
  simp only [Option.toList, List.cons_append, List.nil_append]
  refine lv_if_eq (tgt := 18) C.1 C.2.1 dX3_cable_5 (by decide) (fun c5 => ?_) (fun c5 => ?_)
  · skip
    refine lv_iconst (v := nI 0) C.1 C.2.1 dX3_cable_18 (by decide) ?_
    skip
    exact endz C hr hlk (Or.inl rfl) hR hS dX3_cable_19
  · skip
    exact absurd c5 (by decide)

def s_X3_cable_ok (S : SX) (N : Nat) (j : Nat) (on : Int32) : SX := if S 40 j = on then S else (frl N (allj N (up2 S 40 j on) N) (up2 S 40 j on) N)
def r_X3_cable_ok (S : SX) (j : Nat) (on : Int32) : Int32 := if S 40 j = on then (nI 0) else (nI 1)
set_option maxHeartbeats 4000000 in
set_option maxRecDepth 100000 in
theorem k_X3_cable_ok (l : Launch) (g : GX) (b N : Nat) (S : SX) (Fl : FX) (hN : N ≤ 6) (j : Nat) (hj : j < N) (on : Int32) (hon : on = 0 ∨ on = 1) (hI : IX N S)  : MR l yX3_cable (.code yX3_cable cX3_cable 3 (some .boolean) :: tb) (rmk 5 116) g (RepX g b N S Fl) (RepX g b N (s_X3_cable_ok S N j on) Fl) (AX b N) [.ref b, .int (nI j), .int on] (some (.int (r_X3_cable_ok S j on))) := by
  refine MR.start RX3 (by decide) rfl (Nat.le_of_ble_eq_true rfl) (fun zp ze zs zm zb zt zc ls C hr hlk hR hS hl => ?_)
  have hl : lv_has ls 3 [(0, .ref b), (1, .int (nI j)), (2, .int on)] := hl
  refine lv_aload_n C.1 C.2.1 dX3_cable_0 rfl (lv_at hl 0 rfl) ?_
  refine lv_iload_n C.1 C.2.1 dX3_cable_1 rfl (lv_at hl 1 rfl) ?_
  refine cxV (b := b) (As := [.int (nI j)]) (rest := []) (ci := 3) (q := (RX3, TX3, 6)) C (kis_ok l g b N S Fl hN j (by omega)) cf_X3_isStation ml_X3_36 ⟨by decide, by decide⟩ ⟨rfl, rfl⟩ rfl (hR.1) rfl hl.1 rfl (Nat.le_of_ble_eq_true rfl) dX3_cable_2 hR ⟨Nat.zero_le _, Nat.zero_le _⟩ hS (fun _ h => h) (fun H locs hR hS _ _ => ?_)
  simp only [Option.toList, List.cons_append, List.nil_append]
  refine lv_if_eq (tgt := 18) C.1 C.2.1 dX3_cable_5 (by decide) (fun c5 => ?_) (fun c5 => ?_)
  · skip
    exact absurd c5 (by decide)
  · skip
    refine lv_aload_n C.1 C.2.1 dX3_cable_8 rfl (lv_at hl 0 rfl) ?_
    refine xO_get C hR 2 (by decide) rfl fl_X3_19 (v := .ref (b + 2)) rfl dX3_cable_9 ?_
    refine lv_iload_n C.1 C.2.1 dX3_cable_12 rfl (lv_at hl 1 rfl) ?_
    refine xC_ld (j := j) C hR (by omega) hN dX3_cable_13 ?_
    refine lv_iload_n C.1 C.2.1 dX3_cable_14 rfl (lv_at hl 2 rfl) ?_
    refine lv_icmp_ne (tgt := 20) C.1 C.2.1 dX3_cable_15 (by decide) (fun c15 => ?_) (fun c15 => ?_)
    · skip
      refine lv_aload_n C.1 C.2.1 dX3_cable_20 rfl (lv_at hl 0 rfl) ?_
      refine xO_get C hR 2 (by decide) rfl fl_X3_19 (v := .ref (b + 2)) rfl dX3_cable_21 ?_
      refine lv_iload_n C.1 C.2.1 dX3_cable_24 rfl (lv_at hl 1 rfl) ?_
      refine lv_iload_n C.1 C.2.1 dX3_cable_25 rfl (lv_at hl 2 rfl) ?_
      refine xC_st (j := j) C hR hS (by omega) hN hon dX3_cable_26 (fun S1 H locs eS1 hR hS => ?_)
      refine lv_aload_n C.1 C.2.1 dX3_cable_27 rfl (lv_at hl 0 rfl) ?_
      refine cxV (b := b) (As := []) (rest := []) (ci := 3) (q := (RX3, TX3, 6)) C (k_X3_findRings l g b N S1 Fl hN (by rw [eS1]; exact up_IX hI (by decide) (by decide) (by decide) (by decide) (by decide))) cf_X3_findRings ml_X3_33 ⟨by decide, by decide⟩ ⟨rfl, rfl⟩ rfl (hR.1) rfl hl.1 rfl (Nat.le_of_ble_eq_true rfl) dX3_cable_28 hR ⟨Nat.zero_le _, Nat.zero_le _⟩ hS (fun _ h => h) (fun H locs hR hS _ _ => ?_)
      obtain ⟨S2, eS2⟩ : ∃ y, y = frl N (allj N S1 N) S1 N := ⟨_, rfl⟩
      rw [← eS2] at hR
      simp only [Option.toList, List.nil_append]
      refine lv_iconst (v := nI 1) C.1 C.2.1 dX3_cable_31 (by decide) ?_
      have hs : s_X3_cable_ok S N j on = S2 := (if_neg c15).trans (by rw [eS2, eS1])
      rw [hs]
      have hv : r_X3_cable_ok S j on = nI 1 := (if_neg c15).trans (rfl)
      rw [hv]
      exact endz C hr hlk (Or.inr rfl) hR hS dX3_cable_32
    · skip
      refine lv_iconst (v := nI 0) C.1 C.2.1 dX3_cable_18 (by decide) ?_
      have hs : s_X3_cable_ok S N j on = S := (if_pos c15).trans (rfl)
      rw [hs]
      have hv : r_X3_cable_ok S j on = nI 0 := (if_pos c15).trans (rfl)
      rw [hv]
      exact endz C hr hlk (Or.inl rfl) hR hS dX3_cable_19

set_option maxHeartbeats 4000000 in
set_option maxRecDepth 100000 in
theorem k_X3_power_bad (l : Launch) (g : GX) (b N : Nat) (S : SX) (Fl : FX) (hN : N ≤ 6) (x on : Int32) (hb : bad N x)  : MR l yX3_power (.code yX3_power cX3_power 3 (some .boolean) :: tb) (rmk 5 116) g (RepX g b N S Fl) (RepX g b N S Fl) (AX b N) [.ref b, .int x, .int on] (some (.int (nI 0))) := by
  refine MR.start RX3 (by decide) rfl (Nat.le_of_ble_eq_true rfl) (fun zp ze zs zm zb zt zc ls C hr hlk hR hS hl => ?_)
  have hl : lv_has ls 3 [(0, .ref b), (1, .int x), (2, .int on)] := hl
  refine lv_aload_n C.1 C.2.1 dX3_power_0 rfl (lv_at hl 0 rfl) ?_
  refine lv_iload_n C.1 C.2.1 dX3_power_1 rfl (lv_at hl 1 rfl) ?_
  refine cxV (b := b) (As := [.int x]) (rest := []) (ci := 3) (q := (RX3, TX3, 6)) C (kis_bad l g b N S Fl hN x hb) cf_X3_isStation ml_X3_36 ⟨by decide, by decide⟩ ⟨rfl, rfl⟩ rfl (hR.1) rfl hl.1 rfl (Nat.le_of_ble_eq_true rfl) dX3_power_2 hR ⟨Nat.zero_le _, Nat.zero_le _⟩ hS (fun _ h => h) (fun H locs hR hS _ _ => ?_)
  simp only [Option.toList, List.cons_append, List.nil_append]
  refine lv_if_eq (tgt := 21) C.1 C.2.1 dX3_power_5 (by decide) (fun c5 => ?_) (fun c5 => ?_)
  · skip
    refine lv_iconst (v := nI 0) C.1 C.2.1 dX3_power_21 (by decide) ?_
    skip
    exact endz C hr hlk (Or.inl rfl) hR hS dX3_power_22
  · skip
    exact absurd c5 (by decide)

def s_X3_power_ok (S : SX) (N : Nat) (j : Nat) (on : Int32) : SX := if S 2 j = on then S else (if on = 0 then (s_X2_leaveRing (frl N (allj N (up2 S 2 j on) N) (up2 S 2 j on) N) (j)) else (frl N (allj N (up2 S 2 j on) N) (up2 S 2 j on) N))
def r_X3_power_ok (S : SX) (j : Nat) (on : Int32) : Int32 := if S 2 j = on then (nI 0) else (nI 1)
set_option maxHeartbeats 4000000 in
set_option maxRecDepth 100000 in
theorem k_X3_power_ok (l : Launch) (g : GX) (b N : Nat) (S : SX) (Fl : FX) (hN : N ≤ 6) (j : Nat) (hj : j < N) (on : Int32) (hon : on = 0 ∨ on = 1) (hI : IX N S)  : MR l yX3_power (.code yX3_power cX3_power 3 (some .boolean) :: tb) (rmk 5 116) g (RepX g b N S Fl) (RepX g b N (s_X3_power_ok S N j on) Fl) (AX b N) [.ref b, .int (nI j), .int on] (some (.int (r_X3_power_ok S j on))) := by
  refine MR.start RX3 (by decide) rfl (Nat.le_of_ble_eq_true rfl) (fun zp ze zs zm zb zt zc ls C hr hlk hR hS hl => ?_)
  have hl : lv_has ls 3 [(0, .ref b), (1, .int (nI j)), (2, .int on)] := hl
  refine lv_aload_n C.1 C.2.1 dX3_power_0 rfl (lv_at hl 0 rfl) ?_
  refine lv_iload_n C.1 C.2.1 dX3_power_1 rfl (lv_at hl 1 rfl) ?_
  refine cxV (b := b) (As := [.int (nI j)]) (rest := []) (ci := 3) (q := (RX3, TX3, 6)) C (kis_ok l g b N S Fl hN j (by omega)) cf_X3_isStation ml_X3_36 ⟨by decide, by decide⟩ ⟨rfl, rfl⟩ rfl (hR.1) rfl hl.1 rfl (Nat.le_of_ble_eq_true rfl) dX3_power_2 hR ⟨Nat.zero_le _, Nat.zero_le _⟩ hS (fun _ h => h) (fun H locs hR hS _ _ => ?_)
  simp only [Option.toList, List.cons_append, List.nil_append]
  refine lv_if_eq (tgt := 21) C.1 C.2.1 dX3_power_5 (by decide) (fun c5 => ?_) (fun c5 => ?_)
  · skip
    exact absurd c5 (by decide)
  · skip
    refine lv_aload_n C.1 C.2.1 dX3_power_8 rfl (lv_at hl 0 rfl) ?_
    refine xO_get C hR 1 (by decide) rfl fl_X3_15 (v := .ref (b + 1)) rfl dX3_power_9 ?_
    refine lv_iload_n C.1 C.2.1 dX3_power_12 rfl (lv_at hl 1 rfl) ?_
    refine xS_ald (j := j) C hR (by omega) hN dX3_power_13 ?_
    refine xS_get (j := j) C hR (by omega) 2 (by decide) rfl fl_X3_56 (v := .int (S 2 j)) rfl dX3_power_14 ?_
    refine lv_iload_n C.1 C.2.1 dX3_power_17 rfl (lv_at hl 2 rfl) ?_
    refine lv_icmp_ne (tgt := 23) C.1 C.2.1 dX3_power_18 (by decide) (fun c18 => ?_) (fun c18 => ?_)
    · skip
      refine lv_aload_n C.1 C.2.1 dX3_power_23 rfl (lv_at hl 0 rfl) ?_
      refine xO_get C hR 1 (by decide) rfl fl_X3_15 (v := .ref (b + 1)) rfl dX3_power_24 ?_
      refine lv_iload_n C.1 C.2.1 dX3_power_27 rfl (lv_at hl 1 rfl) ?_
      refine xS_ald (j := j) C hR (by omega) hN dX3_power_28 ?_
      refine lv_iload_n C.1 C.2.1 dX3_power_29 rfl (lv_at hl 2 rfl) ?_
      refine xS_put (j := j) C hR hS (by omega) 2 (by decide) rfl rfl fl_X3_56 (nz_n hon) (nz_f hon) stS_2 dX3_power_30 (fun S1 H locs eS1 hR hS => ?_)
      refine lv_aload_n C.1 C.2.1 dX3_power_33 rfl (lv_at hl 0 rfl) ?_
      refine cxV (b := b) (As := []) (rest := []) (ci := 3) (q := (RX3, TX3, 6)) C (k_X3_findRings l g b N S1 Fl hN (by rw [eS1]; exact up_IX hI (by decide) (by decide) (by decide) (by decide) (by decide))) cf_X3_findRings ml_X3_33 ⟨by decide, by decide⟩ ⟨rfl, rfl⟩ rfl (hR.1) rfl hl.1 rfl (Nat.le_of_ble_eq_true rfl) dX3_power_34 hR ⟨Nat.zero_le _, Nat.zero_le _⟩ hS (fun _ h => h) (fun H locs hR hS _ _ => ?_)
      obtain ⟨S2, eS2⟩ : ∃ y, y = frl N (allj N S1 N) S1 N := ⟨_, rfl⟩
      rw [← eS2] at hR
      simp only [Option.toList, List.nil_append]
      refine lv_iload_n C.1 C.2.1 dX3_power_37 rfl (lv_at hl 2 rfl) ?_
      refine lv_if_ne (tgt := 50) C.1 C.2.1 dX3_power_38 (by decide) (fun c38 => ?_) (fun c38 => ?_)
      · skip
        refine lv_iconst (v := nI 1) C.1 C.2.1 dX3_power_50 (by decide) ?_
        have hs : s_X3_power_ok S N j on = S2 := (if_neg c18).trans ((if_neg c38).trans (by rw [eS2, eS1]))
        rw [hs]
        have hv : r_X3_power_ok S j on = nI 1 := (if_neg c18).trans (rfl)
        rw [hv]
        exact endz C hr hlk (Or.inr rfl) hR hS dX3_power_51
      · skip
        refine lv_aload_n C.1 C.2.1 dX3_power_41 rfl (lv_at hl 0 rfl) ?_
        refine xO_get C hR 1 (by decide) rfl fl_X3_15 (v := .ref (b + 1)) rfl dX3_power_42 ?_
        refine lv_iload_n C.1 C.2.1 dX3_power_45 rfl (lv_at hl 1 rfl) ?_
        refine xS_ald (j := j) C hR (by omega) hN dX3_power_46 ?_
        refine cxV (b := aSt b j) (As := []) (rest := []) (ci := 2) (q := (RX2, TX2, 19)) C (k_X2_leaveRing l g b N S2 Fl hN (j) (by omega)) cf_X2_leaveRing ml_X3_60 ⟨by decide, by decide⟩ ⟨rfl, rfl⟩ rfl (hR.2.2.2.2.1 _ (by omega)) rfl hl.1 rfl (Nat.le_of_ble_eq_true rfl) dX3_power_47 hR ⟨Nat.zero_le _, Nat.zero_le _⟩ hS (fun _ h => h) (fun H locs hR hS _ _ => ?_)
        obtain ⟨S3, eS3⟩ : ∃ y, y = s_X2_leaveRing S2 (j) := ⟨_, rfl⟩
        rw [← eS3] at hR
        simp only [Option.toList, List.nil_append]
        refine lv_iconst (v := nI 1) C.1 C.2.1 dX3_power_50 (by decide) ?_
        have hs : s_X3_power_ok S N j on = S3 := (if_neg c18).trans ((if_pos c38).trans (by rw [eS3, eS2, eS1]))
        rw [hs]
        have hv : r_X3_power_ok S j on = nI 1 := (if_neg c18).trans (rfl)
        rw [hv]
        exact endz C hr hlk (Or.inr rfl) hR hS dX3_power_51
    · skip
      refine lv_iconst (v := nI 0) C.1 C.2.1 dX3_power_21 (by decide) ?_
      have hs : s_X3_power_ok S N j on = S := (if_pos c18).trans (rfl)
      rw [hs]
      have hv : r_X3_power_ok S j on = nI 0 := (if_pos c18).trans (rfl)
      rw [hv]
      exact endz C hr hlk (Or.inl rfl) hR hS dX3_power_22

def xpS (N : Nat) (S : SX) (f : Nat) : SX := s_X3_passTick S N f (nv (S 25 f)) (nv (S 21 f)) (nv (S 41 (qS N S f))) (nv (S 42 (5 * qS N S f)))
def xpF (N : Nat) (S : SX) (Fl : FX) (f : Nat) : FX := f_X3_passTick S Fl N f (nv (S 25 f)) (nv (S 21 f)) (nv (S 41 (qS N S f))) (nv (S 42 (5 * qS N S f)))
theorem kx_passTick (l : Launch) (g : GX) (b N : Nat) (S : SX) (Fl : FX) (hN : N ≤ 6) (hI : IX N S) (f : Nat) (hf : f < N) (hF : ∀ j, j < N → fOK (Fl j)) (hcl : ¬ r_X1_claims S f = 0 → 1 ≤ nv (S 21 f)) : MR l yX3_passTick (.code yX3_passTick cX3_passTick 2 none :: tb) (rmk 5 115) g (RepX g b N S Fl) (RepX g b N (xpS N S f) (xpF N S Fl f)) (AX b N) [.ref b, .ref (aRg b f)] none :=
  k_X3_passTick l g b N S Fl hN f (nv (S 25 f)) (nv (S 21 f)) hf (hI.p hN hf).1 (hI.L hN hf).1 (hI.1 f hf) (hI.p hN hf).2 (hI.L hN hf).2 (nv (S 41 (qS N S f))) (nv (S 42 (5 * qS N S f))) (hI.z (hI.q hN hf)).1 (hI.t hN (i := 5 * qS N S f) (by have := hI.q hN hf; omega)).1 (hI.z (hI.q hN hf)).2 (hI.t hN (i := 5 * qS N S f) (by have := hI.q hN hf; omega)).2 (hF _ (wr_lt (by have := (hI.p hN hf).1; omega))) hcl
def xin (N : Nat) : Nat → SX × FX → SX × FX
  | 0, s => s
  | k + 1, s => (xpS N (xin N k s).1 k, xpF N (xin N k s).1 (xin N k s).2 k)
def xck (s : SX × FX) : SX × FX := (up2 s.1 45 0 (s.1 45 0 + nI 1), s.2)
def xtk (N : Nat) : Nat → SX × FX → SX × FX
  | 0, s => s
  | k + 1, s => xin N N (xck (xtk N k s))
def PX (N : Nat) (P : SX → FX → Prop) : Prop := (∀ U V, P U V → P (up2 U 45 0 (U 45 0 + nI 1)) V) ∧ (∀ U V f, f < N → P U V → P (xpS N U f) (xpF N U V f)) ∧ ∀ U V, P U V → IX N U ∧ (∀ j, j < N → fOK (V j)) ∧ ∀ f, f < N → ¬ r_X1_claims U f = 0 → 1 ≤ nv (U 21 f)
theorem xin_P {N : Nat} {P : SX → FX → Prop} (hP : PX N P) : ∀ (k : Nat) (s : SX × FX), k ≤ N → P s.1 s.2 → P (xin N k s).1 (xin N k s).2 := by
  intro k
  induction k with
  | zero => intro s _ h; exact h
  | succ k ih => intro s hk h; exact hP.2.1 _ _ k (by omega) (ih s (by omega) h)
set_option maxHeartbeats 4000000 in
set_option maxRecDepth 100000 in
theorem k_X3_tick_bad (l : Launch) (g : GX) (b N : Nat) (S : SX) (Fl : FX) (hN : N ≤ 6) (x : Int32) (hx : x < nI 1 ∨ ¬ x ≤ nI 100) : MR l yX3_tick (.code yX3_tick cX3_tick 4 (some .boolean) :: tb) (rmk 6 136) g (RepX g b N S Fl) (RepX g b N S Fl) (AX b N) [.ref b, .int x] (some (.int (nI 0))) := by
  refine MR.start RX3 (by decide) rfl (Nat.le_of_ble_eq_true rfl) (fun zp ze zs zm zb zt zc ls C hr hlk hR hS hl => ?_)
  have hl : lv_has ls 4 [(0, .ref b), (1, .int x)] := hl
  refine lv_iload_n C.1 C.2.1 dX3_tick_0 rfl (lv_at hl 1 rfl) ?_
  refine lv_iconst (v := nI 1) C.1 C.2.1 dX3_tick_1 (by decide) ?_
  refine lv_icmp_lt (tgt := 11) C.1 C.2.1 dX3_tick_2 (by decide) (fun c2 => ?_) (fun c2 => ?_)
  · skip
    refine lv_iconst (v := nI 0) C.1 C.2.1 dX3_tick_11 (by decide) ?_
    skip
    exact endz C hr hlk (Or.inl rfl) hR hS dX3_tick_12
  · skip
    refine lv_iload_n C.1 C.2.1 dX3_tick_5 rfl (lv_at hl 1 rfl) ?_
    refine lv_bipush (v := nI 100) C.1 C.2.1 dX3_tick_6 (by decide) ?_
    refine lv_icmp_le (tgt := 13) C.1 C.2.1 dX3_tick_8 (by decide) (fun c8 => ?_) (fun c8 => ?_)
    · skip
      exact absurd hx (fun h => h.elim c2 (fun h => h c8))
    · skip
      refine lv_iconst (v := nI 0) C.1 C.2.1 dX3_tick_11 (by decide) ?_
      skip
      exact endz C hr hlk (Or.inl rfl) hR hS dX3_tick_12

set_option maxHeartbeats 4000000 in
set_option maxRecDepth 100000 in
theorem k_X3_tick_ok (l : Launch) (g : GX) (b N : Nat) (S : SX) (Fl : FX) (hN : N ≤ 6) (k : Nat) (hk1 : 1 ≤ k) (hk : k ≤ 100) (P : SX → FX → Prop) (hP : PX N P) (hU : P S Fl) : MR l yX3_tick (.code yX3_tick cX3_tick 4 (some .boolean) :: tb) (rmk 6 136) g (RepX g b N S Fl) (RepX g b N (xtk N k (S, Fl)).1 (xtk N k (S, Fl)).2) (AX b N) [.ref b, .int (nI k)] (some (.int (nI 1))) := by
  refine MR.start RX3 (by decide) rfl (Nat.le_of_ble_eq_true rfl) (fun zp ze zs zm zb zt zc ls C hr hlk hR hS hl => ?_)
  have hl : lv_has ls 4 [(0, .ref b), (1, .int (nI k))] := hl
  refine lv_iload_n C.1 C.2.1 dX3_tick_0 rfl (lv_at hl 1 rfl) ?_
  refine lv_iconst (v := nI 1) C.1 C.2.1 dX3_tick_1 (by decide) ?_
  refine lv_icmp_lt (tgt := 11) C.1 C.2.1 dX3_tick_2 (by decide) (fun c2 => ?_) (fun c2 => ?_)
  · skip
    exact absurd c2 (nI_nlt (by omega) (by omega))
  · skip
    have c2 : ¬ (k < 1) := mt (nI_ltI (a := k) (b := 1) (by omega) (by omega)).mpr c2
    refine lv_iload_n C.1 C.2.1 dX3_tick_5 rfl (lv_at hl 1 rfl) ?_
    refine lv_bipush (v := nI 100) C.1 C.2.1 dX3_tick_6 (by decide) ?_
    refine lv_icmp_le (tgt := 13) C.1 C.2.1 dX3_tick_8 (by decide) (fun c8 => ?_) (fun c8 => ?_)
    · skip
      have c8 : k ≤ 100 := (nI_leI (a := k) (b := 100) (by omega) (by omega)).mp c8
      refine lv_iconst (v := nI 0) C.1 C.2.1 dX3_tick_13 (by decide) ?_
      refine lv_istore_n (lv' := [(2, .int (nI 0)), (0, .ref b), (1, .int (nI k))]) C.1 C.2.1 dX3_tick_14 rfl hl (by decide) rfl (fun ls hl => ?_)
      have lp : ∀ (n : Nat) (i : Nat) (H : Heap) (locs : List Loc) (ls : Array Slot), k - i < n → i ≤ k → P (xtk N i (S, Fl)).1 (xtk N i (S, Fl)).2 → RepX g b N ((xtk N i (S, Fl)).1) ((xtk N i (S, Fl)).2) H → va_S (AX b N) zs.heap H locs → lv_has ls 4 [(2, .int (nI i)), (0, .ref b), (1, .int (nI k))] → W zp l ze (rmk 6 136) zs zm ([.ref b, .int (nI k)] : List Value).toArray zb zt zc H locs 0 0 (MQ zb (QR (RepX g b N (xtk N k (S, Fl)).1 (xtk N k (S, Fl)).2) (AX b N) (some (.int (nI 1)))) ([.ref b, .int (nI k)] : List Value).toArray zs 0 0 (AX b N)) (F0 zm 15 ls []) := by
        intro n
        induction n with
        | zero => intro i H locs ls hm; exact absurd hm (Nat.not_lt_zero _)
        | succ n ih =>
          intro i H locs ls hm hi hU hR hS hl
          obtain ⟨S1, eS1⟩ : ∃ y, y = (xtk N i (S, Fl)).1 := ⟨_, rfl⟩
          rw [← eS1] at hR
          obtain ⟨F2, eF2⟩ : ∃ y, y = (xtk N i (S, Fl)).2 := ⟨_, rfl⟩
          rw [← eF2] at hR
          rw [← eS1, ← eF2] at hU
          refine lv_iload_n C.1 C.2.1 dX3_tick_15 rfl (lv_at hl 0 rfl) ?_
          refine lv_iload_n C.1 C.2.1 dX3_tick_16 rfl (lv_at hl 2 rfl) ?_
          refine lv_icmp_ge (tgt := 62) C.1 C.2.1 dX3_tick_17 (by decide) (fun c17 => ?_) (fun c17 => ?_)
          · skip
            have c17 : k ≤ i := (nI_leI (a := k) (b := i) (by omega) (by omega)).mp c17
            refine lv_iconst (v := nI 1) C.1 C.2.1 dX3_tick_62 (by decide) ?_
            have hik : i = k := by omega
            rw [hik] at eS1 eF2
            rw [eS1, eF2] at hR
            exact endz C hr hlk (Or.inr rfl) hR hS dX3_tick_63
          · skip
            have c17 : ¬ (k ≤ i) := mt (nI_leI (a := k) (b := i) (by omega) (by omega)).mpr c17
            refine lv_aload_n C.1 C.2.1 dX3_tick_20 rfl (lv_at hl 1 rfl) ?_
            refine lv_dup C.1 C.2.1 dX3_tick_21 rfl ?_
            refine xO_get C hR 4 (by decide) rfl fl_X3_63 (v := .int (S1 45 0)) rfl dX3_tick_22 ?_
            refine lv_iconst (v := nI 1) C.1 C.2.1 dX3_tick_25 (by decide) ?_
            refine lv_iadd C.1 C.2.1 dX3_tick_26 ?_
            refine xO_put C hR hS 4 (by decide) fl_X3_63 dX3_tick_27 (fun S3 H locs eS3 hR hS => ?_)
            refine lv_iconst (v := nI 0) C.1 C.2.1 dX3_tick_30 (by decide) ?_
            refine lv_istore_n (lv' := [(3, .int (nI 0)), (2, .int (nI i)), (0, .ref b), (1, .int (nI k))]) C.1 C.2.1 dX3_tick_31 rfl hl (by decide) rfl (fun ls hl => ?_)
            have hq1 : (xin N 0 (xck (xtk N i (S, Fl)))).1 = S3 := by rw [eS3, eS1]; rfl
            have hq2 : (xin N 0 (xck (xtk N i (S, Fl)))).2 = F2 := by rw [eF2]; rfl
            have hU2 : P (xin N 0 (xck (xtk N i (S, Fl)))).1 (xin N 0 (xck (xtk N i (S, Fl)))).2 := hP.1 _ _ (by rw [eS1, eF2] at hU; exact hU)
            rw [← hq1, ← hq2] at hR
            have lp2 : ∀ (n2 : Nat) (f : Nat) (H : Heap) (locs : List Loc) (ls : Array Slot), N - f < n2 → f ≤ N → P (xin N f (xck (xtk N i (S, Fl)))).1 (xin N f (xck (xtk N i (S, Fl)))).2 → RepX g b N ((xin N f (xck (xtk N i (S, Fl)))).1) ((xin N f (xck (xtk N i (S, Fl)))).2) H → va_S (AX b N) zs.heap H locs → lv_has ls 4 [(3, .int (nI f)), (2, .int (nI i)), (0, .ref b), (1, .int (nI k))] → W zp l ze (rmk 6 136) zs zm ([.ref b, .int (nI k)] : List Value).toArray zb zt zc H locs 0 0 (MQ zb (QR (RepX g b N (xtk N k (S, Fl)).1 (xtk N k (S, Fl)).2) (AX b N) (some (.int (nI 1)))) ([.ref b, .int (nI k)] : List Value).toArray zs 0 0 (AX b N)) (F0 zm 32 ls []) := by
              intro n2
              induction n2 with
              | zero => intro f H locs ls hm; exact absurd hm (Nat.not_lt_zero _)
              | succ n2 ih2 =>
                intro f H locs ls hm hf hU hR hS hl
                obtain ⟨S4, eS4⟩ : ∃ y, y = (xin N f (xck (xtk N i (S, Fl)))).1 := ⟨_, rfl⟩
                rw [← eS4] at hR
                obtain ⟨F5, eF5⟩ : ∃ y, y = (xin N f (xck (xtk N i (S, Fl)))).2 := ⟨_, rfl⟩
                rw [← eF5] at hR
                rw [← eS4, ← eF5] at hU
                refine lv_iload_n C.1 C.2.1 dX3_tick_32 rfl (lv_at hl 0 rfl) ?_
                refine lv_aload_n C.1 C.2.1 dX3_tick_33 rfl (lv_at hl 2 rfl) ?_
                refine xO_get C hR 0 (by decide) rfl fl_X3_9 (v := .int (nI N)) rfl dX3_tick_34 ?_
                refine lv_icmp_ge (tgt := 56) C.1 C.2.1 dX3_tick_37 (by decide) (fun c37 => ?_) (fun c37 => ?_)
                · skip
                  have c37 : N ≤ f := (nI_leI (a := N) (b := f) (by omega) (by omega)).mp c37
                  refine lv_iinc (v := nI (i + 1)) (lv' := [(2, .int (nI (i + 1))), (3, .int (nI f)), (0, .ref b), (1, .int (nI k))]) C.1 C.2.1 dX3_tick_56 hl (k := 1) rfl (nI_add _ _) (by decide) rfl (fun ls hl => ?_)
                  refine lv_goto (tgt := 15) C.1 C.2.1 dX3_tick_59 (by decide) ?_
                  have hfN : f = N := by omega
                  rw [hfN] at eS4 eF5
                  rw [eS4, eF5] at hR hU
                  exact ih (i + 1) H locs ls (by omega) (by omega) hU hR hS (lv_sub hl [0, 2, 3] rfl)
                · skip
                  have c37 : ¬ (N ≤ f) := mt (nI_leI (a := N) (b := f) (by omega) (by omega)).mpr c37
                  refine lv_aload_n C.1 C.2.1 dX3_tick_40 rfl (lv_at hl 2 rfl) ?_
                  refine lv_aload_n C.1 C.2.1 dX3_tick_41 rfl (lv_at hl 2 rfl) ?_
                  refine xO_get C hR 3 (by decide) rfl fl_X3_25 (v := .ref (b + 3)) rfl dX3_tick_42 ?_
                  refine lv_iload_n C.1 C.2.1 dX3_tick_45 rfl (lv_at hl 0 rfl) ?_
                  refine xR_ald (j := f) C hR (by omega) hN dX3_tick_46 ?_
                  refine cxV (b := b) (As := [.ref (aRg b f)]) (rest := []) (ci := 3) (q := (RX3, TX3, 6)) C (kx_passTick l g b N S4 F5 hN (hP.2.2 _ _ hU).1 (f) (by omega) (hP.2.2 _ _ hU).2.1 ((hP.2.2 _ _ hU).2.2 _ (by omega))) cf_X3_passTick ml_X3_66 ⟨by decide, by decide⟩ ⟨rfl, rfl⟩ rfl (hR.1) rfl hl.1 rfl (Nat.le_of_ble_eq_true rfl) dX3_tick_47 hR ⟨Nat.zero_le _, Nat.zero_le _⟩ hS (fun _ h => h) (fun H locs hR hS _ _ => ?_)
                  obtain ⟨S6, eS6⟩ : ∃ y, y = xpS N S4 f := ⟨_, rfl⟩
                  rw [← eS6] at hR
                  obtain ⟨F7, eF7⟩ : ∃ y, y = xpF N S4 F5 f := ⟨_, rfl⟩
                  rw [← eF7] at hR
                  simp only [Option.toList, List.nil_append]
                  refine lv_iinc (v := nI (f + 1)) (lv' := [(3, .int (nI (f + 1))), (2, .int (nI i)), (0, .ref b), (1, .int (nI k))]) C.1 C.2.1 dX3_tick_50 hl (k := 0) rfl (nI_add _ _) (by decide) rfl (fun ls hl => ?_)
                  refine lv_goto (tgt := 32) C.1 C.2.1 dX3_tick_53 (by decide) ?_
                  have hb1 : (xin N (f + 1) (xck (xtk N i (S, Fl)))).1 = S6 := by rw [eS6, eS4]; rfl
                  have hb2 : (xin N (f + 1) (xck (xtk N i (S, Fl)))).2 = F7 := by rw [eF7, eS4, eF5]; rfl
                  have hU3 : P (xin N (f + 1) (xck (xtk N i (S, Fl)))).1 (xin N (f + 1) (xck (xtk N i (S, Fl)))).2 := hP.2.1 _ _ f (by omega) (by rw [eS4, eF5] at hU; exact hU)
                  rw [← hb1, ← hb2] at hR
                  exact ih2 (f + 1) H locs ls (by omega) (by omega) hU3 hR hS (lv_sub hl [0, 1, 2, 3] rfl)
            exact lp2 _ 0 _ _ ls (Nat.lt_succ_self _) (by omega) hU2 hR hS (lv_sub hl [0, 1, 2, 3] rfl)
      exact lp _ 0 _ _ ls (Nat.lt_succ_self _) (by omega) hU hR hS (lv_sub hl [0, 1, 2] rfl)
    · skip
      exact absurd (nI_le (by omega) (by omega)) c8

