theorem va_S.gr {A : Nat → Prop} {H0 H H1 : Heap} {locs : List Loc} (hS : va_S A H0 H locs) (hz : H.size ≤ H1.size) (ho : ∀ q : Nat, q < H.size → H1[q]? = H[q]?) : va_S A H0 H1 locs := ⟨Nat.le_trans hS.1 hz, fun q h1 h2 => (ho q (Nat.lt_of_lt_of_le h1 hS.1)).trans (hS.2.1 q h1 h2), hS.2.2⟩
set_option maxHeartbeats 4000000 in
set_option maxRecDepth 100000 in
theorem k_X0_init (l : Launch) (g : GX) (a : Nat) : MA l yX0_init (.code yX0_init cX0_init 1 none :: tb) (rma 1 20 3 15) g (va_at g.1 vwCl (a, .inr (0, fq0))) (FQ g a) (reg a 4) (a + 1) (a + 4) [.ref a] 3 15 := by
  refine MA.start RX0 (by decide) rfl rfl (Nat.le_of_ble_eq_true rfl) (fun zp ze zs zm zb zt zc ls C hKA hr hlk hin hz hR hS hl => ?_)
  have hl : lv_has ls 1 [(0, .ref a)] := hl
  refine lv_aload_n C.1 C.2.1 dX0_init_0 rfl (lv_at hl 0 rfl) ?_
  refine oI C lo_X0_3 hl.1 dX0_init_1 (by decide) (by decide) ?_
  have ob := hR
  refine lv_aload_n C.1 C.2.1 dX0_init_4 rfl (lv_at hl 0 rfl) ?_
  refine lv_iconst (v := nI 5) C.1 C.2.1 dX0_init_5 (by decide) ?_
  refine nwI (a := a + 1) C w_aI (by decide) (by decide) (by decide) hz dX0_init_6 (fun Ha ar0 za oa => ?_)
  have ob := at_eq ob (oa _ (by omega)) rfl
  have hS := hS.gr (by omega) (fun q h => oa q (by omega))
  refine pfF C in0 tyX0 tyX0_ok nmX0 rfl ob 0 (by decide) rfl rfl rfl hin fo_X0_9 rfl rfl (Nat.le_of_ble_eq_true rfl) dX0_init_8 (fun Hb nb_ ob zb_ ob_ => ?_)
  have ar0 := at_eq ar0 (ob_ _ (by omega)) rfl
  have hS := hS.put (k := nb_) zb_ ob_ (by simp only [reg]; omega)
  have hz0 : Hb.size = a + 2 := by omega
  refine lv_aload_n C.1 C.2.1 dX0_init_11 rfl (lv_at hl 0 rfl) ?_
  refine lv_iconst (v := nI 5) C.1 C.2.1 dX0_init_12 (by decide) ?_
  refine nwI (a := a + 2) C w_aI (by decide) (by decide) (by decide) hz0 dX0_init_13 (fun Ha ar1 za oa => ?_)
  have ob := at_eq ob (oa _ (by omega)) rfl
  have ar0 := at_eq ar0 (oa _ (by omega)) rfl
  have hS := hS.gr (by omega) (fun q h => oa q (by omega))
  refine pfF C in0 tyX0 tyX0_ok nmX0 rfl ob 1 (by decide) rfl rfl rfl hin fo_X0_15 rfl rfl (Nat.le_of_ble_eq_true rfl) dX0_init_15 (fun Hb nb_ ob zb_ ob_ => ?_)
  have ar0 := at_eq ar0 (ob_ _ (by omega)) rfl
  have ar1 := at_eq ar1 (ob_ _ (by omega)) rfl
  have hS := hS.put (k := nb_) zb_ ob_ (by simp only [reg]; omega)
  have hz1 : Hb.size = a + 3 := by omega
  refine lv_aload_n C.1 C.2.1 dX0_init_18 rfl (lv_at hl 0 rfl) ?_
  refine lv_iconst (v := nI 5) C.1 C.2.1 dX0_init_19 (by decide) ?_
  refine nwI (a := a + 3) C w_aI (by decide) (by decide) (by decide) hz1 dX0_init_20 (fun Ha ar2 za oa => ?_)
  have ob := at_eq ob (oa _ (by omega)) rfl
  have ar0 := at_eq ar0 (oa _ (by omega)) rfl
  have ar1 := at_eq ar1 (oa _ (by omega)) rfl
  have hS := hS.gr (by omega) (fun q h => oa q (by omega))
  refine pfF C in0 tyX0 tyX0_ok nmX0 rfl ob 2 (by decide) rfl rfl rfl hin fo_X0_18 rfl rfl (Nat.le_of_ble_eq_true rfl) dX0_init_22 (fun Hb nb_ ob zb_ ob_ => ?_)
  have ar0 := at_eq ar0 (ob_ _ (by omega)) rfl
  have ar1 := at_eq ar1 (ob_ _ (by omega)) rfl
  have ar2 := at_eq ar2 (ob_ _ (by omega)) rfl
  have hS := hS.put (k := nb_) zb_ ob_ (by simp only [reg]; omega)
  have hz2 : Hb.size = a + 4 := by omega
  exact endA C hr hlk ⟨ob, ar0, ar1, ar2⟩ (by omega) hS dX0_init_25
set_option maxHeartbeats 4000000 in
set_option maxRecDepth 100000 in
theorem k_X1_init (l : Launch) (g : GX) (a f : Nat) : MA l yX1_init (.code yX1_init cX1_init 2 none :: tb) (rma 1 20 0 0) g (va_at g.1 vwCl (a, .inr (1, rg0))) (va_at g.1 vwCl (a, .inr (1, rgN f))) (reg a 1) (a + 1) (a + 1) [.ref a, .int (nI f)] 0 0 := by
  refine MA.start RX1 (by decide) rfl rfl (Nat.le_of_ble_eq_true rfl) (fun zp ze zs zm zb zt zc ls C hKA hr hlk hin hz hR hS hl => ?_)
  have hl : lv_has ls 2 [(0, .ref a), (1, .int (nI f))] := hl
  refine lv_aload_n C.1 C.2.1 dX1_init_0 rfl (lv_at hl 0 rfl) ?_
  refine oI C lo_X1_1 hl.1 dX1_init_1 (by decide) (by decide) ?_
  refine lv_aload_n C.1 C.2.1 dX1_init_4 rfl (lv_at hl 0 rfl) ?_
  refine lv_iload_n C.1 C.2.1 dX1_init_5 rfl (lv_at hl 1 rfl) ?_
  refine pfF C in1 tyX1 tyX1_ok nmX1 rfl hR 0 (by decide) rfl rfl rfl hin fo_X1_7 rfl rfl (Nat.le_of_ble_eq_true rfl) dX1_init_6 (fun Hb nb_ ob zb_ ob_ => ?_)
  exact endA C hr hlk ob (by omega) (hS.put (k := nb_) zb_ ob_ (by simp only [reg]; omega)) dX1_init_9
set_option maxHeartbeats 4000000 in
set_option maxRecDepth 100000 in
theorem k_X2_init (l : Launch) (g : GX) (a : Nat) : MA l yX2_init (.code yX2_init cX2_init 1 none :: tb) (rma 2 40 8 38) g (va_at g.1 vwCl (a, .inr (2, st0))) (STN g a) (reg a 9) (a + 1) (a + 9) [.ref a] 8 38 := by
  refine MA.start RX2 (by decide) rfl rfl (Nat.le_of_ble_eq_true rfl) (fun zp ze zs zm zb zt zc ls C hKA hr hlk hin hz hR hS hl => ?_)
  have hl : lv_has ls 1 [(0, .ref a)] := hl
  refine lv_aload_n C.1 C.2.1 dX2_init_0 rfl (lv_at hl 0 rfl) ?_
  refine oI C lo_X2_3 hl.1 dX2_init_1 (by decide) (by decide) ?_
  have ob := hR
  refine lv_aload_n C.1 C.2.1 dX2_init_4 rfl (lv_at hl 0 rfl) ?_
  refine nwO (a := a + 1) (fs := [.null, .null, .null, .int 0]) C in0 tyX0 tyX0_ok cl_X2_9 in_X0 ii_X0 (ci := 0) rfl (fun j hj => by match j, hj with | 0, _ => rfl | 1, _ => rfl | 2, _ => rfl | 3, _ => rfl | k + 4, h => omega) (by decide) (by decide) hz dX2_init_5 (fun Ha qu za oa => ?_)
  have ob := at_eq ob (oa _ (by omega)) rfl
  have hS := hS.gr (by omega) (fun q h => oa q (by omega))
  refine lv_dup C.1 C.2.1 dX2_init_8 rfl ?_
  refine cxI (a := a + 1) (As := []) (rest := [.ref (a + 1), .ref a]) C hKA (k_X0_init l g (a + 1)) ci_X0 rfl ml_X2_11 ⟨by decide, by decide⟩ ⟨rfl, rfl⟩ rfl hl.1 rfl (Nat.le_of_ble_eq_true rfl) dX2_init_9 za qu ⟨by decide, by decide⟩ hS (fun q h => by simp only [reg] at *; omega) (fun Hc lc fq0 zc_ hS oc_ => ?_)
  have ob := at_eq ob (oc_ _ (by omega) (by simp only [reg]; omega)) rfl
  refine pfF C in2 tyX2 tyX2_ok nmX2 rfl ob 0 (by decide) rfl rfl rfl hin fo_X2_12 rfl rfl (Nat.le_of_ble_eq_true rfl) dX2_init_12 (fun Hb nb_ ob zb_ ob_ => ?_)
  have fq0 := fq0.keep (fun q h1 h2 => ob_ q (by omega))
  have hS := hS.put (k := nb_) zb_ ob_ (by simp only [reg]; omega)
  have hz0 : Hb.size = a + 5 := by omega
  refine lv_aload_n C.1 C.2.1 dX2_init_15 rfl (lv_at hl 0 rfl) ?_
  refine nwO (a := a + 5) (fs := [.null, .null, .null, .int 0]) C in0 tyX0 tyX0_ok cl_X2_9 in_X0 ii_X0 (ci := 0) rfl (fun j hj => by match j, hj with | 0, _ => rfl | 1, _ => rfl | 2, _ => rfl | 3, _ => rfl | k + 4, h => omega) (by decide) (by decide) hz0 dX2_init_16 (fun Ha qu za oa => ?_)
  have ob := at_eq ob (oa _ (by omega)) rfl
  have fq0 := fq0.keep (fun q h1 h2 => oa q (by omega))
  have hS := hS.gr (by omega) (fun q h => oa q (by omega))
  refine lv_dup C.1 C.2.1 dX2_init_19 rfl ?_
  refine cxI (a := a + 5) (As := []) (rest := [.ref (a + 5), .ref a]) C hKA (k_X0_init l g (a + 5)) ci_X0 rfl ml_X2_11 ⟨by decide, by decide⟩ ⟨rfl, rfl⟩ rfl hl.1 rfl (Nat.le_of_ble_eq_true rfl) dX2_init_20 za qu ⟨by decide, by decide⟩ hS (fun q h => by simp only [reg] at *; omega) (fun Hc lc fq1 zc_ hS oc_ => ?_)
  have ob := at_eq ob (oc_ _ (by omega) (by simp only [reg]; omega)) rfl
  have fq0 := fq0.keep (fun q h1 h2 => oc_ q (by omega) (by simp only [reg]; omega))
  refine pfF C in2 tyX2 tyX2_ok nmX2 rfl ob 1 (by decide) rfl rfl rfl hin fo_X2_18 rfl rfl (Nat.le_of_ble_eq_true rfl) dX2_init_23 (fun Hb nb_ ob zb_ ob_ => ?_)
  have fq0 := fq0.keep (fun q h1 h2 => ob_ q (by omega))
  have fq1 := fq1.keep (fun q h1 h2 => ob_ q (by omega))
  have hS := hS.put (k := nb_) zb_ ob_ (by simp only [reg]; omega)
  have hz1 : Hb.size = a + 9 := by omega
  refine lv_aload_n C.1 C.2.1 dX2_init_26 rfl (lv_at hl 0 rfl) ?_
  refine lv_iconst (v := nI 1) C.1 C.2.1 dX2_init_27 (by decide) ?_
  refine pf C in2 tyX2 tyX2_ok nmX2 rfl ob 2 (by decide) rfl rfl fl_X2_21 rfl rfl (Nat.le_of_ble_eq_true rfl) dX2_init_28 (fun Hb nb_ ob zb_ ob_ => ?_)
  have fq0 := fq0.keep (fun q h1 h2 => ob_ q (by omega))
  have fq1 := fq1.keep (fun q h1 h2 => ob_ q (by omega))
  have hS := hS.put (k := nb_) zb_ ob_ (by simp only [reg]; omega)
  have hzz : Hb.size = a + 9 := by omega
  refine lv_aload_n C.1 C.2.1 dX2_init_31 rfl (lv_at hl 0 rfl) ?_
  refine lv_iconst (v := (-1)) C.1 C.2.1 dX2_init_32 (by decide) ?_
  refine pf C in2 tyX2 tyX2_ok nmX2 rfl ob 3 (by decide) rfl rfl fl_X2_25 rfl rfl (Nat.le_of_ble_eq_true rfl) dX2_init_33 (fun Hb nb_ ob zb_ ob_ => ?_)
  have fq0 := fq0.keep (fun q h1 h2 => ob_ q (by omega))
  have fq1 := fq1.keep (fun q h1 h2 => ob_ q (by omega))
  have hS := hS.put (k := nb_) zb_ ob_ (by simp only [reg]; omega)
  have hzz : Hb.size = a + 9 := by omega
  refine lv_aload_n C.1 C.2.1 dX2_init_36 rfl (lv_at hl 0 rfl) ?_
  refine lv_bipush (v := nI 20) C.1 C.2.1 dX2_init_37 (by decide) ?_
  refine pf C in2 tyX2 tyX2_ok nmX2 rfl ob 4 (by decide) rfl rfl fl_X2_29 rfl rfl (Nat.le_of_ble_eq_true rfl) dX2_init_39 (fun Hb nb_ ob zb_ ob_ => ?_)
  have fq0 := fq0.keep (fun q h1 h2 => ob_ q (by omega))
  have fq1 := fq1.keep (fun q h1 h2 => ob_ q (by omega))
  have hS := hS.put (k := nb_) zb_ ob_ (by simp only [reg]; omega)
  have hzz : Hb.size = a + 9 := by omega
  refine lv_aload_n C.1 C.2.1 dX2_init_42 rfl (lv_at hl 0 rfl) ?_
  refine lv_iconst (v := (-1)) C.1 C.2.1 dX2_init_43 (by decide) ?_
  refine pf C in2 tyX2 tyX2_ok nmX2 rfl ob 12 (by decide) rfl rfl fl_X2_32 rfl rfl (Nat.le_of_ble_eq_true rfl) dX2_init_44 (fun Hb nb_ ob zb_ ob_ => ?_)
  have fq0 := fq0.keep (fun q h1 h2 => ob_ q (by omega))
  have fq1 := fq1.keep (fun q h1 h2 => ob_ q (by omega))
  have hS := hS.put (k := nb_) zb_ ob_ (by simp only [reg]; omega)
  have hzz : Hb.size = a + 9 := by omega
  refine lv_aload_n C.1 C.2.1 dX2_init_47 rfl (lv_at hl 0 rfl) ?_
  refine lv_iconst (v := (-1)) C.1 C.2.1 dX2_init_48 (by decide) ?_
  refine pf C in2 tyX2 tyX2_ok nmX2 rfl ob 16 (by decide) rfl rfl fl_X2_35 rfl rfl (Nat.le_of_ble_eq_true rfl) dX2_init_49 (fun Hb nb_ ob zb_ ob_ => ?_)
  have fq0 := fq0.keep (fun q h1 h2 => ob_ q (by omega))
  have fq1 := fq1.keep (fun q h1 h2 => ob_ q (by omega))
  have hS := hS.put (k := nb_) zb_ ob_ (by simp only [reg]; omega)
  have hzz : Hb.size = a + 9 := by omega
  exact endA C hr hlk ⟨ob, fq0, fq1⟩ hzz hS dX2_init_52
