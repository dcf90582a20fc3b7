theorem sw13 {x : Int32} (h0 : ¬ x = nI 0) (h1 : ¬ x = nI 1) (h2 : ¬ x = nI 2) (h3 : ¬ x = nI 3) (h4 : ¬ x = nI 4) (h5 : ¬ x = nI 5) (h6 : ¬ x = nI 6) (h7 : ¬ x = nI 7) (h8 : ¬ x = nI 8) (h9 : ¬ x = nI 9) (h10 : ¬ x = nI 10) (h11 : ¬ x = nI 11) (h12 : ¬ x = nI 12) : x.toInt < 0 ∨ 12 < x.toInt := by
  rcases Int.lt_or_le x.toInt 0 with g1 | g1
  · exact Or.inl g1
  · rcases Int.lt_or_le 12 x.toInt with g2 | g2
    · exact Or.inr g2
    · exfalso
      obtain ⟨k, hk, rfl⟩ := nI_of2 (M := nI 12) (n := 12) (by decide) (x := x) (fun q => by
        rw [Int32.lt_iff_toInt_lt] at q
        have e0 : (0 : Int32).toInt = 0 := by decide
        omega) (by
        rw [Int32.le_iff_toInt_le]
        have e0 : (nI 12).toInt = 12 := by decide
        omega)
      have hk2 : k = 0 ∨ k = 1 ∨ k = 2 ∨ k = 3 ∨ k = 4 ∨ k = 5 ∨ k = 6 ∨ k = 7 ∨ k = 8 ∨ k = 9 ∨ k = 10 ∨ k = 11 ∨ k = 12 := by omega
      rcases hk2 with rfl | rfl | rfl | rfl | rfl | rfl | rfl | rfl | rfl | rfl | rfl | rfl | rfl
      · exact h0 rfl
      · exact h1 rfl
      · exact h2 rfl
      · exact h3 rfl
      · exact h4 rfl
      · exact h5 rfl
      · exact h6 rfl
      · exact h7 rfl
      · exact h8 rfl
      · exact h9 rfl
      · exact h10 rfl
      · exact h11 rfl
      · exact h12 rfl
theorem gt_out {L j : Nat} (hL : L ≤ 2561) (hj : j ≤ 5000) (h : ¬ nI L - nI 5 < nI j) : j + 5 ≤ L := by
  rcases Nat.lt_or_ge L 5 with h5 | h5
  · exfalso
    apply h
    have hL5 : L = 0 ∨ L = 1 ∨ L = 2 ∨ L = 3 ∨ L = 4 := by omega
    have e : (nI j).toInt = (j : Int) := nI_toInt (by omega)
    rw [Int32.lt_iff_toInt_lt, e]
    have : (nI L - nI 5).toInt < 0 := by rcases hL5 with rfl | rfl | rfl | rfl | rfl <;> decide
    omega
  · have e : nI L - nI 5 = nI (L - 5) := pk_sub h5
    rw [e, nI_ltI (by omega) (by omega)] at h
    omega
section LOOPL
variable {p : Program} {l : Launch} {e : Env} {s : State} {m : MethodId} {below : List Frame} {meth : Method} {c : Code} {g : GX} {bx d N b L : Nat} {xs : Nat → Int32}
set_option maxHeartbeats 4000000 in
set_option maxRecDepth 100000 in
theorem law_loop (C : Cx g p s m #[Value.ref b] c cL_law 8 RL) (hL : L ≤ 2561) (hXs : va_X b L xs s s.heap) (hbl : b < s.heap.size) (G0 : LG s bx d N) (hr : meth.sig.returnType = ret) (hlocks : meth.locks = false) :
    ∀ (n i : Nat), 1 + 5 * i ≤ L + 1 → L + 2 ≤ 1 + 5 * i + n → ∀ (cnt : Nat) (S M : SX) (Fl G : FX) (H : Heap) (locs : List Loc) (ls : Array Slot), cnt ≤ 100 * i → SimC N cnt S M Fl G → RepX g bx N S Fl H → RepM g d N M G H → va_S (A0 s) s.heap H locs → d + 34 ≤ H.size → lv_has ls 8 [(0, .ref b), (1, .ref bx), (2, .ref d), (3, .int (nI (1 + 5 * i)))] → W p l e room_1 s m #[Value.ref b] below meth c H locs 600000 7302250 (lw_Z below #[Value.ref b] s) (F0 m 28 ls []) := by
  intro n
  induction n with
  | zero => intro i h1 h2; omega
  | succ n ih =>
    intro i h1 h2 cnt S M Fl G H locs ls hcnt hsim hX hM hS hz hl
    refine lv_iload_n C.1 C.2.1 dL_law_28 rfl (lv_at hl 3 rfl) ?_
    refine lv_aload_n C.1 C.2.1 dL_law_29 rfl (lv_at hl 0 rfl) ?_
    refine va_slen C.1 C.2.1 hXs hbl (Nat.not_le.mpr hbl) hS dL_law_30 ?_
    refine lv_iconst (v := nI 5) C.1 C.2.1 dL_law_31 (by decide) ?_
    refine lv_isub C.1 C.2.1 dL_law_32 ?_
    refine lv_icmp_gt (tgt := 573) C.1 C.2.1 dL_law_33 (by decide) (fun _ => ?_) (fun hgt => ?_)
    · refine lv_iconst (v := 1) C.1 C.2.1 dL_law_573 (by decide) ?_
      refine va_forget (fun q hq => hS.2.2 q hq) ?_
      exact lw_ret C.1 C.2.1 hr hlocks dL_law_574
    · have hj : 1 + 5 * i + 5 ≤ L := gt_out hL (by omega) hgt
      have kb : KB p l e s m below meth c b g bx d N (1 + 5 * i) (100 * (i + 1)) := by
        intro c2 S2 M2 Fl2 G2 H locs ls hs2 hc2 hX hM hS hz hl
        refine lv_iinc (v := nI (1 + 5 * (i + 1))) (lv' := [(3, .int (nI (1 + 5 * (i + 1)))), (0, .ref b), (1, .ref bx), (2, .ref d)]) C.1 C.2.1 dL_law_567 hl (k := 3) rfl (by show nI (1 + 5 * i) + nI 5 = _; rw [nI_add]; rfl) (by decide) rfl (fun ls hl => ?_)
        refine lv_goto (tgt := 28) C.1 C.2.1 dL_law_570 (by decide) ?_
        exact ih (i + 1) (by omega) (by omega) c2 S2 M2 Fl2 G2 H locs ls hc2 hs2 hX hM hS hz (lv_sub hl [1, 2, 3, 0] rfl)
      refine lv_aload_n C.1 C.2.1 dL_law_36 rfl (lv_at hl 0 rfl) ?_
      refine lv_iload_n C.1 C.2.1 dL_law_37 rfl (lv_at hl 3 rfl) ?_
      refine va_sld C.1 C.2.1 hXs hbl (Nat.not_le.mpr hbl) hS (vp_in_nI (show 1 + 5 * i < L by omega) (by omega)) dL_law_38 ?_
      refine lv_bipush (v := nI 15) C.1 C.2.1 dL_law_39 (by decide) ?_
      refine lv_iand C.1 C.2.1 dL_law_41 ?_
      generalize xs (nI (1 + 5 * i)).toNatClampNeg &&& nI 15 = x

      by_cases h0 : x = nI 0
      · subst h0
        refine lv_tableIn (off := 66) (tgt := 108) C.1 C.2.1 dL_law_42 (by decide) (by decide) (by decide) (by decide) ?_
        exact lc_bid C hL hXs hbl G0 hsim (by omega) (by omega) hX hM hS hz hl hj kb
      by_cases h1 : x = nI 1
      · subst h1
        refine lv_tableIn (off := 99) (tgt := 141) C.1 C.2.1 dL_law_42 (by decide) (by decide) (by decide) (by decide) ?_
        exact lc_allot C hL hXs hbl G0 hsim (by omega) (by omega) hX hM hS hz hl hj kb
      by_cases h2 : x = nI 2
      · subst h2
        refine lv_tableIn (off := 132) (tgt := 174) C.1 C.2.1 dL_law_42 (by decide) (by decide) (by decide) (by decide) ?_
        exact lc_send C hL hXs hbl G0 hsim (by omega) (by omega) hX hM hS hz hl hj kb
      by_cases h3 : x = nI 3
      · subst h3
        refine lv_tableIn (off := 185) (tgt := 227) C.1 C.2.1 dL_law_42 (by decide) (by decide) (by decide) (by decide) ?_
        exact lc_cable C hL hXs hbl G0 hsim (by omega) (by omega) hX hM hS hz hl hj kb
      by_cases h4 : x = nI 4
      · subst h4
        refine lv_tableIn (off := 234) (tgt := 276) C.1 C.2.1 dL_law_42 (by decide) (by decide) (by decide) (by decide) ?_
        exact lc_power C hL hXs hbl G0 hsim (by omega) (by omega) hX hM hS hz hl hj kb
      by_cases h5 : x = nI 5
      · subst h5
        refine lv_tableIn (off := 283) (tgt := 325) C.1 C.2.1 dL_law_42 (by decide) (by decide) (by decide) (by decide) ?_
        exact lc_tick C hL hXs hbl G0 hsim (by omega) (by omega) hX hM hS hz hl hj kb
      by_cases h6 : x = nI 6
      · subst h6
        refine lv_tableIn (off := 306) (tgt := 348) C.1 C.2.1 dL_law_42 (by decide) (by decide) (by decide) (by decide) ?_
        exact lc_ring C hL hXs hbl G0 hsim (by omega) (by omega) hX hM hS hz hl hj kb
      by_cases h7 : x = nI 7
      · subst h7
        refine lv_tableIn (off := 329) (tgt := 371) C.1 C.2.1 dL_law_42 (by decide) (by decide) (by decide) (by decide) ?_
        exact lc_state C hL hXs hbl G0 hsim (by omega) (by omega) hX hM hS hz hl hj kb
      by_cases h8 : x = nI 8
      · subst h8
        refine lv_tableIn (off := 352) (tgt := 394) C.1 C.2.1 dL_law_42 (by decide) (by decide) (by decide) (by decide) ?_
        exact lc_operating C hL hXs hbl G0 hsim (by omega) (by omega) hX hM hS hz hl hj kb
      by_cases h9 : x = nI 9
      · subst h9
        refine lv_tableIn (off := 375) (tgt := 417) C.1 C.2.1 dL_law_42 (by decide) (by decide) (by decide) (by decide) ?_
        exact lc_station C hL hXs hbl G0 hsim (by omega) (by omega) hX hM hS hz hl hj kb
      by_cases h10 : x = nI 10
      · subst h10
        refine lv_tableIn (off := 408) (tgt := 450) C.1 C.2.1 dL_law_42 (by decide) (by decide) (by decide) (by decide) ?_
        exact lc_rotation C hL hXs hbl G0 hsim (by omega) (by omega) hX hM hS hz hl hj kb
      by_cases h11 : x = nI 11
      · subst h11
        refine lv_tableIn (off := 461) (tgt := 503) C.1 C.2.1 dL_law_42 (by decide) (by decide) (by decide) (by decide) ?_
        exact lc_share C hL hXs hbl G0 hsim (by omega) (by omega) hX hM hS hz hl hj kb
      by_cases h12 : x = nI 12
      · subst h12
        refine lv_tableIn (off := 512) (tgt := 554) C.1 C.2.1 dL_law_42 (by decide) (by decide) (by decide) (by decide) ?_
        exact lc_longest C hL hXs hbl G0 hsim (by omega) (by omega) hX hM hS hz hl hj kb
      refine lv_tableOut (tgt := 567) C.1 C.2.1 dL_law_42 (sw13 h0 h1 h2 h3 h4 h5 h6 h7 h8 h9 h10 h11 h12) (by decide) ?_
      exact kb _ _ _ _ _ _ _ _ hsim (by omega) hX hM hS hz hl
end LOOPL
theorem n_pick (x : Int32) : ∃ N, 2 ≤ N ∧ N ≤ 6 ∧ (x = nI N ∨ ((x < nI 2 ∨ nI 6 < x) ∧ N = 4)) := by
  by_cases h1 : x < nI 2
  · exact ⟨4, by omega, by omega, Or.inr ⟨Or.inl h1, rfl⟩⟩
  · by_cases h2 : nI 6 < x
    · exact ⟨4, by omega, by omega, Or.inr ⟨Or.inr h2, rfl⟩⟩
    · have e2 : (nI 2).toInt = 2 := by decide
      have e6 : (nI 6).toInt = 6 := by decide
      have e0 : (0 : Int32).toInt = 0 := by decide
      rw [Int32.lt_iff_toInt_lt] at h1 h2
      obtain ⟨k, hk, rfl⟩ := nI_of2 (M := nI 6) (n := 6) (by decide) (x := x) (fun q => by rw [Int32.lt_iff_toInt_lt] at q; omega) (by rw [Int32.le_iff_toInt_le]; omega)
      have ek : (nI k).toInt = (k : Int) := nI_toInt (by omega)
      exact ⟨k, by omega, hk, Or.inl rfl⟩
set_option maxHeartbeats 8000000 in
set_option maxRecDepth 100000 in
theorem whole_start {p : Program} {e : Env} {s : State} {m : MethodId} {below : List Frame} {meth : Method} {c : Code} (l : Launch) {b L : Nat} {xs : Nat → Int32} (hL : L ≤ 2561) (C0 : lw_At p s m meth c b L xs) : W p l e room_1 s m #[Value.ref b] below meth c s.heap [] 0 0 (lw_Z below #[Value.ref b] s) (entryFrame m ([Value.ref b] : List Value).toArray 8) := by
  obtain ⟨hx, hb, hr, hml, hown, hts, hXs, hbl, hlocks, hgv⟩ := id C0
  obtain ⟨g, hKA⟩ := ka_start hts
  have C : Cx g p s m #[Value.ref b] c cL_law 8 RL := ⟨hx, hb, hml, hown, fun w h => hts w (tb_sub h), hKA.1⟩
  obtain ⟨N, hN2, hN6, hxN⟩ := n_pick (cl0 L xs)
  have hS : va_S (A0 s) s.heap s.heap [] := va_S.rf
  have hl := lv_entry ([.ref b]) (n := 8) (Nat.le_of_ble_eq_true rfl)
  rw [lg_entry_eq]
  generalize (lg_sl ([.ref b]) ++ List.replicate (8 - (lg_sl ([.ref b])).length) Slot.unset).toArray = ls at hl ⊢
  have hl : lv_has ls 8 [(0, .ref b)] := hl
  refine nwO (a := s.heap.size) (fs := ob0) C in3 tyX3 tyX3_ok cl_L_7 in_X3 ii_X3 (ci := 3) rfl (fun j hj => by match j, hj with | 0, _ => rfl | 1, _ => rfl | 2, _ => rfl | 3, _ => rfl | 4, _ => rfl | 5, _ => rfl | k + 6, h => omega) (Nat.le_of_ble_eq_true rfl) (Nat.le_of_ble_eq_true rfl) rfl dL_law_0 (fun H1 ob z1 o1 => ?_)
  have hS1 : va_S (A0 s) s.heap H1 [] := hS.grow (n := 1) (fun q h => h) z1 o1
  refine lv_dup C.1 C.2.1 dL_law_3 rfl ?_
  refine lv_aload_n C.1 C.2.1 dL_law_4 rfl (lv_at hl 0 rfl) ?_
  refine lv_iconst (v := nI 0) C.1 C.2.1 dL_law_5 (by decide) ?_
  refine cellS hL C hXs hbl hS1 ⟨Nat.le_of_ble_eq_true rfl, Nat.le_of_ble_eq_true rfl⟩ hl.1 (Nat.le_of_ble_eq_true rfl) dL_law_6 ⟨Nat.le_of_ble_eq_true rfl, Nat.le_of_ble_eq_true rfl⟩ ?_
  refine cxB (a := s.heap.size) (As := [.int (cl0 L xs)]) (rest := [.ref s.heap.size]) C hKA (k_X3_init l g s.heap.size N hN2 hN6 (cl0 L xs) hxN) ci_X3 rfl ml_L_15 ⟨Nat.le_of_ble_eq_true rfl, Nat.le_of_ble_eq_true rfl⟩ ⟨rfl, rfl⟩ rfl hl.1 rfl (Nat.le_of_ble_eq_true rfl) dL_law_9 z1 ob ⟨Nat.le_of_ble_eq_true rfl, Nat.le_of_ble_eq_true rfl⟩ hS1 (fun q h => h.1) (fun H2 locs2 hX2 hz2 hS2 ho2 => ?_)
  refine lv_astore_n (lv' := [(1, .ref s.heap.size), (0, .ref b)]) C.1 C.2.1 dL_law_12 rfl hl (by decide) rfl (fun ls hl => ?_)
  refine nwO (a := H2.size) (fs := moK H2.size 1) C in4 tyX4 tyX4_ok cl_L_18 in_X4 ii_X4 (ci := 4) rfl (fun j hj => by match j, hj with | 0, _ => rfl | 1, _ => rfl | 2, _ => rfl | 3, _ => rfl | 4, _ => rfl | 5, _ => rfl | 6, _ => rfl | 7, _ => rfl | 8, _ => rfl | 9, _ => rfl | 10, _ => rfl | 11, _ => rfl | 12, _ => rfl | 13, _ => rfl | 14, _ => rfl | 15, _ => rfl | 16, _ => rfl | 17, _ => rfl | 18, _ => rfl | 19, _ => rfl | 20, _ => rfl | 21, _ => rfl | 22, _ => rfl | 23, _ => rfl | 24, _ => rfl | 25, _ => rfl | 26, _ => rfl | 27, _ => rfl | 28, _ => rfl | 29, _ => rfl | 30, _ => rfl | 31, _ => rfl | 32, _ => rfl | 33, _ => rfl | 34, _ => rfl | 35, _ => rfl | k + 36, h => omega) (Nat.le_of_ble_eq_true rfl) (Nat.le_of_ble_eq_true rfl) rfl dL_law_13 (fun H3 om z3 o3 => ?_)
  have hS3 : va_S (A0 s) s.heap H3 locs2 := hS2.grow (n := 1) (fun q h => h) z3 o3
  have hX3 : RepX g s.heap.size N _ _ H3 := hX2.keep (fun q hq => o3 q (by have := hq.2; omega)) (by omega)
  refine lv_dup C.1 C.2.1 dL_law_16 rfl ?_
  refine lv_aload_n C.1 C.2.1 dL_law_17 rfl (lv_at hl 1 rfl) ?_
  refine lv_iconst (v := nI 0) C.1 C.2.1 dL_law_18 (by decide) ?_
  refine cellS hL C hXs hbl hS3 ⟨Nat.le_of_ble_eq_true rfl, Nat.le_of_ble_eq_true rfl⟩ hl.1 (Nat.le_of_ble_eq_true rfl) dL_law_19 ⟨Nat.le_of_ble_eq_true rfl, Nat.le_of_ble_eq_true rfl⟩ ?_
  refine cxB (a := H2.size) (As := [.int (cl0 L xs)]) (rest := [.ref H2.size]) C hKA (k_X4_init l g H2.size N hN2 hN6 (cl0 L xs) hxN) ci_X4 rfl ml_L_20 ⟨Nat.le_of_ble_eq_true rfl, Nat.le_of_ble_eq_true rfl⟩ ⟨rfl, rfl⟩ rfl hl.1 rfl (Nat.le_of_ble_eq_true rfl) dL_law_22 z3 om ⟨Nat.le_of_ble_eq_true rfl, Nat.le_of_ble_eq_true rfl⟩ hS3 (fun q h => by have := h.1; show s.heap.size ≤ q; omega) (fun H4 locs4 hM4 hz4 hS4 ho4 => ?_)
  have hX4 : RepX g s.heap.size N _ _ H4 := hX3.keep (fun q hq => ho4 q (by have := hq.2; omega) (fun h => by have := hq.2; have := h.1; omega)) (by omega)
  refine lv_astore_n (lv' := [(2, .ref H2.size), (1, .ref s.heap.size), (0, .ref b)]) C.1 C.2.1 dL_law_25 rfl hl (by decide) rfl (fun ls hl => ?_)
  refine lv_iconst (v := nI 1) C.1 C.2.1 dL_law_26 (by decide) ?_
  refine lv_istore_n (lv' := [(3, .int (nI 1)), (2, .ref H2.size), (1, .ref s.heap.size), (0, .ref b)]) C.1 C.2.1 dL_law_27 rfl hl (by decide) rfl (fun ls hl => ?_)
  refine W.widen (k := 600000) (n := 7302250) (by omega) (by omega) ?_
  exact law_loop C hL hXs hbl (bx := s.heap.size) (d := H2.size) ⟨Nat.le_refl _, hz2, hN2, hN6⟩ hr hlocks (L + 1) 0 (by omega) (by omega) 0 _ _ _ _ H4 _ ls (by omega) (init_Sim hN6 (by omega)) hX4 hM4 hS4 hz4 (lv_sub hl [3, 2, 1, 0] rfl)
