def moK (d k : Nat) : List Value := (List.range 36).map (fun i => if i = 0 ∨ i = 3 ∨ i = 4 then .int 0 else if i < k then .ref (mA d i) else .null)
def mo0 : List Value := moK 0 0
def MI (g : GX) (d k : Nat) (H : Heap) : Prop := va_at g.1 vwCl (d, .inr (4, moK d k)) H ∧ (∀ i, mAr i → i < k → va_at g.1 vwCl (mA d i, .inl (g.2 (mty i), mlen i, .inl (fun _ => 0))) H) ∧ (20 < k → va_at g.1 vwCl (mA d 20, .inl (g.2 2, 6, .inr (.inr (.inl (fun _ => 0))))) H)
theorem mA_lt {d i k : Nat} (hi : mAr i ∨ i = 20) (hk : mAr k ∨ k = 20) (h : i < k) : mA d i < mA d k := by
  simp only [mAr, mA] at *
  split <;> split <;> omega
theorem MI.keep {g : GX} {d k : Nat} {H H1 : Heap} (h : MI g d k H) (hk : mAr k ∨ k = 20) (oq : ∀ q : Nat, q < mA d k → H1[q]? = H[q]?) : MI g d k H1 :=
  ⟨at_eq h.1 (oq _ (by have := mA_in (d := d) hk; simp only [AM] at this; omega)) rfl, fun i hi hik => at_eq (h.2.1 i hi hik) (oq _ (mA_lt (Or.inl hi) hk hik)) rfl, fun h20 => at_eq (h.2.2 h20) (oq _ (mA_lt (Or.inr rfl) hk h20)) rfl⟩
theorem MI.next {g : GX} {d k : Nat} {H H1 : Heap} (h : MI g d k H) (hk : mAr k ∨ k = 20) (h0 : va_at g.1 vwCl (d, .inr (4, moK d (k + 1))) H1) (oq : ∀ q : Nat, q ≠ d → H1[q]? = H[q]?) (hn : (mAr k ∧ va_at g.1 vwCl (mA d k, .inl (g.2 (mty k), mlen k, .inl (fun _ => 0))) H) ∨ (k = 20 ∧ va_at g.1 vwCl (mA d 20, .inl (g.2 2, 6, .inr (.inr (.inl (fun _ => 0))))) H)) : MI g d (k + 1) H1 := by
  refine ⟨h0, fun i hi hik => ?_, fun h20 => ?_⟩
  · by_cases e : i = k
    · subst e
      rcases hn with hn | hn
      · exact at_eq hn.2 (oq _ (mA_in (Or.inl hi)).2) rfl
      · simp only [mAr] at hi; omega
    · exact at_eq (h.2.1 i hi (by omega)) (oq _ (mA_in (Or.inl hi)).2) rfl
  · by_cases e : k = 20
    · rcases hn with hn | hn
      · have := hn.1; simp only [mAr] at this; omega
      · exact at_eq hn.2 (oq _ (mA_in (Or.inr rfl)).2) rfl
    · exact at_eq (h.2.2 (by omega)) (oq _ (mA_in (Or.inr rfl)).2) rfl
section MIS
variable {p : Program} {l : Launch} {e : Env} {R : Room} {s : State} {m : MethodId} {args : Array Value} {below : List Frame} {meth : Method} {c : Code} {H H0 : Heap} {locs : List Loc} {cells slots : Nat} {Q : State → Prop}
variable {cc : ByteArray} {nL pc index : Nat} {ls : Array Slot} {rest : List Value} {g : GX} {d : Nat}
theorem miP {k : Nat} (C : Cx g p s m args c cc nL RX4) (hin2 : meth.name = "<init>") (hk : mAr k ∨ k = 20) (hk36 : k < 36) (hcls : (TX4 k).1 = RX4) (hfin : (TX4 k).2.2.2 = true) (fo : Cond.fieldLink RX4 index RX4 (TX4 k).2.1 (TX4 k).2.2.1 ∈ tb) (hnr : narrow (tyX4 k) (.ref (mA d k)) = .ref (mA d k)) (hft : fits (tyX4 k) (.ref (mA d k)) = true) (hset : (moK d k).set k (.ref (mA d k)) = moK d (k + 1)) (hlen : k < (moK d k).length) (hMI : MI g d k H) (hS : va_S (AM d) H0 H locs) (hz : H.size = mA d k + 1)
    (hn : (mAr k ∧ va_at g.1 vwCl (mA d k, .inl (g.2 (mty k), mlen k, .inl (fun _ => 0))) H) ∨ (k = 20 ∧ va_at g.1 vwCl (mA d 20, .inl (g.2 2, 6, .inr (.inr (.inl (fun _ => 0))))) H)) (hdg : decode cc pc = .ok (.putfield index, 3))
    (kk : ∀ (H1 : Heap) (locs1 : List Loc), MI g d (k + 1) H1 → H1.size = mA d k + 1 → va_S (AM d) H0 H1 locs1 → W p l e R s m args below meth c H1 locs1 cells slots Q (F0 m (pc + 3) ls [])) : W p l e R s m args below meth c H locs cells slots Q (F0 m pc ls [.ref (mA d k), .ref d]) := by
  refine pfF C in4 tyX4 tyX4_ok nmX4 rfl hMI.1 k hk36 hcls rfl hfin hin2 fo hnr hft hlen hdg fun H1 n e1 z1 o1 => ?_
  rw [hset] at e1
  exact kk H1 _ (hMI.next hk e1 o1 hn) (by omega) (hS.put z1 o1 (by simp only [AM]; omega))
theorem mi_I {k : Nat} {n : Int} (C : Cx g p s m args c cc nL RX4) (hin2 : meth.name = "<init>") (hk : mAr k) (ht : mty k = 0) (hk36 : k < 36) (hcls : (TX4 k).1 = RX4) (hfin : (TX4 k).2.2.2 = true) (fo : Cond.fieldLink RX4 index RX4 (TX4 k).2.1 (TX4 k).2.2.1 ∈ tb) (hnr : narrow (tyX4 k) (.ref (mA d k)) = .ref (mA d k)) (hft : fits (tyX4 k) (.ref (mA d k)) = true) (hset : (moK d k).set k (.ref (mA d k)) = moK d (k + 1)) (hlen : k < (moK d k).length) (hb : (Int8.ofInt n).toInt32 = nI (mlen k)) (hMI : MI g d k H) (hS : va_S (AM d) H0 H locs) (hz : H.size = mA d k) (hl : ls[0]? = some (.val (.ref d))) (hcells : cells + 1 ≤ R.cells) (hslots : slots + mlen k ≤ R.slots)
    (d1 : decode cc pc = .ok (.aload_n 0, 1)) (d2 : decode cc (pc + 1) = .ok (.bipush n, 2)) (d3 : decode cc (pc + 1 + 2) = .ok (.newarray .int, 2)) (d4 : decode cc (pc + 1 + 2 + 2) = .ok (.putfield index, 3))
    (kk : ∀ (H1 : Heap) (locs1 : List Loc), MI g d (k + 1) H1 → H1.size = mA d k + 1 → va_S (AM d) H0 H1 locs1 → W p l e R s m args below meth c H1 locs1 (cells + 1) (slots + mlen k) Q (F0 m (pc + 1 + 2 + 2 + 3) ls [])) : W p l e R s m args below meth c H locs cells slots Q (F0 m pc ls []) := by
  refine lv_aload_n C.1 C.2.1 d1 rfl hl ?_
  refine lv_bipush (v := nI (mlen k)) C.1 C.2.1 d2 hb ?_
  refine nwI (a := mA d k) C w_aI (mlen_le k) hcells hslots hz d3 (fun Ha ar za oa => ?_)
  exact miP C hin2 (Or.inl hk) hk36 hcls hfin fo hnr hft hset hlen (hMI.keep (Or.inl hk) oa) (hS.gr (by omega) (fun q h => oa q (by omega))) za (Or.inl ⟨hk, by rw [ht]; exact ar⟩) d4 kk
theorem mi_Z {k : Nat} {n : Int} (C : Cx g p s m args c cc nL RX4) (hin2 : meth.name = "<init>") (hk : mAr k) (ht : mty k = 1) (hk36 : k < 36) (hcls : (TX4 k).1 = RX4) (hfin : (TX4 k).2.2.2 = true) (fo : Cond.fieldLink RX4 index RX4 (TX4 k).2.1 (TX4 k).2.2.1 ∈ tb) (hnr : narrow (tyX4 k) (.ref (mA d k)) = .ref (mA d k)) (hft : fits (tyX4 k) (.ref (mA d k)) = true) (hset : (moK d k).set k (.ref (mA d k)) = moK d (k + 1)) (hlen : k < (moK d k).length) (hb : (Int8.ofInt n).toInt32 = nI (mlen k)) (hMI : MI g d k H) (hS : va_S (AM d) H0 H locs) (hz : H.size = mA d k) (hl : ls[0]? = some (.val (.ref d))) (hcells : cells + 1 ≤ R.cells) (hslots : slots + mlen k ≤ R.slots)
    (d1 : decode cc pc = .ok (.aload_n 0, 1)) (d2 : decode cc (pc + 1) = .ok (.bipush n, 2)) (d3 : decode cc (pc + 1 + 2) = .ok (.newarray .boolean, 2)) (d4 : decode cc (pc + 1 + 2 + 2) = .ok (.putfield index, 3))
    (kk : ∀ (H1 : Heap) (locs1 : List Loc), MI g d (k + 1) H1 → H1.size = mA d k + 1 → va_S (AM d) H0 H1 locs1 → W p l e R s m args below meth c H1 locs1 (cells + 1) (slots + mlen k) Q (F0 m (pc + 1 + 2 + 2 + 3) ls [])) : W p l e R s m args below meth c H locs cells slots Q (F0 m pc ls []) := by
  refine lv_aload_n C.1 C.2.1 d1 rfl hl ?_
  refine lv_bipush (v := nI (mlen k)) C.1 C.2.1 d2 hb ?_
  refine nwZ (a := mA d k) C w_aZ (mlen_le k) hcells hslots hz d3 (fun Ha ar za oa => ?_)
  exact miP C hin2 (Or.inl hk) hk36 hcls hfin fo hnr hft hset hlen (hMI.keep (Or.inl hk) oa) (hS.gr (by omega) (fun q h => oa q (by omega))) za (Or.inl ⟨hk, by rw [ht]; exact ar⟩) d4 kk
theorem mi_F {n : Int} (C : Cx g p s m args c cc nL RX4) (hin2 : meth.name = "<init>") (fo : Cond.fieldLink RX4 index RX4 (TX4 20).2.1 (TX4 20).2.2.1 ∈ tb) (hset : (moK d 20).set 20 (.ref (mA d 20)) = moK d 21) (hlen : 20 < (moK d 20).length) (hb : (Int8.ofInt n).toInt32 = nI 6) (hMI : MI g d 20 H) (hS : va_S (AM d) H0 H locs) (hz : H.size = mA d 20) (hl : ls[0]? = some (.val (.ref d))) (hcells : cells + 1 ≤ R.cells) (hslots : slots + 6 ≤ R.slots)
    (d1 : decode cc pc = .ok (.aload_n 0, 1)) (d2 : decode cc (pc + 1) = .ok (.bipush n, 2)) (d3 : decode cc (pc + 1 + 2) = .ok (.newarray .float, 2)) (d4 : decode cc (pc + 1 + 2 + 2) = .ok (.putfield index, 3))
    (kk : ∀ (H1 : Heap) (locs1 : List Loc), MI g d 21 H1 → H1.size = mA d 20 + 1 → va_S (AM d) H0 H1 locs1 → W p l e R s m args below meth c H1 locs1 (cells + 1) (slots + 6) Q (F0 m (pc + 1 + 2 + 2 + 3) ls [])) : W p l e R s m args below meth c H locs cells slots Q (F0 m pc ls []) := by
  refine lv_aload_n C.1 C.2.1 d1 rfl hl ?_
  refine lv_bipush (v := nI 6) C.1 C.2.1 d2 hb ?_
  refine nwF (a := mA d 20) C w_aF (by decide) hcells hslots hz d3 (fun Ha ar za oa => ?_)
  exact miP (k := 20) C hin2 (Or.inr rfl) (by decide) rfl rfl fo rfl rfl hset hlen (hMI.keep (Or.inr rfl) oa) (hS.gr (by omega) (fun q h => oa q (by omega))) za (Or.inr ⟨rfl, ar⟩) d4 kk
end MIS
def mil (N : Nat) : Nat → SX
  | 0 => fun _ _ => 0
  | i + 1 => up2 (up2 (up2 (up2 (up2 (up2 (mil N i) 1 i (if i < N then nI 1 else nI 0)) 2 i (if i < N then nI 1 else nI 0)) 5 i (nI 20)) 14 i (-1)) 17 i (-1)) 32 i (-1)
theorem mil_o {N i g k : Nat} (h : g ≠ 1) (h2 : g ≠ 2) (h3 : g ≠ 5) (h4 : g ≠ 14) (h5 : g ≠ 17) (h6 : g ≠ 32) : mil N i g k = 0 := by
  induction i with
  | zero => rfl
  | succ i ih => simp only [mil]; rw [up2_f h6, up2_f h5, up2_f h4, up2_f h3, up2_f h2, up2_f h, ih]
theorem mil_32 {N i k : Nat} (h : k < i) : mil N i 32 k = -1 := by
  induction i with
  | zero => omega
  | succ i ih =>
    simp only [mil]
    by_cases e : k = i
    · subst e; rw [up2_eq]
    · rw [up2_i e, up2_f (by decide), up2_f (by decide), up2_f (by decide), up2_f (by decide), up2_f (by decide), ih (by omega)]
theorem mil_JM {N : Nat} (hN : N ≤ 6) : JM N (mil N 6) := by
  refine ⟨fun f hf => ⟨0, by omega, mil_o (by decide) (by decide) (by decide) (by decide) (by decide) (by decide)⟩, fun f hf => Or.inl (mil_32 (by omega)), fun f f2 q h1 h2 hq e => ?_⟩
  rw [mil_32 (by omega)] at e
  exact absurd e.symm (nI_nm1 (by omega))
theorem moK_done (d N : Nat) : (moK d 36).set 0 (.int (nI N)) = moF d N (fun _ _ => 0) := rfl
set_option maxHeartbeats 8000000 in
set_option maxRecDepth 100000 in
theorem k_X4_init (l : Launch) (g : GX) (d N : Nat) (hN2 : 2 ≤ N) (hN : N ≤ 6) (x : Int32) (hx : x = nI N ∨ ((x < nI 2 ∨ nI 6 < x) ∧ N = 4)) : MB l yX4_init (.code yX4_init cX4_init 3 none :: tb) (rma 4 90 33 396) g (va_at g.1 vwCl (d, .inr (4, moK d 1))) (RepM g d N (marr N (mil N 6)) z0) (AM d) (d + 1) (d + 34) [.ref d, .int x] 33 396 := by
  refine MB.start RX4 (by decide) rfl rfl (Nat.le_of_ble_eq_true rfl) (fun zp ze zs zm zb zt zc ls C hKA hr hlk hin hz hR hS hl => ?_)
  have hl : lv_has ls 3 [(0, .ref d), (1, .int x)] := hl
  refine lv_aload_n C.1 C.2.1 dX4_init_0 rfl (lv_at hl 0 rfl) ?_
  refine oI C lo_X4_1 hl.1 dX4_init_1 (by show 1 ≤ 4; decide) (by show 20 ≤ 90; decide) ?_
  have mi : MI g d 1 zs.heap := ⟨hR, fun i hi h1 => by simp only [mAr] at hi; omega, fun h => by omega⟩
  refine mi_Z (k := 1) C hin (by simp only [mAr]; decide) rfl (by decide) rfl rfl fo_X4_7 rfl rfl rfl (Nat.le_of_ble_eq_true rfl) (by decide) mi hS hz (lv_at hl 0 rfl) (by show _ ≤ 33; decide) (by show _ ≤ 396; decide) dX4_init_4 dX4_init_5 dX4_init_7 dX4_init_9 (fun H1 l1 mi sz hS => ?_)
  refine mi_Z (k := 2) C hin (by simp only [mAr]; decide) rfl (by decide) rfl rfl fo_X4_13 rfl rfl rfl (Nat.le_of_ble_eq_true rfl) (by decide) mi hS (sz.trans rfl) (lv_at hl 0 rfl) (by show _ ≤ 33; decide) (by show _ ≤ 396; decide) dX4_init_12 dX4_init_13 dX4_init_15 dX4_init_17 (fun H1 l1 mi sz hS => ?_)
  have mi : MI g d 5 H1 := ⟨mi.1, fun i hi h1 => mi.2.1 i hi (by simp only [mAr] at hi; omega), fun h => by omega⟩
  refine mi_I (k := 5) C hin (by simp only [mAr]; decide) rfl (by decide) rfl rfl fo_X4_16 rfl rfl rfl (Nat.le_of_ble_eq_true rfl) (by decide) mi hS (sz.trans rfl) (lv_at hl 0 rfl) (by show _ ≤ 33; decide) (by show _ ≤ 396; decide) dX4_init_20 dX4_init_21 dX4_init_23 dX4_init_25 (fun H1 l1 mi sz hS => ?_)
  refine mi_I (k := 6) C hin (by simp only [mAr]; decide) rfl (by decide) rfl rfl fo_X4_20 rfl rfl rfl (Nat.le_of_ble_eq_true rfl) (by decide) mi hS (sz.trans rfl) (lv_at hl 0 rfl) (by show _ ≤ 33; decide) (by show _ ≤ 396; decide) dX4_init_28 dX4_init_29 dX4_init_31 dX4_init_33 (fun H1 l1 mi sz hS => ?_)
  refine mi_I (k := 7) C hin (by simp only [mAr]; decide) rfl (by decide) rfl rfl fo_X4_23 rfl rfl rfl (Nat.le_of_ble_eq_true rfl) (by decide) mi hS (sz.trans rfl) (lv_at hl 0 rfl) (by show _ ≤ 33; decide) (by show _ ≤ 396; decide) dX4_init_36 dX4_init_37 dX4_init_39 dX4_init_41 (fun H1 l1 mi sz hS => ?_)
  refine mi_I (k := 8) C hin (by simp only [mAr]; decide) rfl (by decide) rfl rfl fo_X4_26 rfl rfl rfl (Nat.le_of_ble_eq_true rfl) (by decide) mi hS (sz.trans rfl) (lv_at hl 0 rfl) (by show _ ≤ 33; decide) (by show _ ≤ 396; decide) dX4_init_44 dX4_init_45 dX4_init_47 dX4_init_49 (fun H1 l1 mi sz hS => ?_)
  refine mi_I (k := 9) C hin (by simp only [mAr]; decide) rfl (by decide) rfl rfl fo_X4_29 rfl rfl rfl (Nat.le_of_ble_eq_true rfl) (by decide) mi hS (sz.trans rfl) (lv_at hl 0 rfl) (by show _ ≤ 33; decide) (by show _ ≤ 396; decide) dX4_init_52 dX4_init_53 dX4_init_55 dX4_init_57 (fun H1 l1 mi sz hS => ?_)
  refine mi_I (k := 10) C hin (by simp only [mAr]; decide) rfl (by decide) rfl rfl fo_X4_32 rfl rfl rfl (Nat.le_of_ble_eq_true rfl) (by decide) mi hS (sz.trans rfl) (lv_at hl 0 rfl) (by show _ ≤ 33; decide) (by show _ ≤ 396; decide) dX4_init_60 dX4_init_61 dX4_init_63 dX4_init_65 (fun H1 l1 mi sz hS => ?_)
  refine mi_I (k := 11) C hin (by simp only [mAr]; decide) rfl (by decide) rfl rfl fo_X4_35 rfl rfl rfl (Nat.le_of_ble_eq_true rfl) (by decide) mi hS (sz.trans rfl) (lv_at hl 0 rfl) (by show _ ≤ 33; decide) (by show _ ≤ 396; decide) dX4_init_68 dX4_init_69 dX4_init_71 dX4_init_73 (fun H1 l1 mi sz hS => ?_)
  refine mi_Z (k := 12) C hin (by simp only [mAr]; decide) rfl (by decide) rfl rfl fo_X4_38 rfl rfl rfl (Nat.le_of_ble_eq_true rfl) (by decide) mi hS (sz.trans rfl) (lv_at hl 0 rfl) (by show _ ≤ 33; decide) (by show _ ≤ 396; decide) dX4_init_76 dX4_init_77 dX4_init_79 dX4_init_81 (fun H1 l1 mi sz hS => ?_)
  refine mi_Z (k := 13) C hin (by simp only [mAr]; decide) rfl (by decide) rfl rfl fo_X4_41 rfl rfl rfl (Nat.le_of_ble_eq_true rfl) (by decide) mi hS (sz.trans rfl) (lv_at hl 0 rfl) (by show _ ≤ 33; decide) (by show _ ≤ 396; decide) dX4_init_84 dX4_init_85 dX4_init_87 dX4_init_89 (fun H1 l1 mi sz hS => ?_)
  refine mi_I (k := 14) C hin (by simp only [mAr]; decide) rfl (by decide) rfl rfl fo_X4_44 rfl rfl rfl (Nat.le_of_ble_eq_true rfl) (by decide) mi hS (sz.trans rfl) (lv_at hl 0 rfl) (by show _ ≤ 33; decide) (by show _ ≤ 396; decide) dX4_init_92 dX4_init_93 dX4_init_95 dX4_init_97 (fun H1 l1 mi sz hS => ?_)
  refine mi_I (k := 15) C hin (by simp only [mAr]; decide) rfl (by decide) rfl rfl fo_X4_47 rfl rfl rfl (Nat.le_of_ble_eq_true rfl) (by decide) mi hS (sz.trans rfl) (lv_at hl 0 rfl) (by show _ ≤ 33; decide) (by show _ ≤ 396; decide) dX4_init_100 dX4_init_101 dX4_init_103 dX4_init_105 (fun H1 l1 mi sz hS => ?_)
  refine mi_I (k := 16) C hin (by simp only [mAr]; decide) rfl (by decide) rfl rfl fo_X4_50 rfl rfl rfl (Nat.le_of_ble_eq_true rfl) (by decide) mi hS (sz.trans rfl) (lv_at hl 0 rfl) (by show _ ≤ 33; decide) (by show _ ≤ 396; decide) dX4_init_108 dX4_init_109 dX4_init_111 dX4_init_113 (fun H1 l1 mi sz hS => ?_)
  refine mi_I (k := 17) C hin (by simp only [mAr]; decide) rfl (by decide) rfl rfl fo_X4_53 rfl rfl rfl (Nat.le_of_ble_eq_true rfl) (by decide) mi hS (sz.trans rfl) (lv_at hl 0 rfl) (by show _ ≤ 33; decide) (by show _ ≤ 396; decide) dX4_init_116 dX4_init_117 dX4_init_119 dX4_init_121 (fun H1 l1 mi sz hS => ?_)
  refine mi_I (k := 18) C hin (by simp only [mAr]; decide) rfl (by decide) rfl rfl fo_X4_56 rfl rfl rfl (Nat.le_of_ble_eq_true rfl) (by decide) mi hS (sz.trans rfl) (lv_at hl 0 rfl) (by show _ ≤ 33; decide) (by show _ ≤ 396; decide) dX4_init_124 dX4_init_125 dX4_init_127 dX4_init_129 (fun H1 l1 mi sz hS => ?_)
  refine mi_I (k := 19) C hin (by simp only [mAr]; decide) rfl (by decide) rfl rfl fo_X4_59 rfl rfl rfl (Nat.le_of_ble_eq_true rfl) (by decide) mi hS (sz.trans rfl) (lv_at hl 0 rfl) (by show _ ≤ 33; decide) (by show _ ≤ 396; decide) dX4_init_132 dX4_init_133 dX4_init_135 dX4_init_137 (fun H1 l1 mi sz hS => ?_)
  refine mi_F C hin fo_X4_62 rfl (Nat.le_of_ble_eq_true rfl) (by decide) mi hS (sz.trans rfl) (lv_at hl 0 rfl) (by show _ ≤ 33; decide) (by show _ ≤ 396; decide) dX4_init_140 dX4_init_141 dX4_init_143 dX4_init_145 (fun H1 l1 mi sz hS => ?_)
  refine mi_I (k := 21) C hin (by simp only [mAr]; decide) rfl (by decide) rfl rfl fo_X4_66 rfl rfl rfl (Nat.le_of_ble_eq_true rfl) (by decide) mi hS (sz.trans rfl) (lv_at hl 0 rfl) (by show _ ≤ 33; decide) (by show _ ≤ 396; decide) dX4_init_148 dX4_init_149 dX4_init_151 dX4_init_153 (fun H1 l1 mi sz hS => ?_)
  refine mi_I (k := 22) C hin (by simp only [mAr]; decide) rfl (by decide) rfl rfl fo_X4_69 rfl rfl rfl (Nat.le_of_ble_eq_true rfl) (by decide) mi hS (sz.trans rfl) (lv_at hl 0 rfl) (by show _ ≤ 33; decide) (by show _ ≤ 396; decide) dX4_init_156 dX4_init_157 dX4_init_159 dX4_init_161 (fun H1 l1 mi sz hS => ?_)
  refine mi_I (k := 23) C hin (by simp only [mAr]; decide) rfl (by decide) rfl rfl fo_X4_72 rfl rfl rfl (Nat.le_of_ble_eq_true rfl) (by decide) mi hS (sz.trans rfl) (lv_at hl 0 rfl) (by show _ ≤ 33; decide) (by show _ ≤ 396; decide) dX4_init_164 dX4_init_165 dX4_init_167 dX4_init_169 (fun H1 l1 mi sz hS => ?_)
  refine mi_I (k := 24) C hin (by simp only [mAr]; decide) rfl (by decide) rfl rfl fo_X4_75 rfl rfl rfl (Nat.le_of_ble_eq_true rfl) (by decide) mi hS (sz.trans rfl) (lv_at hl 0 rfl) (by show _ ≤ 33; decide) (by show _ ≤ 396; decide) dX4_init_172 dX4_init_173 dX4_init_175 dX4_init_177 (fun H1 l1 mi sz hS => ?_)
  refine mi_I (k := 25) C hin (by simp only [mAr]; decide) rfl (by decide) rfl rfl fo_X4_78 rfl rfl rfl (Nat.le_of_ble_eq_true rfl) (by decide) mi hS (sz.trans rfl) (lv_at hl 0 rfl) (by show _ ≤ 33; decide) (by show _ ≤ 396; decide) dX4_init_180 dX4_init_181 dX4_init_183 dX4_init_185 (fun H1 l1 mi sz hS => ?_)
  refine mi_I (k := 26) C hin (by simp only [mAr]; decide) rfl (by decide) rfl rfl fo_X4_81 rfl rfl rfl (Nat.le_of_ble_eq_true rfl) (by decide) mi hS (sz.trans rfl) (lv_at hl 0 rfl) (by show _ ≤ 33; decide) (by show _ ≤ 396; decide) dX4_init_188 dX4_init_189 dX4_init_191 dX4_init_193 (fun H1 l1 mi sz hS => ?_)
  refine mi_Z (k := 27) C hin (by simp only [mAr]; decide) rfl (by decide) rfl rfl fo_X4_84 rfl rfl rfl (Nat.le_of_ble_eq_true rfl) (by decide) mi hS (sz.trans rfl) (lv_at hl 0 rfl) (by show _ ≤ 33; decide) (by show _ ≤ 396; decide) dX4_init_196 dX4_init_197 dX4_init_199 dX4_init_201 (fun H1 l1 mi sz hS => ?_)
  refine mi_I (k := 28) C hin (by simp only [mAr]; decide) rfl (by decide) rfl rfl fo_X4_87 rfl rfl rfl (Nat.le_of_ble_eq_true rfl) (by decide) mi hS (sz.trans rfl) (lv_at hl 0 rfl) (by show _ ≤ 33; decide) (by show _ ≤ 396; decide) dX4_init_204 dX4_init_205 dX4_init_207 dX4_init_209 (fun H1 l1 mi sz hS => ?_)
  refine mi_I (k := 29) C hin (by simp only [mAr]; decide) rfl (by decide) rfl rfl fo_X4_90 rfl rfl rfl (Nat.le_of_ble_eq_true rfl) (by decide) mi hS (sz.trans rfl) (lv_at hl 0 rfl) (by show _ ≤ 33; decide) (by show _ ≤ 396; decide) dX4_init_212 dX4_init_213 dX4_init_215 dX4_init_217 (fun H1 l1 mi sz hS => ?_)
  refine mi_I (k := 30) C hin (by simp only [mAr]; decide) rfl (by decide) rfl rfl fo_X4_93 rfl rfl rfl (Nat.le_of_ble_eq_true rfl) (by decide) mi hS (sz.trans rfl) (lv_at hl 0 rfl) (by show _ ≤ 33; decide) (by show _ ≤ 396; decide) dX4_init_220 dX4_init_221 dX4_init_223 dX4_init_225 (fun H1 l1 mi sz hS => ?_)
  refine mi_I (k := 31) C hin (by simp only [mAr]; decide) rfl (by decide) rfl rfl fo_X4_96 rfl rfl rfl (Nat.le_of_ble_eq_true rfl) (by decide) mi hS (sz.trans rfl) (lv_at hl 0 rfl) (by show _ ≤ 33; decide) (by show _ ≤ 396; decide) dX4_init_228 dX4_init_229 dX4_init_231 dX4_init_233 (fun H1 l1 mi sz hS => ?_)
  refine mi_I (k := 32) C hin (by simp only [mAr]; decide) rfl (by decide) rfl rfl fo_X4_99 rfl rfl rfl (Nat.le_of_ble_eq_true rfl) (by decide) mi hS (sz.trans rfl) (lv_at hl 0 rfl) (by show _ ≤ 33; decide) (by show _ ≤ 396; decide) dX4_init_236 dX4_init_237 dX4_init_239 dX4_init_241 (fun H1 l1 mi sz hS => ?_)
  refine mi_I (k := 33) C hin (by simp only [mAr]; decide) rfl (by decide) rfl rfl fo_X4_102 rfl rfl rfl (Nat.le_of_ble_eq_true rfl) (by decide) mi hS (sz.trans rfl) (lv_at hl 0 rfl) (by show _ ≤ 33; decide) (by show _ ≤ 396; decide) dX4_init_244 dX4_init_245 dX4_init_247 dX4_init_249 (fun H1 l1 mi sz hS => ?_)
  refine mi_I (k := 34) C hin (by simp only [mAr]; decide) rfl (by decide) rfl rfl fo_X4_105 rfl rfl rfl (Nat.le_of_ble_eq_true rfl) (by decide) mi hS (sz.trans rfl) (lv_at hl 0 rfl) (by show _ ≤ 33; decide) (by show _ ≤ 396; decide) dX4_init_252 dX4_init_253 dX4_init_255 dX4_init_257 (fun H1 l1 mi sz hS => ?_)
  refine mi_I (k := 35) C hin (by simp only [mAr]; decide) rfl (by decide) rfl rfl fo_X4_108 rfl rfl rfl (Nat.le_of_ble_eq_true rfl) (by decide) mi hS (sz.trans rfl) (lv_at hl 0 rfl) (by show _ ≤ 33; decide) (by show _ ≤ 396; decide) dX4_init_260 dX4_init_261 dX4_init_263 dX4_init_265 (fun H1 l1 mi sz hS => ?_)
  refine W.widen (k := 33) (n := 396) (by decide) (by decide) ?_
  have hz6 : H1.size = d + 34 := sz.trans rfl
  have tail : W zp l ze (rma 4 90 33 396) zs zm ([.ref d, .int x] : List Value).toArray zb zt zc H1 l1 33 396 (MQ zb (QB (RepM g d N (marr N (mil N 6)) z0) (AM d) (d + 34)) ([.ref d, .int x] : List Value).toArray zs 33 396 (AM d)) (F0 zm 285 ls [.int (nI N), .ref d]) := by
    refine pfF C in4 tyX4 tyX4_ok nmX4 rfl mi.1 0 (by decide) rfl rfl rfl hin fo_X4_111 rfl rfl (Nat.le_of_ble_eq_true rfl) dX4_init_285 (fun H n1 ob z1 o1 => ?_)
    have hR : RepM g d N (mil N 0) z0 H := ⟨ob, fun i hi => at_eq (mi.2.1 i hi (by simp only [mAr] at hi; omega)) (o1 _ (mA_in (Or.inl hi)).2) rfl, at_eq (mi.2.2 (by decide)) (o1 _ (mA_in (Or.inr rfl)).2) rfl⟩
    have hS := hS.put (k := n1) z1 o1 (by simp only [AM]; omega)
    have hsz : H.size = d + 34 := by omega
    refine lv_iconst (v := nI 0) C.1 C.2.1 dX4_init_288 (by decide) ?_
    refine lv_istore_n (lv' := [(2, .int (nI 0)), (0, .ref d), (1, .int x)]) C.1 C.2.1 dX4_init_289 rfl hl (by decide) rfl (fun ls hl => ?_)
    have lp : ∀ (zn : Nat) (i : Nat) (H : Heap) (locs : List Loc) (ls : Array Slot), 6 - i < zn → (i ≤ 6) → RepM g d N (mil N i) z0 H → va_S (AM d) zs.heap H locs → lv_has ls 3 [(2, .int (nI i)), (0, .ref d), (1, .int x)] → W zp l ze (rma 4 90 33 396) zs zm ([.ref d, .int x] : List Value).toArray zb zt zc H locs 33 396 (MQ zb (QB (RepM g d N (marr N (mil N 6)) z0) (AM d) (d + 34)) ([.ref d, .int x] : List Value).toArray zs 33 396 (AM d)) (F0 zm 290 ls []) := by
      intro zn
      induction zn with
      | zero => intro i H locs ls hm; exact absurd hm (Nat.not_lt_zero _)
      | succ zn ih =>
        intro i H locs ls hm hi hR hS hl
        obtain ⟨zM1, ezM1⟩ : ∃ y, y = mil N i := ⟨_, rfl⟩
        rw [← ezM1] at hR
        refine lv_iload_n C.1 C.2.1 dX4_init_290 rfl (lv_at hl 0 rfl) ?_
        refine lv_bipush (v := nI 6) C.1 C.2.1 dX4_init_291 (by decide) ?_
        refine lv_icmp_ge (tgt := 369) C.1 C.2.1 dX4_init_293 (by decide) (fun c293 => ?_) (fun c293 => ?_)
        · skip
          have c293 : 6 ≤ i := (nI_leI (a := 6) (b := i) (by omega) (by omega)).mp c293
          have hi6 : i = 6 := by omega
          rw [ezM1, hi6] at hR
          refine lv_aload_n C.1 C.2.1 dX4_init_369 rfl (lv_at hl 1 rfl) ?_
          have hge : d + 34 ≤ H.size := by have := hR.2.1 35 (by simp only [mAr]; decide); have h2 : d + 33 < H.size := va_at.lt this; omega
          refine cxV (b := d) (As := []) (rest := []) (ci := 4) (q := (RX4, TX4, 36)) C (k_X4_arrange l g d N (mil N 6) z0 hN (mil_JM hN)) cf_X4_arrange ml_X4_115 ⟨by decide, by decide⟩ ⟨rfl, rfl⟩ rfl hR.1 rfl hl.1 rfl (Nat.le_of_ble_eq_true rfl) dX4_init_370 hR ⟨by decide, by decide⟩ hS (fun _ h => h) (fun H2 locs2 hR2 hS2 hz2 _ => ?_)
          exact endB C hr hlk hR2 (by omega) hS2 dX4_init_373
        · skip
          have c293 : ¬ (6 ≤ i) := mt (nI_leI (a := 6) (b := i) (by omega) (by omega)).mpr c293
          refine lv_aload_n C.1 C.2.1 dX4_init_296 rfl (lv_at hl 1 rfl) ?_
          refine m_get C hR 1 (by decide) rfl fl_X4_7 (v := .ref (mA d 1)) rfl dX4_init_297 ?_
          refine lv_iload_n C.1 C.2.1 dX4_init_300 rfl (lv_at hl 0 rfl) ?_
          refine lv_iload_n C.1 C.2.1 dX4_init_301 rfl (lv_at hl 0 rfl) ?_
          refine lv_aload_n C.1 C.2.1 dX4_init_302 rfl (lv_at hl 1 rfl) ?_
          refine m_get C hR 0 (by decide) rfl fl_X4_111 (v := .int (nI N)) rfl dX4_init_303 ?_
          refine lv_icmp_ge (tgt := 313) C.1 C.2.1 dX4_init_306 (by decide) (fun c306 => ?_) (fun c306 => ?_)
          · skip
            have c306 : N ≤ i := (nI_leI (a := N) (b := i) (by omega) (by omega)).mp c306
            refine lv_iconst (v := nI 0) C.1 C.2.1 dX4_init_313 (by decide) ?_
            refine mZ_st (k := 1) (j := i) C hR hS (by simp only [mAr]; decide) rfl (show i < 6 by omega) (Or.inl rfl) dX4_init_314 (fun zM2 H locs ezM2 hR hS => ?_)
            refine lv_aload_n C.1 C.2.1 dX4_init_315 rfl (lv_at hl 1 rfl) ?_
            refine m_get C hR 2 (by decide) rfl fl_X4_13 (v := .ref (mA d 2)) rfl dX4_init_316 ?_
            refine lv_iload_n C.1 C.2.1 dX4_init_319 rfl (lv_at hl 0 rfl) ?_
            refine lv_iload_n C.1 C.2.1 dX4_init_320 rfl (lv_at hl 0 rfl) ?_
            refine lv_aload_n C.1 C.2.1 dX4_init_321 rfl (lv_at hl 1 rfl) ?_
            refine m_get C hR 0 (by decide) rfl fl_X4_111 (v := .int (nI N)) rfl dX4_init_322 ?_
            refine lv_icmp_ge (tgt := 332) C.1 C.2.1 dX4_init_325 (by decide) (fun c325 => ?_) (fun c325 => ?_)
            · skip
              have c325 : N ≤ i := (nI_leI (a := N) (b := i) (by omega) (by omega)).mp c325
              refine lv_iconst (v := nI 0) C.1 C.2.1 dX4_init_332 (by decide) ?_
              refine mZ_st (k := 2) (j := i) C hR hS (by simp only [mAr]; decide) rfl (show i < 6 by omega) (Or.inl rfl) dX4_init_333 (fun zM3 H locs ezM3 hR hS => ?_)
              refine lv_aload_n C.1 C.2.1 dX4_init_334 rfl (lv_at hl 1 rfl) ?_
              refine m_get C hR 5 (by decide) rfl fl_X4_16 (v := .ref (mA d 5)) rfl dX4_init_335 ?_
              refine lv_iload_n C.1 C.2.1 dX4_init_338 rfl (lv_at hl 0 rfl) ?_
              refine lv_bipush (v := nI 20) C.1 C.2.1 dX4_init_339 (by decide) ?_
              refine mI_st (k := 5) (j := i) C hR hS (by simp only [mAr]; decide) rfl (show i < 6 by omega) dX4_init_341 (fun zM4 H locs ezM4 hR hS => ?_)
              refine lv_aload_n C.1 C.2.1 dX4_init_342 rfl (lv_at hl 1 rfl) ?_
              refine m_get C hR 14 (by decide) rfl fl_X4_44 (v := .ref (mA d 14)) rfl dX4_init_343 ?_
              refine lv_iload_n C.1 C.2.1 dX4_init_346 rfl (lv_at hl 0 rfl) ?_
              refine lv_iconst (v := (-1)) C.1 C.2.1 dX4_init_347 (by decide) ?_
              refine mI_st (k := 14) (j := i) C hR hS (by simp only [mAr]; decide) rfl (show i < 6 by omega) dX4_init_348 (fun zM5 H locs ezM5 hR hS => ?_)
              refine lv_aload_n C.1 C.2.1 dX4_init_349 rfl (lv_at hl 1 rfl) ?_
              refine m_get C hR 17 (by decide) rfl fl_X4_53 (v := .ref (mA d 17)) rfl dX4_init_350 ?_
              refine lv_iload_n C.1 C.2.1 dX4_init_353 rfl (lv_at hl 0 rfl) ?_
              refine lv_iconst (v := (-1)) C.1 C.2.1 dX4_init_354 (by decide) ?_
              refine mI_st (k := 17) (j := i) C hR hS (by simp only [mAr]; decide) rfl (show i < 6 by omega) dX4_init_355 (fun zM6 H locs ezM6 hR hS => ?_)
              refine lv_aload_n C.1 C.2.1 dX4_init_356 rfl (lv_at hl 1 rfl) ?_
              refine m_get C hR 32 (by decide) rfl fl_X4_99 (v := .ref (mA d 32)) rfl dX4_init_357 ?_
              refine lv_iload_n C.1 C.2.1 dX4_init_360 rfl (lv_at hl 0 rfl) ?_
              refine lv_iconst (v := (-1)) C.1 C.2.1 dX4_init_361 (by decide) ?_
              refine mI_st (k := 32) (j := i) C hR hS (by simp only [mAr]; decide) rfl (show i < 6 by omega) dX4_init_362 (fun zM7 H locs ezM7 hR hS => ?_)
              refine lv_iinc (v := nI (i + 1)) (lv' := [(2, .int (nI (i + 1))), (0, .ref d), (1, .int x)]) C.1 C.2.1 dX4_init_363 hl (k := 0) rfl (nI_add _ _) (by decide) rfl (fun ls hl => ?_)
              refine lv_goto (tgt := 290) C.1 C.2.1 dX4_init_366 (by decide) ?_
              have hif : (if i < N then nI 1 else nI 0) = nI 0 := if_neg (by omega)
              have hb : mil N (i + 1) = zM7 := by simp only [mil]; rw [hif, ezM7, ezM6, ezM5, ezM4, ezM3, ezM2, ezM1]
              rw [← hb] at hR
              exact ih (i + 1) H locs ls (by omega) (by omega) hR hS (lv_sub hl [0, 1, 2] rfl)
            · skip
              have hqc325 : ¬ (N ≤ i) := mt (nI_leI (a := N) (b := i) (by omega) (by omega)).mpr c325
              exact absurd c306 hqc325
          · skip
            have c306 : ¬ (N ≤ i) := mt (nI_leI (a := N) (b := i) (by omega) (by omega)).mpr c306
            refine lv_iconst (v := nI 1) C.1 C.2.1 dX4_init_309 (by decide) ?_
            refine lv_goto (tgt := 314) C.1 C.2.1 dX4_init_310 (by decide) ?_
            refine mZ_st (k := 1) (j := i) C hR hS (by simp only [mAr]; decide) rfl (show i < 6 by omega) (Or.inr rfl) dX4_init_314 (fun zM8 H locs ezM8 hR hS => ?_)
            refine lv_aload_n C.1 C.2.1 dX4_init_315 rfl (lv_at hl 1 rfl) ?_
            refine m_get C hR 2 (by decide) rfl fl_X4_13 (v := .ref (mA d 2)) rfl dX4_init_316 ?_
            refine lv_iload_n C.1 C.2.1 dX4_init_319 rfl (lv_at hl 0 rfl) ?_
            refine lv_iload_n C.1 C.2.1 dX4_init_320 rfl (lv_at hl 0 rfl) ?_
            refine lv_aload_n C.1 C.2.1 dX4_init_321 rfl (lv_at hl 1 rfl) ?_
            refine m_get C hR 0 (by decide) rfl fl_X4_111 (v := .int (nI N)) rfl dX4_init_322 ?_
            refine lv_icmp_ge (tgt := 332) C.1 C.2.1 dX4_init_325 (by decide) (fun c325 => ?_) (fun c325 => ?_)
            · skip
              have hqc325 : N ≤ i := (nI_leI (a := N) (b := i) (by omega) (by omega)).mp c325
              exact absurd hqc325 c306
            · skip
              have c325 : ¬ (N ≤ i) := mt (nI_leI (a := N) (b := i) (by omega) (by omega)).mpr c325
              refine lv_iconst (v := nI 1) C.1 C.2.1 dX4_init_328 (by decide) ?_
              refine lv_goto (tgt := 333) C.1 C.2.1 dX4_init_329 (by decide) ?_
              refine mZ_st (k := 2) (j := i) C hR hS (by simp only [mAr]; decide) rfl (show i < 6 by omega) (Or.inr rfl) dX4_init_333 (fun zM9 H locs ezM9 hR hS => ?_)
              refine lv_aload_n C.1 C.2.1 dX4_init_334 rfl (lv_at hl 1 rfl) ?_
              refine m_get C hR 5 (by decide) rfl fl_X4_16 (v := .ref (mA d 5)) rfl dX4_init_335 ?_
              refine lv_iload_n C.1 C.2.1 dX4_init_338 rfl (lv_at hl 0 rfl) ?_
              refine lv_bipush (v := nI 20) C.1 C.2.1 dX4_init_339 (by decide) ?_
              refine mI_st (k := 5) (j := i) C hR hS (by simp only [mAr]; decide) rfl (show i < 6 by omega) dX4_init_341 (fun zM10 H locs ezM10 hR hS => ?_)
              refine lv_aload_n C.1 C.2.1 dX4_init_342 rfl (lv_at hl 1 rfl) ?_
              refine m_get C hR 14 (by decide) rfl fl_X4_44 (v := .ref (mA d 14)) rfl dX4_init_343 ?_
              refine lv_iload_n C.1 C.2.1 dX4_init_346 rfl (lv_at hl 0 rfl) ?_
              refine lv_iconst (v := (-1)) C.1 C.2.1 dX4_init_347 (by decide) ?_
              refine mI_st (k := 14) (j := i) C hR hS (by simp only [mAr]; decide) rfl (show i < 6 by omega) dX4_init_348 (fun zM11 H locs ezM11 hR hS => ?_)
              refine lv_aload_n C.1 C.2.1 dX4_init_349 rfl (lv_at hl 1 rfl) ?_
              refine m_get C hR 17 (by decide) rfl fl_X4_53 (v := .ref (mA d 17)) rfl dX4_init_350 ?_
              refine lv_iload_n C.1 C.2.1 dX4_init_353 rfl (lv_at hl 0 rfl) ?_
              refine lv_iconst (v := (-1)) C.1 C.2.1 dX4_init_354 (by decide) ?_
              refine mI_st (k := 17) (j := i) C hR hS (by simp only [mAr]; decide) rfl (show i < 6 by omega) dX4_init_355 (fun zM12 H locs ezM12 hR hS => ?_)
              refine lv_aload_n C.1 C.2.1 dX4_init_356 rfl (lv_at hl 1 rfl) ?_
              refine m_get C hR 32 (by decide) rfl fl_X4_99 (v := .ref (mA d 32)) rfl dX4_init_357 ?_
              refine lv_iload_n C.1 C.2.1 dX4_init_360 rfl (lv_at hl 0 rfl) ?_
              refine lv_iconst (v := (-1)) C.1 C.2.1 dX4_init_361 (by decide) ?_
              refine mI_st (k := 32) (j := i) C hR hS (by simp only [mAr]; decide) rfl (show i < 6 by omega) dX4_init_362 (fun zM13 H locs ezM13 hR hS => ?_)
              refine lv_iinc (v := nI (i + 1)) (lv' := [(2, .int (nI (i + 1))), (0, .ref d), (1, .int x)]) C.1 C.2.1 dX4_init_363 hl (k := 0) rfl (nI_add _ _) (by decide) rfl (fun ls hl => ?_)
              refine lv_goto (tgt := 290) C.1 C.2.1 dX4_init_366 (by decide) ?_
              have hif : (if i < N then nI 1 else nI 0) = nI 1 := if_pos (by omega)
              have hb : mil N (i + 1) = zM13 := by simp only [mil]; rw [hif, ezM13, ezM12, ezM11, ezM10, ezM9, ezM8, ezM1]
              rw [← hb] at hR
              exact ih (i + 1) H locs ls (by omega) (by omega) hR hS (lv_sub hl [0, 1, 2] rfl)
    exact lp _ 0 _ _ ls (Nat.lt_succ_self _) (by omega) hR hS (lv_sub hl [0, 1, 2] rfl)
  refine lv_aload_n C.1 C.2.1 dX4_init_268 rfl (lv_at hl 0 rfl) ?_
  refine lv_iload_n C.1 C.2.1 dX4_init_269 rfl (lv_at hl 1 rfl) ?_
  refine lv_iconst (v := nI 2) C.1 C.2.1 dX4_init_270 (by decide) ?_
  have four : ¬ (¬ x < nI 2 ∧ ¬ nI 6 < x) → nI 4 = nI N := fun h => by
    rcases hx with hx | hx
    · exfalso; apply h; rw [hx]; exact ⟨nI_nlt (by omega) (by omega), nI_nlt (by omega) (by omega)⟩
    · rw [hx.2]
  have same : ¬ x < nI 2 → ¬ nI 6 < x → x = nI N := fun h1 h2 => by
    rcases hx with hx | hx
    · exact hx
    · exact absurd hx.1 (fun h => h.elim h1 h2)
  refine lv_icmp_lt (tgt := 284) C.1 C.2.1 dX4_init_271 (by decide) (fun c7 => ?_) (fun c7 => ?_)
  · refine lv_iconst (v := nI N) C.1 C.2.1 dX4_init_284 ((show Int32.ofInt 4 = nI 4 from rfl).trans (four (fun h => h.1 c7))) ?_
    exact tail
  · refine lv_iload_n C.1 C.2.1 dX4_init_274 rfl (lv_at hl 1 rfl) ?_
    refine lv_bipush (v := nI 6) C.1 C.2.1 dX4_init_275 (by decide) ?_
    refine lv_icmp_gt (tgt := 284) C.1 C.2.1 dX4_init_277 (by decide) (fun c13 => ?_) (fun c13 => ?_)
    · refine lv_iconst (v := nI N) C.1 C.2.1 dX4_init_284 ((show Int32.ofInt 4 = nI 4 from rfl).trans (four (fun h => h.2 c13))) ?_
      exact tail
    · refine lv_iload_n C.1 C.2.1 dX4_init_280 rfl (lv_at hl 1 rfl) ?_
      refine lv_goto (tgt := 285) C.1 C.2.1 dX4_init_281 (by decide) ?_
      refine lv_re (y := nI N) (same c7 c13) ?_
      exact tail
