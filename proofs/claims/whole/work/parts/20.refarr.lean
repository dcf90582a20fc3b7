def mallj (N : Nat) (M : SX) : Nat → Bool
  | 0 => true
  | i + 1 => mallj N M i && mjn N M i
def mr1 (M : SX) : Nat → SX
  | 0 => M
  | i + 1 => up2 (mr1 M i) 34 i (-1)
theorem mr1_o {M : SX} {i g k : Nat} (h : g ≠ 34) : mr1 M i g k = M g k := by
  induction i with
  | zero => rfl
  | succ i ih => simp only [mr1]; rw [up2_f h, ih]
def JM (N : Nat) (M : SX) : Prop := (∀ f, f < N → ∃ L, L ≤ N ∧ M 25 f = nI L) ∧ (∀ f, f < N → M 32 f = -1 ∨ ∃ q z, q < 12 ∧ 1 ≤ z ∧ z ≤ 5 ∧ M 32 f = nI q ∧ M 21 q = nI z) ∧ ∀ f f2 q, f < N → f2 < N → q < 12 → M 32 f = nI q → M 32 f2 = nI q → f = f2
def mclm (M : SX) (f : Nat) : SX := if M 32 f = -1 then s_X4_claim_i M f (nv (M 25 f)) else s_X4_claim_s M f (nv (M 32 f)) (nv (M 21 (nv (M 32 f)))) (nv (M 25 f))
theorem kx_claim (l : Launch) (g : GX) (d N : Nat) (M : SX) (G : FX) (hN : N ≤ 6) (hJ : JM N M) (f : Nat) (hf : f < N) : MR l yX4_claim (.code yX4_claim cX4_claim 3 none :: tb) (rmk 1 23) g (RepM g d N M G) (RepM g d N (mclm M f) G) (AM d) [.ref d, .int (nI f)] none := by
  obtain ⟨L, hL, h25⟩ := hJ.1 f hf
  unfold mclm
  rw [h25, nv_nI (by omega)]
  rcases hJ.2.1 f hf with h | ⟨q, z, h1, h2, h3, h4, h5⟩
  · rw [if_pos h]
    exact k_X4_claim_i l g d N M G hN f hf L hL h25 h
  · rw [if_neg (by rw [h4]; exact nI_nm1 (by omega)), h4, nv_nI (by omega), h5, nv_nI (by omega)]
    exact k_X4_claim_s l g d N M G hN f q z hf h1 h2 h3 h4 h5 L hL h25
theorem clm_i_o {M : SX} {f L g k : Nat} (h : g ≠ 28) (h1 : g ≠ 29) (h2 : g ≠ 31) : s_X4_claim_i M f L g k = M g k := by
  unfold s_X4_claim_i
  rw [up2_f h2, up2_f h1, up2_f h]
theorem clm_s_o {M : SX} {f q z L g k : Nat} (h : g ≠ 28) (h1 : g ≠ 29) (h2 : g ≠ 31) (h3 : g < 19 ∨ 24 < g) (h4 : g ≠ 32) : s_X4_claim_s M f q z L g k = M g k := by
  unfold s_X4_claim_s
  rw [up2_f h2, up2_f h1, up2_f h, mto_o (by omega) h4, up2_f (by omega)]
theorem mclm_o {M : SX} {f g k : Nat} (h : g ≠ 28) (h1 : g ≠ 29) (h2 : g ≠ 31) (h3 : g < 19 ∨ 24 < g) (h4 : g ≠ 32) : mclm M f g k = M g k := by
  unfold mclm
  split
  · exact clm_i_o h h1 h2
  · exact clm_s_o h h1 h2 h3 h4
theorem mclm_JM {N : Nat} {M : SX} (hN : N ≤ 6) (hJ : JM N M) {f : Nat} (hf : f < N) : JM N (mclm M f) ∧ mclm M f 32 f = -1 := by
  unfold mclm
  rcases hJ.2.1 f hf with h | ⟨q, z, h1, h2, h3, h4, h5⟩
  · rw [if_pos h]
    have e : ∀ g k, g = 25 ∨ g = 32 ∨ g = 21 → s_X4_claim_i M f (nv (M 25 f)) g k = M g k := fun g k hg => clm_i_o (by omega) (by omega) (by omega)
    refine ⟨⟨fun a ha => ?_, fun a ha => ?_, fun a b q ha hb hq => ?_⟩, ?_⟩
    · rw [e 25 a (by decide)]; exact hJ.1 a ha
    · rw [e 32 a (by decide)]
      rcases hJ.2.1 a ha with w | ⟨q, z, w1, w2, w3, w4, w5⟩
      · exact Or.inl w
      · exact Or.inr ⟨q, z, w1, w2, w3, w4, by rw [e 21 q (by decide)]; exact w5⟩
    · rw [e 32 a (by decide), e 32 b (by decide)]; exact hJ.2.2 a b q ha hb hq
    · rw [e 32 f (by decide)]; exact h
  · rw [if_neg (by rw [h4]; exact nI_nm1 (by omega)), h4, nv_nI (by omega), h5, nv_nI (by omega)]
    have e25 : ∀ k, s_X4_claim_s M f q z (nv (M 25 f)) 25 k = M 25 k := fun k => clm_s_o (by decide) (by decide) (by decide) (by decide) (by decide)
    have e32 : ∀ k, s_X4_claim_s M f q z (nv (M 25 f)) 32 k = if k = f then -1 else M 32 k := fun k => by
      unfold s_X4_claim_s
      rw [up2_f (by decide), up2_f (by decide), up2_f (by decide)]
      unfold mto
      by_cases hk : k = f
      · subst hk; rw [up2_eq, if_pos rfl]
      · rw [up2_i hk, if_neg hk, mshf_o (by decide), up2_f (by decide), up2_f (by decide)]
    have e21 : ∀ k, k ≠ q → s_X4_claim_s M f q z (nv (M 25 f)) 21 k = M 21 k := fun k hk => by
      unfold s_X4_claim_s
      rw [up2_f (by decide), up2_f (by decide), up2_f (by decide)]
      unfold mto
      rw [up2_f (by decide), mshf_o (by decide), up2_i hk, up2_f (by decide)]
    refine ⟨⟨fun a ha => ?_, fun a ha => ?_, fun a b r ha hb hr => ?_⟩, ?_⟩
    · rw [e25]; exact hJ.1 a ha
    · rw [e32]
      by_cases haf : a = f
      · rw [if_pos haf]; exact Or.inl rfl
      · rw [if_neg haf]
        rcases hJ.2.1 a ha with w | ⟨r, y, w1, w2, w3, w4, w5⟩
        · exact Or.inl w
        · refine Or.inr ⟨r, y, w1, w2, w3, w4, ?_⟩
          rw [e21 r (fun hrq => haf (hJ.2.2 a f q ha hf h1 (by rw [w4, hrq]) h4))]
          exact w5
    · rw [e32, e32]
      by_cases haf : a = f
      · rw [if_pos haf]; intro w; exact absurd w.symm (nI_nm1 (by omega))
      · rw [if_neg haf]
        by_cases hbf : b = f
        · rw [if_pos hbf]; intro _ w; exact absurd w.symm (nI_nm1 (by omega))
        · rw [if_neg hbf]; exact hJ.2.2 a b r ha hb hr
    · rw [e32, if_pos rfl]
theorem up_JM {N : Nat} {M : SX} {g i : Nat} {v : Int32} (h : JM N M) (h1 : g ≠ 25) (h2 : g ≠ 32) (h3 : g ≠ 21) : JM N (up2 M g i v) := by
  refine ⟨fun a ha => ?_, fun a ha => ?_, fun a b q ha hb hq => ?_⟩
  · rw [up2_f (Ne.symm h1)]; exact h.1 a ha
  · rw [up2_f (Ne.symm h2)]
    rcases h.2.1 a ha with w | ⟨q, z, w1, w2, w3, w4, w5⟩
    · exact Or.inl w
    · exact Or.inr ⟨q, z, w1, w2, w3, w4, by rw [up2_f (Ne.symm h3)]; exact w5⟩
  · rw [up2_f (Ne.symm h2), up2_f (Ne.symm h2)]; exact h.2.2 a b q ha hb hq
theorem up25_JM {N : Nat} {M : SX} {i L : Nat} (h : JM N M) (hL : L ≤ N) : JM N (up2 M 25 i (nI L)) := by
  refine ⟨fun a ha => ?_, fun a ha => ?_, fun a b q ha hb hq => ?_⟩
  · by_cases e : a = i
    · subst e; rw [up2_eq]; exact ⟨L, hL, rfl⟩
    · rw [up2_i e]; exact h.1 a ha
  · rw [up2_f (by decide)]
    rcases h.2.1 a ha with w | ⟨q, z, w1, w2, w3, w4, w5⟩
    · exact Or.inl w
    · exact Or.inr ⟨q, z, w1, w2, w3, w4, by rw [up2_f (by decide)]; exact w5⟩
  · rw [up2_f (by decide), up2_f (by decide)]; exact h.2.2 a b q ha hb hq
def mrw (N : Nat) (M : SX) (f : Nat) : Nat → SX
  | 0 => M
  | i + 1 => up2 (mrw N M f i) 26 (6 * f + i) (nI (wr N (f + i)))
theorem mrw_o {N : Nat} {M : SX} {f i g k : Nat} (h : g ≠ 26) : mrw N M f i g k = M g k := by
  induction i with
  | zero => rfl
  | succ i ih => simp only [mrw]; rw [up2_f h, ih]
def mro (N : Nat) (M : SX) (f : Nat) : Nat → SX
  | 0 => M
  | i + 1 => up2 (mro N M f i) 34 (wr N (f + i)) (nI f)
theorem mro_o {N : Nat} {M : SX} {f i g k : Nat} (h : g ≠ 34) : mro N M f i g k = M g k := by
  induction i with
  | zero => rfl
  | succ i ih => simp only [mro]; rw [up2_f h, ih]
theorem mfr_JM {N : Nat} {M : SX} {f i : Nat} (h : JM N M) : JM N (mfr N M f i) := by
  induction i with
  | zero => exact h
  | succ i ih => exact up_JM ih (by decide) (by decide) (by decide)
theorem mrw_JM {N : Nat} {M : SX} {f i : Nat} (h : JM N M) : JM N (mrw N M f i) := by
  induction i with
  | zero => exact h
  | succ i ih => exact up_JM ih (by decide) (by decide) (by decide)
theorem mro_JM {N : Nat} {M : SX} {f i : Nat} (h : JM N M) : JM N (mro N M f i) := by
  induction i with
  | zero => exact h
  | succ i ih => exact up_JM ih (by decide) (by decide) (by decide)
theorem mr1_JM {N : Nat} {M : SX} {i : Nat} (h : JM N M) : JM N (mr1 M i) := by
  induction i with
  | zero => exact h
  | succ i ih => exact up_JM ih (by decide) (by decide) (by decide)
def mfst (N : Nat) (A : Bool) (M : SX) (i : Nat) : Bool := if A = true then (i == 0) else !(M 1 i == 0) && !(mjn N M (pv N i))
def mln (N : Nat) (A : Bool) (M : SX) (i : Nat) : Nat := if mfst N A M i = true then mrowN N M 6 1 i else 0
def mnew (N : Nat) (M : SX) (i n : Nat) (cl : Int32) : SX := up2 (mrw N (up2 (up2 (mclm M i) 25 i (nI n)) 27 i cl) i n) 28 i (nI (2 * n))
def mst1 (N : Nat) (M : SX) (i n : Nat) (cl : Int32) : SX := mro N (if asB M i n cl = true then M else mnew N M i n cl) i n
def mstep (N : Nat) (A : Bool) (M : SX) (i : Nat) : SX := mst1 N (mfr N M i (mln N A M i)) i (mln N A M i) (bI (A && mfst N A M i))
def marl (N : Nat) (A : Bool) (M : SX) : Nat → SX
  | 0 => M
  | i + 1 => mstep N A (marl N A M i) i
def marr (N : Nat) (M : SX) : SX := marl N (mallj N M N) (mr1 M N) N
theorem mln_le {N : Nat} {A : Bool} {M : SX} {i : Nat} (h : 1 ≤ N) : mln N A M i ≤ N := by
  unfold mln
  split
  · exact (mrowN_le 6 1 i h).1
  · omega
theorem mnew_JM {N : Nat} {M : SX} (hN : N ≤ 6) (hJ : JM N M) {f n : Nat} {cl : Int32} (hf : f < N) (hn : n ≤ N) : JM N (mnew N M f n cl) := by
  unfold mnew
  exact up_JM (mrw_JM (up_JM (up25_JM (mclm_JM hN hJ hf).1 hn) (by decide) (by decide) (by decide))) (by decide) (by decide) (by decide)
theorem mst1_JM {N : Nat} {M : SX} (hN : N ≤ 6) (hJ : JM N M) {f n : Nat} {cl : Int32} (hf : f < N) (hn : n ≤ N) : JM N (mst1 N M f n cl) := by
  unfold mst1
  refine mro_JM ?_
  split
  · exact hJ
  · exact mnew_JM hN hJ hf hn
theorem mstep_JM {N : Nat} {A : Bool} {M : SX} (hN : N ≤ 6) (hJ : JM N M) {i : Nat} (hi : i < N) : JM N (mstep N A M i) := mst1_JM hN (mfr_JM hJ) hi (mln_le (by omega))
set_option maxHeartbeats 4000000 in
set_option maxRecDepth 100000 in
theorem k_X4_arrange (l : Launch) (g : GX) (d N : Nat) (M : SX) (G : FX) (hN : N ≤ 6) (hJ : JM N M) : MR l yX4_arrange (.code yX4_arrange cX4_arrange 7 none :: tb) (rmk 3 64) g (RepM g d N M G) (RepM g d N (marr N M) G) (AM d) [.ref d] none := by
  refine MR.start RX4 (by decide) rfl (Nat.le_of_ble_eq_true rfl) (fun zp ze zs zm zb zt zc ls C hr hlk hR hS hl => ?_)
  have hl : lv_has ls 7 [(0, .ref d)] := hl
  refine lv_iconst (v := nI 1) C.1 C.2.1 dX4_arrange_0 (by decide) ?_
  refine lv_istore_n (lv' := [(1, .int (nI 1)), (0, .ref d)]) C.1 C.2.1 dX4_arrange_1 rfl hl (by decide) rfl (fun ls hl => ?_)
  refine lv_iconst (v := nI 0) C.1 C.2.1 dX4_arrange_2 (by decide) ?_
  refine lv_istore_n (lv' := [(2, .int (nI 0)), (1, .int (nI 1)), (0, .ref d)]) C.1 C.2.1 dX4_arrange_3 rfl hl (by decide) rfl (fun ls hl => ?_)
  have lp : ∀ (zn : Nat) (a1 : Nat) (H : Heap) (locs : List Loc) (ls : Array Slot), N - a1 < zn → (a1 ≤ N) → RepM g d N M G H → va_S (AM d) zs.heap H locs → lv_has ls 7 [(2, .int (nI a1)), (1, .int (bI (mallj N M a1))), (0, .ref d)] → W zp l ze (rmk 3 64) zs zm ([.ref d] : List Value).toArray zb zt zc H locs 0 0 (MQ zb (QR (RepM g d N (marr N M) G) (AM d) none) ([.ref d] : List Value).toArray zs 0 0 (AM d)) (F0 zm 4 ls []) := by
    intro zn
    induction zn with
    | zero => intro a1 H locs ls hm; exact absurd hm (Nat.not_lt_zero _)
    | succ zn ih =>
      intro a1 H locs ls hm hi hR hS hl
      refine lv_iload_n C.1 C.2.1 dX4_arrange_4 rfl (lv_at hl 0 rfl) ?_
      refine lv_aload_n C.1 C.2.1 dX4_arrange_5 rfl (lv_at hl 2 rfl) ?_
      refine m_get C hR 0 (by decide) rfl fl_X4_111 (v := .int (nI N)) rfl dX4_arrange_6 ?_
      refine lv_icmp_ge (tgt := 36) C.1 C.2.1 dX4_arrange_9 (by decide) (fun c9 => ?_) (fun c9 => ?_)
      · skip
        have c9 : N ≤ a1 := (nI_leI (a := N) (b := a1) (by omega) (by omega)).mp c9
        refine lv_iconst (v := nI 0) C.1 C.2.1 dX4_arrange_36 (by decide) ?_
        refine lv_istore_n (lv' := [(2, .int (nI 0)), (1, .int (bI (mallj N M a1))), (0, .ref d)]) C.1 C.2.1 dX4_arrange_37 rfl hl (by decide) rfl (fun ls hl => ?_)
        have hiN : a1 = N := by omega
        rw [hiN] at hl
        have lp2 : ∀ (zn2 : Nat) (a2 : Nat) (H : Heap) (locs : List Loc) (ls : Array Slot), N - a2 < zn2 → (a2 ≤ N) → RepM g d N (mr1 M a2) G H → va_S (AM d) zs.heap H locs → lv_has ls 7 [(2, .int (nI a2)), (1, .int (bI (mallj N M N))), (0, .ref d)] → W zp l ze (rmk 3 64) zs zm ([.ref d] : List Value).toArray zb zt zc H locs 0 0 (MQ zb (QR (RepM g d N (marr N M) G) (AM d) none) ([.ref d] : List Value).toArray zs 0 0 (AM d)) (F0 zm 38 ls []) := by
          intro zn2
          induction zn2 with
          | zero => intro a2 H locs ls hm; exact absurd hm (Nat.not_lt_zero _)
          | succ zn2 ih2 =>
            intro a2 H locs ls hm hi hR hS hl
            obtain ⟨zM1, ezM1⟩ : ∃ y, y = mr1 M a2 := ⟨_, rfl⟩
            rw [← ezM1] at hR
            refine lv_iload_n C.1 C.2.1 dX4_arrange_38 rfl (lv_at hl 0 rfl) ?_
            refine lv_aload_n C.1 C.2.1 dX4_arrange_39 rfl (lv_at hl 2 rfl) ?_
            refine m_get C hR 0 (by decide) rfl fl_X4_111 (v := .int (nI N)) rfl dX4_arrange_40 ?_
            refine lv_icmp_ge (tgt := 59) C.1 C.2.1 dX4_arrange_43 (by decide) (fun c43 => ?_) (fun c43 => ?_)
            · skip
              have c43 : N ≤ a2 := (nI_leI (a := N) (b := a2) (by omega) (by omega)).mp c43
              refine lv_iconst (v := nI 0) C.1 C.2.1 dX4_arrange_59 (by decide) ?_
              refine lv_istore_n (lv' := [(2, .int (nI 0)), (1, .int (bI (mallj N M N))), (0, .ref d)]) C.1 C.2.1 dX4_arrange_60 rfl hl (by decide) rfl (fun ls hl => ?_)
              have hiN3 : a2 = N := by omega
              rw [hiN3] at ezM1
              have h0 : marl N (mallj N M N) (mr1 M N) 0 = zM1 := by rw [ezM1]; rfl
              rw [← h0] at hR
              have hJ0 : JM N (marl N (mallj N M N) (mr1 M N) 0) := mr1_JM hJ
              have lp3 : ∀ (zn3 : Nat) (i : Nat) (H : Heap) (locs : List Loc) (ls : Array Slot), N - i < zn3 → (i ≤ N) → (JM N (marl N (mallj N M N) (mr1 M N) i)) → RepM g d N (marl N (mallj N M N) (mr1 M N) i) G H → va_S (AM d) zs.heap H locs → lv_has ls 7 [(2, .int (nI i)), (1, .int (bI (mallj N M N))), (0, .ref d)] → W zp l ze (rmk 3 64) zs zm ([.ref d] : List Value).toArray zb zt zc H locs 0 0 (MQ zb (QR (RepM g d N (marr N M) G) (AM d) none) ([.ref d] : List Value).toArray zs 0 0 (AM d)) (F0 zm 61 ls []) := by
                intro zn3
                induction zn3 with
                | zero => intro i H locs ls hm; exact absurd hm (Nat.not_lt_zero _)
                | succ zn3 ih3 =>
                  intro i H locs ls hm hi hJ hR hS hl
                  obtain ⟨zM2, ezM2⟩ : ∃ y, y = marl N (mallj N M N) (mr1 M N) i := ⟨_, rfl⟩
                  rw [← ezM2] at hR
                  rw [← ezM2] at hJ
                  refine lv_iload_n C.1 C.2.1 dX4_arrange_61 rfl (lv_at hl 0 rfl) ?_
                  refine lv_aload_n C.1 C.2.1 dX4_arrange_62 rfl (lv_at hl 2 rfl) ?_
                  refine m_get C hR 0 (by decide) rfl fl_X4_111 (v := .int (nI N)) rfl dX4_arrange_63 ?_
                  refine lv_icmp_ge (tgt := 266) C.1 C.2.1 dX4_arrange_66 (by decide) (fun c66 => ?_) (fun c66 => ?_)
                  · skip
                    have c66 : N ≤ i := (nI_leI (a := N) (b := i) (by omega) (by omega)).mp c66
                    have hs : marr N M = zM2 := by rw [ezM2, show i = N by omega]; rfl
                    rw [hs]
                    exact endv C hr hlk hR hS dX4_arrange_266
                  · skip
                    have c66 : ¬ (N ≤ i) := mt (nI_leI (a := N) (b := i) (by omega) (by omega)).mpr c66
                    refine lv_iload_n C.1 C.2.1 dX4_arrange_69 rfl (lv_at hl 1 rfl) ?_
                    refine lv_if_eq (tgt := 85) C.1 C.2.1 dX4_arrange_70 (by decide) (fun c70 => ?_) (fun c70 => ?_)
                    · skip
                      refine lv_aload_n C.1 C.2.1 dX4_arrange_85 rfl (lv_at hl 2 rfl) ?_
                      refine m_get C hR 1 (by decide) rfl fl_X4_7 (v := .ref (mA d 1)) rfl dX4_arrange_86 ?_
                      refine lv_iload_n C.1 C.2.1 dX4_arrange_89 rfl (lv_at hl 0 rfl) ?_
                      refine mZ_ld (k := 1) (j := i) C hR (by simp only [mAr]; decide) rfl (show i < 6 by omega) dX4_arrange_90 ?_
                      refine lv_if_eq (tgt := 110) C.1 C.2.1 dX4_arrange_91 (by decide) (fun c91 => ?_) (fun c91 => ?_)
                      · skip
                        refine lv_iconst (v := nI 0) C.1 C.2.1 dX4_arrange_110 (by decide) ?_
                        refine lv_istore_n (lv' := [(3, .int (nI 0)), (2, .int (nI i)), (1, .int (bI (mallj N M N))), (0, .ref d)]) C.1 C.2.1 dX4_arrange_111 rfl hl (by decide) rfl (fun ls hl => ?_)
                        refine lv_iload_n C.1 C.2.1 dX4_arrange_112 rfl (lv_at hl 0 rfl) ?_
                        refine lv_if_eq (tgt := 124) C.1 C.2.1 dX4_arrange_113 (by decide) (fun c113 => ?_) (fun c113 => ?_)
                        · skip
                          refine lv_iconst (v := nI 0) C.1 C.2.1 dX4_arrange_124 (by decide) ?_
                          refine lv_istore (lv' := [(4, .int (nI 0)), (3, .int (nI 0)), (2, .int (nI i)), (1, .int (bI (mallj N M N))), (0, .ref d)]) C.1 C.2.1 dX4_arrange_125 hl (by decide) rfl (fun ls hl => ?_)
                          have eF : mfst N (mallj N M N) zM2 i = false := (if_neg (by rw [bI_0.mp c70]; decide)).trans (by rw [beq_iff_eq.mpr c91]; rfl)
                          have eN : mln N (mallj N M N) zM2 i = 0 := if_neg (by rw [eF]; decide)
                          have hnN : 0 ≤ N := by rw [← eN]; exact mln_le (by omega)
                          have eC : bI (mallj N M N && mfst N (mallj N M N) zM2 i) = nI 0 := by rw [eF, bI_0.mp c70]; rfl
                          have eM : mfr N zM2 i (mln N (mallj N M N) zM2 i) = zM2 := by rw [eN]; rfl
                          refine lv_aload_n C.1 C.2.1 dX4_arrange_127 rfl (lv_at hl 4 rfl) ?_
                          refine lv_iload_n C.1 C.2.1 dX4_arrange_128 rfl (lv_at hl 2 rfl) ?_
                          refine lv_iload C.1 C.2.1 dX4_arrange_129 (lv_at hl 0 rfl) ?_
                          refine lv_iload_n C.1 C.2.1 dX4_arrange_131 rfl (lv_at hl 3 rfl) ?_
                          refine lv_if_eq (tgt := 143) C.1 C.2.1 dX4_arrange_132 (by decide) (fun c132 => ?_) (fun c132 => ?_)
                          · skip
                            refine lv_iconst (v := nI 0) C.1 C.2.1 dX4_arrange_143 (by decide) ?_
                            refine cxV (b := d) (As := [.int (nI i), .int (nI 0), .int (nI 0)]) (rest := []) (ci := 4) (q := (RX4, TX4, 36)) C (k_X4_isAsBefore l g d N zM2 G hN i (0) (by omega) (by omega) (nI 0)) cf_X4_isAsBefore ml_X4_136 ⟨by decide, by decide⟩ ⟨rfl, rfl⟩ rfl (hR.1) rfl hl.1 rfl (Nat.le_of_ble_eq_true rfl) dX4_arrange_144 hR ⟨Nat.zero_le _, Nat.zero_le _⟩ hS (fun _ h => h) (fun H locs hR hS _ _ => ?_)
                            simp only [Option.toList, List.cons_append, List.nil_append]
                            refine lv_istore (lv' := [(5, .int (bI (asB zM2 i 0 (nI 0)))), (4, .int (nI 0)), (3, .int (nI 0)), (2, .int (nI i)), (1, .int (bI (mallj N M N))), (0, .ref d)]) C.1 C.2.1 dX4_arrange_147 hl (by decide) rfl (fun ls hl => ?_)
                            refine lv_iload C.1 C.2.1 dX4_arrange_149 (lv_at hl 0 rfl) ?_
                            refine lv_if_ne (tgt := 231) C.1 C.2.1 dX4_arrange_151 (by decide) (fun c151 => ?_) (fun c151 => ?_)
                            · skip
                              refine lv_iconst (v := nI 0) C.1 C.2.1 dX4_arrange_231 (by decide) ?_
                              refine lv_istore (lv' := [(6, .int (nI 0)), (5, .int (bI (asB zM2 i 0 (nI 0)))), (4, .int (nI 0)), (3, .int (nI 0)), (2, .int (nI i)), (1, .int (bI (mallj N M N))), (0, .ref d)]) C.1 C.2.1 dX4_arrange_232 hl (by decide) rfl (fun ls hl => ?_)
                              have hXn : zM2 = zM2 := rfl
                              have hAS : asB zM2 i (0) (nI 0) = true := bI_n0.mp c151
                              have hIf : (if asB zM2 i (0) (nI 0) = true then zM2 else mnew N zM2 i (0) (nI 0)) = zM2 := (if_pos hAS).trans hXn
                              refine lv_iload C.1 C.2.1 dX4_arrange_234 (lv_at hl 0 rfl) ?_
                              refine lv_iload C.1 C.2.1 dX4_arrange_236 (lv_at hl 2 rfl) ?_
                              refine lv_icmp_ge (tgt := 260) C.1 C.2.1 dX4_arrange_238 (by decide) (fun c238 => ?_) (fun c238 => ?_)
                              · skip
                                refine lv_iinc (v := nI (i + 1)) (lv' := [(2, .int (nI (i + 1))), (6, .int (nI 0)), (5, .int (bI (asB zM2 i 0 (nI 0)))), (4, .int (nI 0)), (3, .int (nI 0)), (1, .int (bI (mallj N M N))), (0, .ref d)]) C.1 C.2.1 dX4_arrange_260 hl (k := 4) rfl (nI_add _ _) (by decide) rfl (fun ls hl => ?_)
                                refine lv_goto (tgt := 61) C.1 C.2.1 dX4_arrange_263 (by decide) ?_
                                have hb : marl N (mallj N M N) (mr1 M N) (i + 1) = zM2 := by
                                  show mstep N (mallj N M N) (marl N (mallj N M N) (mr1 M N) i) i = zM2
                                  rw [← ezM2]
                                  exact by unfold mstep mst1; rw [eC, eM, eN, hIf]; rfl
                                have hJ2 : JM N (marl N (mallj N M N) (mr1 M N) (i + 1)) := mstep_JM hN (by rw [← ezM2]; exact hJ) (by omega)
                                rw [← hb] at hR
                                exact ih3 (i + 1) H locs ls (by omega) (by omega) hJ2 hR hS (lv_sub hl [0, 5, 6] rfl)
                              · skip
                                exact absurd c238 (by decide)
                            · skip
                              refine lv_aload_n C.1 C.2.1 dX4_arrange_154 rfl (lv_at hl 5 rfl) ?_
                              refine lv_iload_n C.1 C.2.1 dX4_arrange_155 rfl (lv_at hl 3 rfl) ?_
                              refine cxV (b := d) (As := [.int (nI i)]) (rest := []) (ci := 4) (q := (RX4, TX4, 36)) C (kx_claim l g d N zM2 G hN (hJ) i (by omega)) cf_X4_claim ml_X4_140 ⟨by decide, by decide⟩ ⟨rfl, rfl⟩ rfl (hR.1) rfl hl.1 rfl (Nat.le_of_ble_eq_true rfl) dX4_arrange_156 hR ⟨Nat.zero_le _, Nat.zero_le _⟩ hS (fun _ h => h) (fun H locs hR hS _ _ => ?_)
                              obtain ⟨zM3, ezM3⟩ : ∃ y, y = mclm zM2 i := ⟨_, rfl⟩
                              rw [← ezM3] at hR
                              simp only [Option.toList, List.nil_append]
                              refine lv_aload_n C.1 C.2.1 dX4_arrange_159 rfl (lv_at hl 5 rfl) ?_
                              refine m_get C hR 25 (by decide) rfl fl_X4_78 (v := .ref (mA d 25)) rfl dX4_arrange_160 ?_
                              refine lv_iload_n C.1 C.2.1 dX4_arrange_163 rfl (lv_at hl 3 rfl) ?_
                              refine lv_iload C.1 C.2.1 dX4_arrange_164 (lv_at hl 1 rfl) ?_
                              refine mI_st (k := 25) (j := i) C hR hS (by simp only [mAr]; decide) rfl (show i < 6 by omega) dX4_arrange_166 (fun zM4 H locs ezM4 hR hS => ?_)
                              refine lv_aload_n C.1 C.2.1 dX4_arrange_167 rfl (lv_at hl 5 rfl) ?_
                              refine m_get C hR 27 (by decide) rfl fl_X4_84 (v := .ref (mA d 27)) rfl dX4_arrange_168 ?_
                              refine lv_iload_n C.1 C.2.1 dX4_arrange_171 rfl (lv_at hl 3 rfl) ?_
                              refine lv_iload_n C.1 C.2.1 dX4_arrange_172 rfl (lv_at hl 4 rfl) ?_
                              refine lv_if_eq (tgt := 184) C.1 C.2.1 dX4_arrange_173 (by decide) (fun c173 => ?_) (fun c173 => ?_)
                              · skip
                                refine lv_iconst (v := nI 0) C.1 C.2.1 dX4_arrange_184 (by decide) ?_
                                refine mZ_st (k := 27) (j := i) C hR hS (by simp only [mAr]; decide) rfl (show i < 6 by omega) (Or.inl rfl) dX4_arrange_185 (fun zM5 H locs ezM5 hR hS => ?_)
                                refine lv_iconst (v := nI 0) C.1 C.2.1 dX4_arrange_186 (by decide) ?_
                                refine lv_istore (lv' := [(6, .int (nI 0)), (5, .int (bI (asB zM2 i 0 (nI 0)))), (4, .int (nI 0)), (3, .int (nI 0)), (2, .int (nI i)), (1, .int (bI (mallj N M N))), (0, .ref d)]) C.1 C.2.1 dX4_arrange_187 hl (by decide) rfl (fun ls hl => ?_)
                                refine lv_iload C.1 C.2.1 dX4_arrange_189 (lv_at hl 0 rfl) ?_
                                refine lv_iload C.1 C.2.1 dX4_arrange_191 (lv_at hl 2 rfl) ?_
                                refine lv_icmp_ge (tgt := 221) C.1 C.2.1 dX4_arrange_193 (by decide) (fun c193 => ?_) (fun c193 => ?_)
                                · skip
                                  refine lv_aload_n C.1 C.2.1 dX4_arrange_221 rfl (lv_at hl 6 rfl) ?_
                                  refine m_get C hR 28 (by decide) rfl fl_X4_87 (v := .ref (mA d 28)) rfl dX4_arrange_222 ?_
                                  refine lv_iload_n C.1 C.2.1 dX4_arrange_225 rfl (lv_at hl 4 rfl) ?_
                                  refine lv_iconst (v := nI 2) C.1 C.2.1 dX4_arrange_226 (by decide) ?_
                                  refine lv_iload C.1 C.2.1 dX4_arrange_227 (lv_at hl 2 rfl) ?_
                                  refine n_imul (z := 2 * 0) C dX4_arrange_229 (by omega) ?_
                                  refine mI_st (k := 28) (j := i) C hR hS (by simp only [mAr]; decide) rfl (show i < 6 by omega) dX4_arrange_230 (fun zM6 H locs ezM6 hR hS => ?_)
                                  refine lv_iconst (v := nI 0) C.1 C.2.1 dX4_arrange_231 (by decide) ?_
                                  refine lv_istore (lv' := [(6, .int (nI 0)), (5, .int (bI (asB zM2 i 0 (nI 0)))), (4, .int (nI 0)), (3, .int (nI 0)), (2, .int (nI i)), (1, .int (bI (mallj N M N))), (0, .ref d)]) C.1 C.2.1 dX4_arrange_232 hl (by decide) rfl (fun ls hl => ?_)
                                  have hXn : mnew N zM2 i (0) (nI 0) = zM6 := by rw [ezM6, ezM5, ezM4, ezM3]; rfl
                                  have hAS : asB zM2 i (0) (nI 0) = false := bI_0.mp c151
                                  have hIf : (if asB zM2 i (0) (nI 0) = true then zM2 else mnew N zM2 i (0) (nI 0)) = zM6 := (if_neg (by rw [hAS]; decide)).trans hXn
                                  refine lv_iload C.1 C.2.1 dX4_arrange_234 (lv_at hl 0 rfl) ?_
                                  refine lv_iload C.1 C.2.1 dX4_arrange_236 (lv_at hl 2 rfl) ?_
                                  refine lv_icmp_ge (tgt := 260) C.1 C.2.1 dX4_arrange_238 (by decide) (fun c238 => ?_) (fun c238 => ?_)
                                  · skip
                                    refine lv_iinc (v := nI (i + 1)) (lv' := [(2, .int (nI (i + 1))), (6, .int (nI 0)), (5, .int (bI (asB zM2 i 0 (nI 0)))), (4, .int (nI 0)), (3, .int (nI 0)), (1, .int (bI (mallj N M N))), (0, .ref d)]) C.1 C.2.1 dX4_arrange_260 hl (k := 4) rfl (nI_add _ _) (by decide) rfl (fun ls hl => ?_)
                                    refine lv_goto (tgt := 61) C.1 C.2.1 dX4_arrange_263 (by decide) ?_
                                    have hb : marl N (mallj N M N) (mr1 M N) (i + 1) = zM6 := by
                                      show mstep N (mallj N M N) (marl N (mallj N M N) (mr1 M N) i) i = zM6
                                      rw [← ezM2]
                                      exact by unfold mstep mst1; rw [eC, eM, eN, hIf]; rfl
                                    have hJ2 : JM N (marl N (mallj N M N) (mr1 M N) (i + 1)) := mstep_JM hN (by rw [← ezM2]; exact hJ) (by omega)
                                    rw [← hb] at hR
                                    exact ih3 (i + 1) H locs ls (by omega) (by omega) hJ2 hR hS (lv_sub hl [0, 5, 6] rfl)
                                  · skip
                                    exact absurd c238 (by decide)
                                · skip
                                  exact absurd c193 (by decide)
                              · skip
                                exact absurd c70 c173
                          · skip
                            exact absurd c70 c132
                        · skip
                          exact absurd c113 (by decide)
                      · skip
                        refine lv_aload_n C.1 C.2.1 dX4_arrange_94 rfl (lv_at hl 2 rfl) ?_
                        refine lv_aload_n C.1 C.2.1 dX4_arrange_95 rfl (lv_at hl 2 rfl) ?_
                        refine lv_iload_n C.1 C.2.1 dX4_arrange_96 rfl (lv_at hl 0 rfl) ?_
                        refine cxV (b := d) (As := [.int (nI i)]) (rest := [.ref d]) (ci := 4) (q := (RX4, TX4, 36)) C (mn_previous l g d N zM2 G hN (i) (by omega)) cf_X4_previous ml_X4_130 ⟨by decide, by decide⟩ ⟨rfl, rfl⟩ rfl (hR.1) rfl hl.1 rfl (Nat.le_of_ble_eq_true rfl) dX4_arrange_97 hR ⟨Nat.zero_le _, Nat.zero_le _⟩ hS (fun _ h => h) (fun H locs hR hS _ _ => ?_)
                        simp only [Option.toList, List.cons_append, List.nil_append]
                        have hw179 := pv_lt (N := N) (j := i) (by omega)
                        refine cxV (b := d) (As := [.int (nI (pv N i))]) (rest := []) (ci := 4) (q := (RX4, TX4, 36)) C (mn_isJoined l g d N zM2 G hN (pv N i) (by omega)) cf_X4_isJoined ml_X4_122 ⟨by decide, by decide⟩ ⟨rfl, rfl⟩ rfl (hR.1) rfl hl.1 rfl (Nat.le_of_ble_eq_true rfl) dX4_arrange_100 hR ⟨Nat.zero_le _, Nat.zero_le _⟩ hS (fun _ h => h) (fun H locs hR hS _ _ => ?_)
                        simp only [Option.toList, List.cons_append, List.nil_append]
                        refine lv_if_ne (tgt := 110) C.1 C.2.1 dX4_arrange_103 (by decide) (fun c103 => ?_) (fun c103 => ?_)
                        · skip
                          refine lv_iconst (v := nI 0) C.1 C.2.1 dX4_arrange_110 (by decide) ?_
                          refine lv_istore_n (lv' := [(3, .int (nI 0)), (2, .int (nI i)), (1, .int (bI (mallj N M N))), (0, .ref d)]) C.1 C.2.1 dX4_arrange_111 rfl hl (by decide) rfl (fun ls hl => ?_)
                          refine lv_iload_n C.1 C.2.1 dX4_arrange_112 rfl (lv_at hl 0 rfl) ?_
                          refine lv_if_eq (tgt := 124) C.1 C.2.1 dX4_arrange_113 (by decide) (fun c113 => ?_) (fun c113 => ?_)
                          · skip
                            refine lv_iconst (v := nI 0) C.1 C.2.1 dX4_arrange_124 (by decide) ?_
                            refine lv_istore (lv' := [(4, .int (nI 0)), (3, .int (nI 0)), (2, .int (nI i)), (1, .int (bI (mallj N M N))), (0, .ref d)]) C.1 C.2.1 dX4_arrange_125 hl (by decide) rfl (fun ls hl => ?_)
                            have eF : mfst N (mallj N M N) zM2 i = false := (if_neg (by rw [bI_0.mp c70]; decide)).trans (by rw [bI_n0.mp c103]; exact Bool.and_false _)
                            have eN : mln N (mallj N M N) zM2 i = 0 := if_neg (by rw [eF]; decide)
                            have hnN : 0 ≤ N := by rw [← eN]; exact mln_le (by omega)
                            have eC : bI (mallj N M N && mfst N (mallj N M N) zM2 i) = nI 0 := by rw [eF, bI_0.mp c70]; rfl
                            have eM : mfr N zM2 i (mln N (mallj N M N) zM2 i) = zM2 := by rw [eN]; rfl
                            refine lv_aload_n C.1 C.2.1 dX4_arrange_127 rfl (lv_at hl 4 rfl) ?_
                            refine lv_iload_n C.1 C.2.1 dX4_arrange_128 rfl (lv_at hl 2 rfl) ?_
                            refine lv_iload C.1 C.2.1 dX4_arrange_129 (lv_at hl 0 rfl) ?_
                            refine lv_iload_n C.1 C.2.1 dX4_arrange_131 rfl (lv_at hl 3 rfl) ?_
                            refine lv_if_eq (tgt := 143) C.1 C.2.1 dX4_arrange_132 (by decide) (fun c132 => ?_) (fun c132 => ?_)
                            · skip
                              refine lv_iconst (v := nI 0) C.1 C.2.1 dX4_arrange_143 (by decide) ?_
                              refine cxV (b := d) (As := [.int (nI i), .int (nI 0), .int (nI 0)]) (rest := []) (ci := 4) (q := (RX4, TX4, 36)) C (k_X4_isAsBefore l g d N zM2 G hN i (0) (by omega) (by omega) (nI 0)) cf_X4_isAsBefore ml_X4_136 ⟨by decide, by decide⟩ ⟨rfl, rfl⟩ rfl (hR.1) rfl hl.1 rfl (Nat.le_of_ble_eq_true rfl) dX4_arrange_144 hR ⟨Nat.zero_le _, Nat.zero_le _⟩ hS (fun _ h => h) (fun H locs hR hS _ _ => ?_)
                              simp only [Option.toList, List.cons_append, List.nil_append]
                              refine lv_istore (lv' := [(5, .int (bI (asB zM2 i 0 (nI 0)))), (4, .int (nI 0)), (3, .int (nI 0)), (2, .int (nI i)), (1, .int (bI (mallj N M N))), (0, .ref d)]) C.1 C.2.1 dX4_arrange_147 hl (by decide) rfl (fun ls hl => ?_)
                              refine lv_iload C.1 C.2.1 dX4_arrange_149 (lv_at hl 0 rfl) ?_
                              refine lv_if_ne (tgt := 231) C.1 C.2.1 dX4_arrange_151 (by decide) (fun c151 => ?_) (fun c151 => ?_)
                              · skip
                                refine lv_iconst (v := nI 0) C.1 C.2.1 dX4_arrange_231 (by decide) ?_
                                refine lv_istore (lv' := [(6, .int (nI 0)), (5, .int (bI (asB zM2 i 0 (nI 0)))), (4, .int (nI 0)), (3, .int (nI 0)), (2, .int (nI i)), (1, .int (bI (mallj N M N))), (0, .ref d)]) C.1 C.2.1 dX4_arrange_232 hl (by decide) rfl (fun ls hl => ?_)
                                have hXn : zM2 = zM2 := rfl
                                have hAS : asB zM2 i (0) (nI 0) = true := bI_n0.mp c151
                                have hIf : (if asB zM2 i (0) (nI 0) = true then zM2 else mnew N zM2 i (0) (nI 0)) = zM2 := (if_pos hAS).trans hXn
                                refine lv_iload C.1 C.2.1 dX4_arrange_234 (lv_at hl 0 rfl) ?_
                                refine lv_iload C.1 C.2.1 dX4_arrange_236 (lv_at hl 2 rfl) ?_
                                refine lv_icmp_ge (tgt := 260) C.1 C.2.1 dX4_arrange_238 (by decide) (fun c238 => ?_) (fun c238 => ?_)
                                · skip
                                  refine lv_iinc (v := nI (i + 1)) (lv' := [(2, .int (nI (i + 1))), (6, .int (nI 0)), (5, .int (bI (asB zM2 i 0 (nI 0)))), (4, .int (nI 0)), (3, .int (nI 0)), (1, .int (bI (mallj N M N))), (0, .ref d)]) C.1 C.2.1 dX4_arrange_260 hl (k := 4) rfl (nI_add _ _) (by decide) rfl (fun ls hl => ?_)
                                  refine lv_goto (tgt := 61) C.1 C.2.1 dX4_arrange_263 (by decide) ?_
                                  have hb : marl N (mallj N M N) (mr1 M N) (i + 1) = zM2 := by
                                    show mstep N (mallj N M N) (marl N (mallj N M N) (mr1 M N) i) i = zM2
                                    rw [← ezM2]
                                    exact by unfold mstep mst1; rw [eC, eM, eN, hIf]; rfl
                                  have hJ2 : JM N (marl N (mallj N M N) (mr1 M N) (i + 1)) := mstep_JM hN (by rw [← ezM2]; exact hJ) (by omega)
                                  rw [← hb] at hR
                                  exact ih3 (i + 1) H locs ls (by omega) (by omega) hJ2 hR hS (lv_sub hl [0, 5, 6] rfl)
                                · skip
                                  exact absurd c238 (by decide)
                              · skip
                                refine lv_aload_n C.1 C.2.1 dX4_arrange_154 rfl (lv_at hl 5 rfl) ?_
                                refine lv_iload_n C.1 C.2.1 dX4_arrange_155 rfl (lv_at hl 3 rfl) ?_
                                refine cxV (b := d) (As := [.int (nI i)]) (rest := []) (ci := 4) (q := (RX4, TX4, 36)) C (kx_claim l g d N zM2 G hN (hJ) i (by omega)) cf_X4_claim ml_X4_140 ⟨by decide, by decide⟩ ⟨rfl, rfl⟩ rfl (hR.1) rfl hl.1 rfl (Nat.le_of_ble_eq_true rfl) dX4_arrange_156 hR ⟨Nat.zero_le _, Nat.zero_le _⟩ hS (fun _ h => h) (fun H locs hR hS _ _ => ?_)
                                obtain ⟨zM7, ezM7⟩ : ∃ y, y = mclm zM2 i := ⟨_, rfl⟩
                                rw [← ezM7] at hR
                                simp only [Option.toList, List.nil_append]
                                refine lv_aload_n C.1 C.2.1 dX4_arrange_159 rfl (lv_at hl 5 rfl) ?_
                                refine m_get C hR 25 (by decide) rfl fl_X4_78 (v := .ref (mA d 25)) rfl dX4_arrange_160 ?_
                                refine lv_iload_n C.1 C.2.1 dX4_arrange_163 rfl (lv_at hl 3 rfl) ?_
                                refine lv_iload C.1 C.2.1 dX4_arrange_164 (lv_at hl 1 rfl) ?_
                                refine mI_st (k := 25) (j := i) C hR hS (by simp only [mAr]; decide) rfl (show i < 6 by omega) dX4_arrange_166 (fun zM8 H locs ezM8 hR hS => ?_)
                                refine lv_aload_n C.1 C.2.1 dX4_arrange_167 rfl (lv_at hl 5 rfl) ?_
                                refine m_get C hR 27 (by decide) rfl fl_X4_84 (v := .ref (mA d 27)) rfl dX4_arrange_168 ?_
                                refine lv_iload_n C.1 C.2.1 dX4_arrange_171 rfl (lv_at hl 3 rfl) ?_
                                refine lv_iload_n C.1 C.2.1 dX4_arrange_172 rfl (lv_at hl 4 rfl) ?_
                                refine lv_if_eq (tgt := 184) C.1 C.2.1 dX4_arrange_173 (by decide) (fun c173 => ?_) (fun c173 => ?_)
                                · skip
                                  refine lv_iconst (v := nI 0) C.1 C.2.1 dX4_arrange_184 (by decide) ?_
                                  refine mZ_st (k := 27) (j := i) C hR hS (by simp only [mAr]; decide) rfl (show i < 6 by omega) (Or.inl rfl) dX4_arrange_185 (fun zM9 H locs ezM9 hR hS => ?_)
                                  refine lv_iconst (v := nI 0) C.1 C.2.1 dX4_arrange_186 (by decide) ?_
                                  refine lv_istore (lv' := [(6, .int (nI 0)), (5, .int (bI (asB zM2 i 0 (nI 0)))), (4, .int (nI 0)), (3, .int (nI 0)), (2, .int (nI i)), (1, .int (bI (mallj N M N))), (0, .ref d)]) C.1 C.2.1 dX4_arrange_187 hl (by decide) rfl (fun ls hl => ?_)
                                  refine lv_iload C.1 C.2.1 dX4_arrange_189 (lv_at hl 0 rfl) ?_
                                  refine lv_iload C.1 C.2.1 dX4_arrange_191 (lv_at hl 2 rfl) ?_
                                  refine lv_icmp_ge (tgt := 221) C.1 C.2.1 dX4_arrange_193 (by decide) (fun c193 => ?_) (fun c193 => ?_)
                                  · skip
                                    refine lv_aload_n C.1 C.2.1 dX4_arrange_221 rfl (lv_at hl 6 rfl) ?_
                                    refine m_get C hR 28 (by decide) rfl fl_X4_87 (v := .ref (mA d 28)) rfl dX4_arrange_222 ?_
                                    refine lv_iload_n C.1 C.2.1 dX4_arrange_225 rfl (lv_at hl 4 rfl) ?_
                                    refine lv_iconst (v := nI 2) C.1 C.2.1 dX4_arrange_226 (by decide) ?_
                                    refine lv_iload C.1 C.2.1 dX4_arrange_227 (lv_at hl 2 rfl) ?_
                                    refine n_imul (z := 2 * 0) C dX4_arrange_229 (by omega) ?_
                                    refine mI_st (k := 28) (j := i) C hR hS (by simp only [mAr]; decide) rfl (show i < 6 by omega) dX4_arrange_230 (fun zM10 H locs ezM10 hR hS => ?_)
                                    refine lv_iconst (v := nI 0) C.1 C.2.1 dX4_arrange_231 (by decide) ?_
                                    refine lv_istore (lv' := [(6, .int (nI 0)), (5, .int (bI (asB zM2 i 0 (nI 0)))), (4, .int (nI 0)), (3, .int (nI 0)), (2, .int (nI i)), (1, .int (bI (mallj N M N))), (0, .ref d)]) C.1 C.2.1 dX4_arrange_232 hl (by decide) rfl (fun ls hl => ?_)
                                    have hXn : mnew N zM2 i (0) (nI 0) = zM10 := by rw [ezM10, ezM9, ezM8, ezM7]; rfl
                                    have hAS : asB zM2 i (0) (nI 0) = false := bI_0.mp c151
                                    have hIf : (if asB zM2 i (0) (nI 0) = true then zM2 else mnew N zM2 i (0) (nI 0)) = zM10 := (if_neg (by rw [hAS]; decide)).trans hXn
                                    refine lv_iload C.1 C.2.1 dX4_arrange_234 (lv_at hl 0 rfl) ?_
                                    refine lv_iload C.1 C.2.1 dX4_arrange_236 (lv_at hl 2 rfl) ?_
                                    refine lv_icmp_ge (tgt := 260) C.1 C.2.1 dX4_arrange_238 (by decide) (fun c238 => ?_) (fun c238 => ?_)
                                    · skip
                                      refine lv_iinc (v := nI (i + 1)) (lv' := [(2, .int (nI (i + 1))), (6, .int (nI 0)), (5, .int (bI (asB zM2 i 0 (nI 0)))), (4, .int (nI 0)), (3, .int (nI 0)), (1, .int (bI (mallj N M N))), (0, .ref d)]) C.1 C.2.1 dX4_arrange_260 hl (k := 4) rfl (nI_add _ _) (by decide) rfl (fun ls hl => ?_)
                                      refine lv_goto (tgt := 61) C.1 C.2.1 dX4_arrange_263 (by decide) ?_
                                      have hb : marl N (mallj N M N) (mr1 M N) (i + 1) = zM10 := by
                                        show mstep N (mallj N M N) (marl N (mallj N M N) (mr1 M N) i) i = zM10
                                        rw [← ezM2]
                                        exact by unfold mstep mst1; rw [eC, eM, eN, hIf]; rfl
                                      have hJ2 : JM N (marl N (mallj N M N) (mr1 M N) (i + 1)) := mstep_JM hN (by rw [← ezM2]; exact hJ) (by omega)
                                      rw [← hb] at hR
                                      exact ih3 (i + 1) H locs ls (by omega) (by omega) hJ2 hR hS (lv_sub hl [0, 5, 6] rfl)
                                    · skip
                                      exact absurd c238 (by decide)
                                  · skip
                                    exact absurd c193 (by decide)
                                · skip
                                  exact absurd c70 c173
                            · skip
                              exact absurd c70 c132
                          · skip
                            exact absurd c113 (by decide)
                        · skip
                          refine lv_iconst (v := nI 1) C.1 C.2.1 dX4_arrange_106 (by decide) ?_
                          refine lv_goto (tgt := 111) C.1 C.2.1 dX4_arrange_107 (by decide) ?_
                          refine lv_istore_n (lv' := [(3, .int (nI 1)), (2, .int (nI i)), (1, .int (bI (mallj N M N))), (0, .ref d)]) C.1 C.2.1 dX4_arrange_111 rfl hl (by decide) rfl (fun ls hl => ?_)
                          refine lv_iload_n C.1 C.2.1 dX4_arrange_112 rfl (lv_at hl 0 rfl) ?_
                          refine lv_if_eq (tgt := 124) C.1 C.2.1 dX4_arrange_113 (by decide) (fun c113 => ?_) (fun c113 => ?_)
                          · skip
                            exact absurd c113 (by decide)
                          · skip
                            refine lv_aload_n C.1 C.2.1 dX4_arrange_116 rfl (lv_at hl 3 rfl) ?_
                            refine lv_iload_n C.1 C.2.1 dX4_arrange_117 rfl (lv_at hl 1 rfl) ?_
                            refine cxV (b := d) (As := [.int (nI i)]) (rest := []) (ci := 4) (q := (RX4, TX4, 36)) C (k_X4_follow l g d N zM2 G hN i (by omega)) cf_X4_follow ml_X4_133 ⟨by decide, by decide⟩ ⟨rfl, rfl⟩ rfl (hR.1) rfl hl.1 rfl (Nat.le_of_ble_eq_true rfl) dX4_arrange_118 hR ⟨Nat.zero_le _, Nat.zero_le _⟩ hS (fun _ h => h) (fun H locs hR hS _ _ => ?_)
                            obtain ⟨zM11, ezM11⟩ : ∃ y, y = mfr N zM2 i (mrowN N zM2 6 1 i) := ⟨_, rfl⟩
                            rw [← ezM11] at hR
                            simp only [Option.toList, List.cons_append, List.nil_append]
                            have hrn := mrowN_le (N := N) (M := zM2) 6 1 i (by omega)
                            refine lv_goto (tgt := 125) C.1 C.2.1 dX4_arrange_121 (by decide) ?_
                            refine lv_istore (lv' := [(4, .int (nI (mrowN N zM2 6 1 i))), (3, .int (nI 1)), (2, .int (nI i)), (1, .int (bI (mallj N M N))), (0, .ref d)]) C.1 C.2.1 dX4_arrange_125 hl (by decide) rfl (fun ls hl => ?_)
                            have eF : mfst N (mallj N M N) zM2 i = true := (if_neg (by rw [bI_0.mp c70]; decide)).trans (by rw [beq_eq_false_iff_ne.mpr (show zM2 1 i ≠ 0 from c91), bI_0.mp c103]; rfl)
                            have eN : mln N (mallj N M N) zM2 i = mrowN N zM2 6 1 i := if_pos eF
                            have hnN : mrowN N zM2 6 1 i ≤ N := by rw [← eN]; exact mln_le (by omega)
                            have eC : bI (mallj N M N && mfst N (mallj N M N) zM2 i) = nI 0 := by rw [eF, bI_0.mp c70]; rfl
                            have eM : mfr N zM2 i (mln N (mallj N M N) zM2 i) = zM11 := by rw [eN, ezM11]
                            refine lv_aload_n C.1 C.2.1 dX4_arrange_127 rfl (lv_at hl 4 rfl) ?_
                            refine lv_iload_n C.1 C.2.1 dX4_arrange_128 rfl (lv_at hl 2 rfl) ?_
                            refine lv_iload C.1 C.2.1 dX4_arrange_129 (lv_at hl 0 rfl) ?_
                            refine lv_iload_n C.1 C.2.1 dX4_arrange_131 rfl (lv_at hl 3 rfl) ?_
                            refine lv_if_eq (tgt := 143) C.1 C.2.1 dX4_arrange_132 (by decide) (fun c132 => ?_) (fun c132 => ?_)
                            · skip
                              refine lv_iconst (v := nI 0) C.1 C.2.1 dX4_arrange_143 (by decide) ?_
                              refine cxV (b := d) (As := [.int (nI i), .int (nI (mrowN N zM2 6 1 i)), .int (nI 0)]) (rest := []) (ci := 4) (q := (RX4, TX4, 36)) C (k_X4_isAsBefore l g d N zM11 G hN i (mrowN N zM2 6 1 i) (by omega) (by omega) (nI 0)) cf_X4_isAsBefore ml_X4_136 ⟨by decide, by decide⟩ ⟨rfl, rfl⟩ rfl (hR.1) rfl hl.1 rfl (Nat.le_of_ble_eq_true rfl) dX4_arrange_144 hR ⟨Nat.zero_le _, Nat.zero_le _⟩ hS (fun _ h => h) (fun H locs hR hS _ _ => ?_)
                              simp only [Option.toList, List.cons_append, List.nil_append]
                              refine lv_istore (lv' := [(5, .int (bI (asB zM11 i (mrowN N zM2 6 1 i) (nI 0)))), (4, .int (nI (mrowN N zM2 6 1 i))), (3, .int (nI 1)), (2, .int (nI i)), (1, .int (bI (mallj N M N))), (0, .ref d)]) C.1 C.2.1 dX4_arrange_147 hl (by decide) rfl (fun ls hl => ?_)
                              refine lv_iload C.1 C.2.1 dX4_arrange_149 (lv_at hl 0 rfl) ?_
                              refine lv_if_ne (tgt := 231) C.1 C.2.1 dX4_arrange_151 (by decide) (fun c151 => ?_) (fun c151 => ?_)
                              · skip
                                rw [ezM11] at c151
                                refine lv_iconst (v := nI 0) C.1 C.2.1 dX4_arrange_231 (by decide) ?_
                                refine lv_istore (lv' := [(6, .int (nI 0)), (5, .int (bI (asB zM11 i (mrowN N zM2 6 1 i) (nI 0)))), (4, .int (nI (mrowN N zM2 6 1 i))), (3, .int (nI 1)), (2, .int (nI i)), (1, .int (bI (mallj N M N))), (0, .ref d)]) C.1 C.2.1 dX4_arrange_232 hl (by decide) rfl (fun ls hl => ?_)
                                have hXn : zM11 = zM11 := rfl
                                have hAS : asB zM11 i (mrowN N zM2 6 1 i) (nI 0) = true := by rw [ezM11]; exact bI_n0.mp c151
                                have hIf : (if asB zM11 i (mrowN N zM2 6 1 i) (nI 0) = true then zM11 else mnew N zM11 i (mrowN N zM2 6 1 i) (nI 0)) = zM11 := (if_pos hAS).trans hXn
                                have h0o : mro N zM11 i 0 = zM11 := rfl
                                rw [← h0o] at hR
                                have z35 : ∀ k, k < mrowN N zM2 6 1 i → zM11 35 k = nI (wr N (i + k)) := fun k hk => by rw [ezM11, mfr_35 hk]
                                have lp5 : ∀ (zn5 : Nat) (k2 : Nat) (H : Heap) (locs : List Loc) (ls : Array Slot), mrowN N zM2 6 1 i - k2 < zn5 → (k2 ≤ mrowN N zM2 6 1 i) → RepM g d N (mro N zM11 i k2) G H → va_S (AM d) zs.heap H locs → lv_has ls 7 [(6, .int (nI k2)), (5, .int (bI (asB zM11 i (mrowN N zM2 6 1 i) (nI 0)))), (4, .int (nI (mrowN N zM2 6 1 i))), (3, .int (nI 1)), (2, .int (nI i)), (1, .int (bI (mallj N M N))), (0, .ref d)] → W zp l ze (rmk 3 64) zs zm ([.ref d] : List Value).toArray zb zt zc H locs 0 0 (MQ zb (QR (RepM g d N (marr N M) G) (AM d) none) ([.ref d] : List Value).toArray zs 0 0 (AM d)) (F0 zm 234 ls []) := by
                                  intro zn5
                                  induction zn5 with
                                  | zero => intro k2 H locs ls hm; exact absurd hm (Nat.not_lt_zero _)
                                  | succ zn5 ih5 =>
                                    intro k2 H locs ls hm hk2 hR hS hl
                                    obtain ⟨zM12, ezM12⟩ : ∃ y, y = mro N zM11 i k2 := ⟨_, rfl⟩
                                    rw [← ezM12] at hR
                                    have g35o : ∀ k, k < mrowN N zM2 6 1 i → zM12 35 k = nI (wr N (i + k)) := fun k hk => by rw [ezM12, mro_o (by decide)]; exact z35 k hk
                                    refine lv_iload C.1 C.2.1 dX4_arrange_234 (lv_at hl 0 rfl) ?_
                                    refine lv_iload C.1 C.2.1 dX4_arrange_236 (lv_at hl 2 rfl) ?_
                                    refine lv_icmp_ge (tgt := 260) C.1 C.2.1 dX4_arrange_238 (by decide) (fun c238 => ?_) (fun c238 => ?_)
                                    · skip
                                      have c238 : mrowN N zM2 6 1 i ≤ k2 := (nI_leI (a := mrowN N zM2 6 1 i) (b := k2) (by omega) (by omega)).mp c238
                                      refine lv_iinc (v := nI (i + 1)) (lv' := [(2, .int (nI (i + 1))), (6, .int (nI k2)), (5, .int (bI (asB zM11 i (mrowN N zM2 6 1 i) (nI 0)))), (4, .int (nI (mrowN N zM2 6 1 i))), (3, .int (nI 1)), (1, .int (bI (mallj N M N))), (0, .ref d)]) C.1 C.2.1 dX4_arrange_260 hl (k := 4) rfl (nI_add _ _) (by decide) rfl (fun ls hl => ?_)
                                      refine lv_goto (tgt := 61) C.1 C.2.1 dX4_arrange_263 (by decide) ?_
                                      have hb : marl N (mallj N M N) (mr1 M N) (i + 1) = zM12 := by
                                        show mstep N (mallj N M N) (marl N (mallj N M N) (mr1 M N) i) i = zM12
                                        rw [← ezM2]
                                        exact by unfold mstep mst1; rw [eC, eM, eN, hIf, ezM12, show k2 = mrowN N zM2 6 1 i by omega]
                                      have hJ2 : JM N (marl N (mallj N M N) (mr1 M N) (i + 1)) := mstep_JM hN (by rw [← ezM2]; exact hJ) (by omega)
                                      rw [← hb] at hR
                                      exact ih3 (i + 1) H locs ls (by omega) (by omega) hJ2 hR hS (lv_sub hl [0, 5, 6] rfl)
                                    · skip
                                      have c238 : ¬ (mrowN N zM2 6 1 i ≤ k2) := mt (nI_leI (a := mrowN N zM2 6 1 i) (b := k2) (by omega) (by omega)).mpr c238
                                      have hwk2 := wr_lt (N := N) (i := i + k2) (by omega)
                                      refine lv_aload_n C.1 C.2.1 dX4_arrange_241 rfl (lv_at hl 6 rfl) ?_
                                      refine m_get C hR 34 (by decide) rfl fl_X4_105 (v := .ref (mA d 34)) rfl dX4_arrange_242 ?_
                                      refine lv_aload_n C.1 C.2.1 dX4_arrange_245 rfl (lv_at hl 6 rfl) ?_
                                      refine m_get C hR 35 (by decide) rfl fl_X4_108 (v := .ref (mA d 35)) rfl dX4_arrange_246 ?_
                                      refine lv_iload C.1 C.2.1 dX4_arrange_249 (lv_at hl 0 rfl) ?_
                                      refine mI_ld (k := 35) (j := k2) C hR (by simp only [mAr]; decide) rfl (show k2 < 6 by omega) dX4_arrange_251 ?_
                                      refine lv_re (y := nI (wr N (i + k2))) (by rw [g35o k2 (by omega)]) ?_
                                      refine lv_iload_n C.1 C.2.1 dX4_arrange_252 rfl (lv_at hl 4 rfl) ?_
                                      refine mI_st (k := 34) (j := wr N (i + k2)) C hR hS (by simp only [mAr]; decide) rfl (show wr N (i + k2) < 6 by omega) dX4_arrange_253 (fun zM13 H locs ezM13 hR hS => ?_)
                                      refine lv_iinc (v := nI (k2 + 1)) (lv' := [(6, .int (nI (k2 + 1))), (5, .int (bI (asB zM11 i (mrowN N zM2 6 1 i) (nI 0)))), (4, .int (nI (mrowN N zM2 6 1 i))), (3, .int (nI 1)), (2, .int (nI i)), (1, .int (bI (mallj N M N))), (0, .ref d)]) C.1 C.2.1 dX4_arrange_254 hl (k := 0) rfl (nI_add _ _) (by decide) rfl (fun ls hl => ?_)
                                      refine lv_goto (tgt := 234) C.1 C.2.1 dX4_arrange_257 (by decide) ?_
                                      have hbo : mro N zM11 i (k2 + 1) = zM13 := by rw [ezM13, ezM12]; rfl
                                      rw [← hbo] at hR
                                      exact ih5 (k2 + 1) H locs ls (by omega) (by omega) hR hS (lv_sub hl [0, 1, 2, 3, 4, 5, 6] rfl)
                                exact lp5 _ 0 _ _ ls (Nat.lt_succ_self _) (by omega) hR hS (lv_sub hl [0, 1, 2, 3, 4, 5, 6] rfl)
                              · skip
                                rw [ezM11] at c151
                                refine lv_aload_n C.1 C.2.1 dX4_arrange_154 rfl (lv_at hl 5 rfl) ?_
                                refine lv_iload_n C.1 C.2.1 dX4_arrange_155 rfl (lv_at hl 3 rfl) ?_
                                refine cxV (b := d) (As := [.int (nI i)]) (rest := []) (ci := 4) (q := (RX4, TX4, 36)) C (kx_claim l g d N zM11 G hN (by rw [ezM11]; exact mfr_JM hJ) i (by omega)) cf_X4_claim ml_X4_140 ⟨by decide, by decide⟩ ⟨rfl, rfl⟩ rfl (hR.1) rfl hl.1 rfl (Nat.le_of_ble_eq_true rfl) dX4_arrange_156 hR ⟨Nat.zero_le _, Nat.zero_le _⟩ hS (fun _ h => h) (fun H locs hR hS _ _ => ?_)
                                obtain ⟨zM14, ezM14⟩ : ∃ y, y = mclm zM11 i := ⟨_, rfl⟩
                                rw [← ezM14] at hR
                                simp only [Option.toList, List.nil_append]
                                refine lv_aload_n C.1 C.2.1 dX4_arrange_159 rfl (lv_at hl 5 rfl) ?_
                                refine m_get C hR 25 (by decide) rfl fl_X4_78 (v := .ref (mA d 25)) rfl dX4_arrange_160 ?_
                                refine lv_iload_n C.1 C.2.1 dX4_arrange_163 rfl (lv_at hl 3 rfl) ?_
                                refine lv_iload C.1 C.2.1 dX4_arrange_164 (lv_at hl 1 rfl) ?_
                                refine mI_st (k := 25) (j := i) C hR hS (by simp only [mAr]; decide) rfl (show i < 6 by omega) dX4_arrange_166 (fun zM15 H locs ezM15 hR hS => ?_)
                                refine lv_aload_n C.1 C.2.1 dX4_arrange_167 rfl (lv_at hl 5 rfl) ?_
                                refine m_get C hR 27 (by decide) rfl fl_X4_84 (v := .ref (mA d 27)) rfl dX4_arrange_168 ?_
                                refine lv_iload_n C.1 C.2.1 dX4_arrange_171 rfl (lv_at hl 3 rfl) ?_
                                refine lv_iload_n C.1 C.2.1 dX4_arrange_172 rfl (lv_at hl 4 rfl) ?_
                                refine lv_if_eq (tgt := 184) C.1 C.2.1 dX4_arrange_173 (by decide) (fun c173 => ?_) (fun c173 => ?_)
                                · skip
                                  refine lv_iconst (v := nI 0) C.1 C.2.1 dX4_arrange_184 (by decide) ?_
                                  refine mZ_st (k := 27) (j := i) C hR hS (by simp only [mAr]; decide) rfl (show i < 6 by omega) (Or.inl rfl) dX4_arrange_185 (fun zM16 H locs ezM16 hR hS => ?_)
                                  refine lv_iconst (v := nI 0) C.1 C.2.1 dX4_arrange_186 (by decide) ?_
                                  refine lv_istore (lv' := [(6, .int (nI 0)), (5, .int (bI (asB zM11 i (mrowN N zM2 6 1 i) (nI 0)))), (4, .int (nI (mrowN N zM2 6 1 i))), (3, .int (nI 1)), (2, .int (nI i)), (1, .int (bI (mallj N M N))), (0, .ref d)]) C.1 C.2.1 dX4_arrange_187 hl (by decide) rfl (fun ls hl => ?_)
                                  have h0r : mrw N (up2 (up2 (mclm zM11 i) 25 i (nI (mrowN N zM2 6 1 i))) 27 i (nI 0)) i 0 = zM16 := by rw [ezM16, ezM15, ezM14]; rfl
                                  rw [← h0r] at hR
                                  have lp4 : ∀ (zn4 : Nat) (k : Nat) (H : Heap) (locs : List Loc) (ls : Array Slot), mrowN N zM2 6 1 i - k < zn4 → (k ≤ mrowN N zM2 6 1 i) → RepM g d N (mrw N (up2 (up2 (mclm zM11 i) 25 i (nI (mrowN N zM2 6 1 i))) 27 i (nI 0)) i k) G H → va_S (AM d) zs.heap H locs → lv_has ls 7 [(6, .int (nI k)), (5, .int (bI (asB zM11 i (mrowN N zM2 6 1 i) (nI 0)))), (4, .int (nI (mrowN N zM2 6 1 i))), (3, .int (nI 1)), (2, .int (nI i)), (1, .int (bI (mallj N M N))), (0, .ref d)] → W zp l ze (rmk 3 64) zs zm ([.ref d] : List Value).toArray zb zt zc H locs 0 0 (MQ zb (QR (RepM g d N (marr N M) G) (AM d) none) ([.ref d] : List Value).toArray zs 0 0 (AM d)) (F0 zm 189 ls []) := by
                                    intro zn4
                                    induction zn4 with
                                    | zero => intro k H locs ls hm; exact absurd hm (Nat.not_lt_zero _)
                                    | succ zn4 ih4 =>
                                      intro k H locs ls hm hk hR hS hl
                                      obtain ⟨zM17, ezM17⟩ : ∃ y, y = mrw N (up2 (up2 (mclm zM11 i) 25 i (nI (mrowN N zM2 6 1 i))) 27 i (nI 0)) i k := ⟨_, rfl⟩
                                      rw [← ezM17] at hR
                                      have g35 : ∀ k, k < mrowN N zM2 6 1 i → zM17 35 k = nI (wr N (i + k)) := fun k hk => by rw [ezM17, mrw_o (by decide), up2_f (by decide), up2_f (by decide), mclm_o (by decide) (by decide) (by decide) (by decide) (by decide), ezM11, mfr_35 hk]
                                      refine lv_iload C.1 C.2.1 dX4_arrange_189 (lv_at hl 0 rfl) ?_
                                      refine lv_iload C.1 C.2.1 dX4_arrange_191 (lv_at hl 2 rfl) ?_
                                      refine lv_icmp_ge (tgt := 221) C.1 C.2.1 dX4_arrange_193 (by decide) (fun c193 => ?_) (fun c193 => ?_)
                                      · skip
                                        have c193 : mrowN N zM2 6 1 i ≤ k := (nI_leI (a := mrowN N zM2 6 1 i) (b := k) (by omega) (by omega)).mp c193
                                        refine lv_aload_n C.1 C.2.1 dX4_arrange_221 rfl (lv_at hl 6 rfl) ?_
                                        refine m_get C hR 28 (by decide) rfl fl_X4_87 (v := .ref (mA d 28)) rfl dX4_arrange_222 ?_
                                        refine lv_iload_n C.1 C.2.1 dX4_arrange_225 rfl (lv_at hl 4 rfl) ?_
                                        refine lv_iconst (v := nI 2) C.1 C.2.1 dX4_arrange_226 (by decide) ?_
                                        refine lv_iload C.1 C.2.1 dX4_arrange_227 (lv_at hl 2 rfl) ?_
                                        refine n_imul (z := 2 * (mrowN N zM2 6 1 i)) C dX4_arrange_229 (by omega) ?_
                                        refine mI_st (k := 28) (j := i) C hR hS (by simp only [mAr]; decide) rfl (show i < 6 by omega) dX4_arrange_230 (fun zM18 H locs ezM18 hR hS => ?_)
                                        refine lv_iconst (v := nI 0) C.1 C.2.1 dX4_arrange_231 (by decide) ?_
                                        refine lv_istore (lv' := [(6, .int (nI 0)), (5, .int (bI (asB zM11 i (mrowN N zM2 6 1 i) (nI 0)))), (4, .int (nI (mrowN N zM2 6 1 i))), (3, .int (nI 1)), (2, .int (nI i)), (1, .int (bI (mallj N M N))), (0, .ref d)]) C.1 C.2.1 dX4_arrange_232 hl (by decide) rfl (fun ls hl => ?_)
                                        have hkn : k = mrowN N zM2 6 1 i := by omega
                                        have hXn : mnew N zM11 i (mrowN N zM2 6 1 i) (nI 0) = zM18 := by rw [ezM18, ezM17, hkn]; rfl
                                        have hAS : asB zM11 i (mrowN N zM2 6 1 i) (nI 0) = false := by rw [ezM11]; exact bI_0.mp c151
                                        have hIf : (if asB zM11 i (mrowN N zM2 6 1 i) (nI 0) = true then zM11 else mnew N zM11 i (mrowN N zM2 6 1 i) (nI 0)) = zM18 := (if_neg (by rw [hAS]; decide)).trans hXn
                                        have h0o : mro N zM18 i 0 = zM18 := rfl
                                        rw [← h0o] at hR
                                        have z35 : ∀ k, k < mrowN N zM2 6 1 i → zM18 35 k = nI (wr N (i + k)) := fun k hk => by rw [← hXn]; unfold mnew; rw [up2_f (by decide), mrw_o (by decide), up2_f (by decide), up2_f (by decide), mclm_o (by decide) (by decide) (by decide) (by decide) (by decide), ezM11, mfr_35 hk]
                                        have lp5 : ∀ (zn5 : Nat) (k2 : Nat) (H : Heap) (locs : List Loc) (ls : Array Slot), mrowN N zM2 6 1 i - k2 < zn5 → (k2 ≤ mrowN N zM2 6 1 i) → RepM g d N (mro N zM18 i k2) G H → va_S (AM d) zs.heap H locs → lv_has ls 7 [(6, .int (nI k2)), (5, .int (bI (asB zM11 i (mrowN N zM2 6 1 i) (nI 0)))), (4, .int (nI (mrowN N zM2 6 1 i))), (3, .int (nI 1)), (2, .int (nI i)), (1, .int (bI (mallj N M N))), (0, .ref d)] → W zp l ze (rmk 3 64) zs zm ([.ref d] : List Value).toArray zb zt zc H locs 0 0 (MQ zb (QR (RepM g d N (marr N M) G) (AM d) none) ([.ref d] : List Value).toArray zs 0 0 (AM d)) (F0 zm 234 ls []) := by
                                          intro zn5
                                          induction zn5 with
                                          | zero => intro k2 H locs ls hm; exact absurd hm (Nat.not_lt_zero _)
                                          | succ zn5 ih5 =>
                                            intro k2 H locs ls hm hk2 hR hS hl
                                            obtain ⟨zM19, ezM19⟩ : ∃ y, y = mro N zM18 i k2 := ⟨_, rfl⟩
                                            rw [← ezM19] at hR
                                            have g35o : ∀ k, k < mrowN N zM2 6 1 i → zM19 35 k = nI (wr N (i + k)) := fun k hk => by rw [ezM19, mro_o (by decide)]; exact z35 k hk
                                            refine lv_iload C.1 C.2.1 dX4_arrange_234 (lv_at hl 0 rfl) ?_
                                            refine lv_iload C.1 C.2.1 dX4_arrange_236 (lv_at hl 2 rfl) ?_
                                            refine lv_icmp_ge (tgt := 260) C.1 C.2.1 dX4_arrange_238 (by decide) (fun c238 => ?_) (fun c238 => ?_)
                                            · skip
                                              have c238 : mrowN N zM2 6 1 i ≤ k2 := (nI_leI (a := mrowN N zM2 6 1 i) (b := k2) (by omega) (by omega)).mp c238
                                              refine lv_iinc (v := nI (i + 1)) (lv' := [(2, .int (nI (i + 1))), (6, .int (nI k2)), (5, .int (bI (asB zM11 i (mrowN N zM2 6 1 i) (nI 0)))), (4, .int (nI (mrowN N zM2 6 1 i))), (3, .int (nI 1)), (1, .int (bI (mallj N M N))), (0, .ref d)]) C.1 C.2.1 dX4_arrange_260 hl (k := 4) rfl (nI_add _ _) (by decide) rfl (fun ls hl => ?_)
                                              refine lv_goto (tgt := 61) C.1 C.2.1 dX4_arrange_263 (by decide) ?_
                                              have hb : marl N (mallj N M N) (mr1 M N) (i + 1) = zM19 := by
                                                show mstep N (mallj N M N) (marl N (mallj N M N) (mr1 M N) i) i = zM19
                                                rw [← ezM2]
                                                exact by unfold mstep mst1; rw [eC, eM, eN, hIf, ezM19, show k2 = mrowN N zM2 6 1 i by omega]
                                              have hJ2 : JM N (marl N (mallj N M N) (mr1 M N) (i + 1)) := mstep_JM hN (by rw [← ezM2]; exact hJ) (by omega)
                                              rw [← hb] at hR
                                              exact ih3 (i + 1) H locs ls (by omega) (by omega) hJ2 hR hS (lv_sub hl [0, 5, 6] rfl)
                                            · skip
                                              have c238 : ¬ (mrowN N zM2 6 1 i ≤ k2) := mt (nI_leI (a := mrowN N zM2 6 1 i) (b := k2) (by omega) (by omega)).mpr c238
                                              have hwk2 := wr_lt (N := N) (i := i + k2) (by omega)
                                              refine lv_aload_n C.1 C.2.1 dX4_arrange_241 rfl (lv_at hl 6 rfl) ?_
                                              refine m_get C hR 34 (by decide) rfl fl_X4_105 (v := .ref (mA d 34)) rfl dX4_arrange_242 ?_
                                              refine lv_aload_n C.1 C.2.1 dX4_arrange_245 rfl (lv_at hl 6 rfl) ?_
                                              refine m_get C hR 35 (by decide) rfl fl_X4_108 (v := .ref (mA d 35)) rfl dX4_arrange_246 ?_
                                              refine lv_iload C.1 C.2.1 dX4_arrange_249 (lv_at hl 0 rfl) ?_
                                              refine mI_ld (k := 35) (j := k2) C hR (by simp only [mAr]; decide) rfl (show k2 < 6 by omega) dX4_arrange_251 ?_
                                              refine lv_re (y := nI (wr N (i + k2))) (by rw [g35o k2 (by omega)]) ?_
                                              refine lv_iload_n C.1 C.2.1 dX4_arrange_252 rfl (lv_at hl 4 rfl) ?_
                                              refine mI_st (k := 34) (j := wr N (i + k2)) C hR hS (by simp only [mAr]; decide) rfl (show wr N (i + k2) < 6 by omega) dX4_arrange_253 (fun zM20 H locs ezM20 hR hS => ?_)
                                              refine lv_iinc (v := nI (k2 + 1)) (lv' := [(6, .int (nI (k2 + 1))), (5, .int (bI (asB zM11 i (mrowN N zM2 6 1 i) (nI 0)))), (4, .int (nI (mrowN N zM2 6 1 i))), (3, .int (nI 1)), (2, .int (nI i)), (1, .int (bI (mallj N M N))), (0, .ref d)]) C.1 C.2.1 dX4_arrange_254 hl (k := 0) rfl (nI_add _ _) (by decide) rfl (fun ls hl => ?_)
                                              refine lv_goto (tgt := 234) C.1 C.2.1 dX4_arrange_257 (by decide) ?_
                                              have hbo : mro N zM18 i (k2 + 1) = zM20 := by rw [ezM20, ezM19]; rfl
                                              rw [← hbo] at hR
                                              exact ih5 (k2 + 1) H locs ls (by omega) (by omega) hR hS (lv_sub hl [0, 1, 2, 3, 4, 5, 6] rfl)
                                        exact lp5 _ 0 _ _ ls (Nat.lt_succ_self _) (by omega) hR hS (lv_sub hl [0, 1, 2, 3, 4, 5, 6] rfl)
                                      · skip
                                        have c193 : ¬ (mrowN N zM2 6 1 i ≤ k) := mt (nI_leI (a := mrowN N zM2 6 1 i) (b := k) (by omega) (by omega)).mpr c193
                                        refine lv_aload_n C.1 C.2.1 dX4_arrange_196 rfl (lv_at hl 6 rfl) ?_
                                        refine m_get C hR 26 (by decide) rfl fl_X4_81 (v := .ref (mA d 26)) rfl dX4_arrange_197 ?_
                                        refine lv_bipush (v := nI 6) C.1 C.2.1 dX4_arrange_200 (by decide) ?_
                                        refine lv_iload_n C.1 C.2.1 dX4_arrange_202 rfl (lv_at hl 4 rfl) ?_
                                        refine n_imul (z := 6 * i) C dX4_arrange_203 (by omega) ?_
                                        refine lv_iload C.1 C.2.1 dX4_arrange_204 (lv_at hl 0 rfl) ?_
                                        refine n_iadd (z := 6 * i + k) C dX4_arrange_206 (by omega) ?_
                                        refine lv_aload_n C.1 C.2.1 dX4_arrange_207 rfl (lv_at hl 6 rfl) ?_
                                        refine m_get C hR 35 (by decide) rfl fl_X4_108 (v := .ref (mA d 35)) rfl dX4_arrange_208 ?_
                                        refine lv_iload C.1 C.2.1 dX4_arrange_211 (lv_at hl 0 rfl) ?_
                                        refine mI_ld (k := 35) (j := k) C hR (by simp only [mAr]; decide) rfl (show k < 6 by omega) dX4_arrange_213 ?_
                                        refine lv_re (y := nI (wr N (i + k))) (by rw [g35 k (by omega)]) ?_
                                        refine mI_st (k := 26) (j := 6 * i + k) C hR hS (by simp only [mAr]; decide) rfl (show 6 * i + k < 36 by omega) dX4_arrange_214 (fun zM21 H locs ezM21 hR hS => ?_)
                                        refine lv_iinc (v := nI (k + 1)) (lv' := [(6, .int (nI (k + 1))), (5, .int (bI (asB zM11 i (mrowN N zM2 6 1 i) (nI 0)))), (4, .int (nI (mrowN N zM2 6 1 i))), (3, .int (nI 1)), (2, .int (nI i)), (1, .int (bI (mallj N M N))), (0, .ref d)]) C.1 C.2.1 dX4_arrange_215 hl (k := 0) rfl (nI_add _ _) (by decide) rfl (fun ls hl => ?_)
                                        refine lv_goto (tgt := 189) C.1 C.2.1 dX4_arrange_218 (by decide) ?_
                                        have hbr : mrw N (up2 (up2 (mclm zM11 i) 25 i (nI (mrowN N zM2 6 1 i))) 27 i (nI 0)) i (k + 1) = zM21 := by rw [ezM21, ezM17]; rfl
                                        rw [← hbr] at hR
                                        exact ih4 (k + 1) H locs ls (by omega) (by omega) hR hS (lv_sub hl [0, 1, 2, 3, 4, 5, 6] rfl)
                                  exact lp4 _ 0 _ _ ls (Nat.lt_succ_self _) (by omega) hR hS (lv_sub hl [0, 1, 2, 3, 4, 5, 6] rfl)
                                · skip
                                  exact absurd c70 c173
                            · skip
                              exact absurd c70 c132
                    · skip
                      refine lv_iload_n C.1 C.2.1 dX4_arrange_73 rfl (lv_at hl 0 rfl) ?_
                      refine lv_if_ne (tgt := 81) C.1 C.2.1 dX4_arrange_74 (by decide) (fun c74 => ?_) (fun c74 => ?_)
                      · skip
                        have c74 : ¬ (i = 0) := mt (nI_eq (a := i) (b := 0) (by omega) (by omega)).mpr c74
                        refine lv_iconst (v := nI 0) C.1 C.2.1 dX4_arrange_81 (by decide) ?_
                        refine lv_goto (tgt := 111) C.1 C.2.1 dX4_arrange_82 (by decide) ?_
                        refine lv_istore_n (lv' := [(3, .int (nI 0)), (2, .int (nI i)), (1, .int (bI (mallj N M N))), (0, .ref d)]) C.1 C.2.1 dX4_arrange_111 rfl hl (by decide) rfl (fun ls hl => ?_)
                        refine lv_iload_n C.1 C.2.1 dX4_arrange_112 rfl (lv_at hl 0 rfl) ?_
                        refine lv_if_eq (tgt := 124) C.1 C.2.1 dX4_arrange_113 (by decide) (fun c113 => ?_) (fun c113 => ?_)
                        · skip
                          refine lv_iconst (v := nI 0) C.1 C.2.1 dX4_arrange_124 (by decide) ?_
                          refine lv_istore (lv' := [(4, .int (nI 0)), (3, .int (nI 0)), (2, .int (nI i)), (1, .int (bI (mallj N M N))), (0, .ref d)]) C.1 C.2.1 dX4_arrange_125 hl (by decide) rfl (fun ls hl => ?_)
                          have eF : mfst N (mallj N M N) zM2 i = false := (if_pos (bI_n0.mp c70)).trans (beq_eq_false_iff_ne.mpr c74)
                          have eN : mln N (mallj N M N) zM2 i = 0 := if_neg (by rw [eF]; decide)
                          have hnN : 0 ≤ N := by rw [← eN]; exact mln_le (by omega)
                          have eC : bI (mallj N M N && mfst N (mallj N M N) zM2 i) = nI 0 := by rw [eF, bI_n0.mp c70]; rfl
                          have eM : mfr N zM2 i (mln N (mallj N M N) zM2 i) = zM2 := by rw [eN]; rfl
                          refine lv_aload_n C.1 C.2.1 dX4_arrange_127 rfl (lv_at hl 4 rfl) ?_
                          refine lv_iload_n C.1 C.2.1 dX4_arrange_128 rfl (lv_at hl 2 rfl) ?_
                          refine lv_iload C.1 C.2.1 dX4_arrange_129 (lv_at hl 0 rfl) ?_
                          refine lv_iload_n C.1 C.2.1 dX4_arrange_131 rfl (lv_at hl 3 rfl) ?_
                          refine lv_if_eq (tgt := 143) C.1 C.2.1 dX4_arrange_132 (by decide) (fun c132 => ?_) (fun c132 => ?_)
                          · skip
                            exact absurd c132 c70
                          · skip
                            refine lv_iload_n C.1 C.2.1 dX4_arrange_135 rfl (lv_at hl 1 rfl) ?_
                            refine lv_if_eq (tgt := 143) C.1 C.2.1 dX4_arrange_136 (by decide) (fun c136 => ?_) (fun c136 => ?_)
                            · skip
                              refine lv_iconst (v := nI 0) C.1 C.2.1 dX4_arrange_143 (by decide) ?_
                              refine cxV (b := d) (As := [.int (nI i), .int (nI 0), .int (nI 0)]) (rest := []) (ci := 4) (q := (RX4, TX4, 36)) C (k_X4_isAsBefore l g d N zM2 G hN i (0) (by omega) (by omega) (nI 0)) cf_X4_isAsBefore ml_X4_136 ⟨by decide, by decide⟩ ⟨rfl, rfl⟩ rfl (hR.1) rfl hl.1 rfl (Nat.le_of_ble_eq_true rfl) dX4_arrange_144 hR ⟨Nat.zero_le _, Nat.zero_le _⟩ hS (fun _ h => h) (fun H locs hR hS _ _ => ?_)
                              simp only [Option.toList, List.cons_append, List.nil_append]
                              refine lv_istore (lv' := [(5, .int (bI (asB zM2 i 0 (nI 0)))), (4, .int (nI 0)), (3, .int (nI 0)), (2, .int (nI i)), (1, .int (bI (mallj N M N))), (0, .ref d)]) C.1 C.2.1 dX4_arrange_147 hl (by decide) rfl (fun ls hl => ?_)
                              refine lv_iload C.1 C.2.1 dX4_arrange_149 (lv_at hl 0 rfl) ?_
                              refine lv_if_ne (tgt := 231) C.1 C.2.1 dX4_arrange_151 (by decide) (fun c151 => ?_) (fun c151 => ?_)
                              · skip
                                refine lv_iconst (v := nI 0) C.1 C.2.1 dX4_arrange_231 (by decide) ?_
                                refine lv_istore (lv' := [(6, .int (nI 0)), (5, .int (bI (asB zM2 i 0 (nI 0)))), (4, .int (nI 0)), (3, .int (nI 0)), (2, .int (nI i)), (1, .int (bI (mallj N M N))), (0, .ref d)]) C.1 C.2.1 dX4_arrange_232 hl (by decide) rfl (fun ls hl => ?_)
                                have hXn : zM2 = zM2 := rfl
                                have hAS : asB zM2 i (0) (nI 0) = true := bI_n0.mp c151
                                have hIf : (if asB zM2 i (0) (nI 0) = true then zM2 else mnew N zM2 i (0) (nI 0)) = zM2 := (if_pos hAS).trans hXn
                                refine lv_iload C.1 C.2.1 dX4_arrange_234 (lv_at hl 0 rfl) ?_
                                refine lv_iload C.1 C.2.1 dX4_arrange_236 (lv_at hl 2 rfl) ?_
                                refine lv_icmp_ge (tgt := 260) C.1 C.2.1 dX4_arrange_238 (by decide) (fun c238 => ?_) (fun c238 => ?_)
                                · skip
                                  refine lv_iinc (v := nI (i + 1)) (lv' := [(2, .int (nI (i + 1))), (6, .int (nI 0)), (5, .int (bI (asB zM2 i 0 (nI 0)))), (4, .int (nI 0)), (3, .int (nI 0)), (1, .int (bI (mallj N M N))), (0, .ref d)]) C.1 C.2.1 dX4_arrange_260 hl (k := 4) rfl (nI_add _ _) (by decide) rfl (fun ls hl => ?_)
                                  refine lv_goto (tgt := 61) C.1 C.2.1 dX4_arrange_263 (by decide) ?_
                                  have hb : marl N (mallj N M N) (mr1 M N) (i + 1) = zM2 := by
                                    show mstep N (mallj N M N) (marl N (mallj N M N) (mr1 M N) i) i = zM2
                                    rw [← ezM2]
                                    exact by unfold mstep mst1; rw [eC, eM, eN, hIf]; rfl
                                  have hJ2 : JM N (marl N (mallj N M N) (mr1 M N) (i + 1)) := mstep_JM hN (by rw [← ezM2]; exact hJ) (by omega)
                                  rw [← hb] at hR
                                  exact ih3 (i + 1) H locs ls (by omega) (by omega) hJ2 hR hS (lv_sub hl [0, 5, 6] rfl)
                                · skip
                                  exact absurd c238 (by decide)
                              · skip
                                refine lv_aload_n C.1 C.2.1 dX4_arrange_154 rfl (lv_at hl 5 rfl) ?_
                                refine lv_iload_n C.1 C.2.1 dX4_arrange_155 rfl (lv_at hl 3 rfl) ?_
                                refine cxV (b := d) (As := [.int (nI i)]) (rest := []) (ci := 4) (q := (RX4, TX4, 36)) C (kx_claim l g d N zM2 G hN (hJ) i (by omega)) cf_X4_claim ml_X4_140 ⟨by decide, by decide⟩ ⟨rfl, rfl⟩ rfl (hR.1) rfl hl.1 rfl (Nat.le_of_ble_eq_true rfl) dX4_arrange_156 hR ⟨Nat.zero_le _, Nat.zero_le _⟩ hS (fun _ h => h) (fun H locs hR hS _ _ => ?_)
                                obtain ⟨zM22, ezM22⟩ : ∃ y, y = mclm zM2 i := ⟨_, rfl⟩
                                rw [← ezM22] at hR
                                simp only [Option.toList, List.nil_append]
                                refine lv_aload_n C.1 C.2.1 dX4_arrange_159 rfl (lv_at hl 5 rfl) ?_
                                refine m_get C hR 25 (by decide) rfl fl_X4_78 (v := .ref (mA d 25)) rfl dX4_arrange_160 ?_
                                refine lv_iload_n C.1 C.2.1 dX4_arrange_163 rfl (lv_at hl 3 rfl) ?_
                                refine lv_iload C.1 C.2.1 dX4_arrange_164 (lv_at hl 1 rfl) ?_
                                refine mI_st (k := 25) (j := i) C hR hS (by simp only [mAr]; decide) rfl (show i < 6 by omega) dX4_arrange_166 (fun zM23 H locs ezM23 hR hS => ?_)
                                refine lv_aload_n C.1 C.2.1 dX4_arrange_167 rfl (lv_at hl 5 rfl) ?_
                                refine m_get C hR 27 (by decide) rfl fl_X4_84 (v := .ref (mA d 27)) rfl dX4_arrange_168 ?_
                                refine lv_iload_n C.1 C.2.1 dX4_arrange_171 rfl (lv_at hl 3 rfl) ?_
                                refine lv_iload_n C.1 C.2.1 dX4_arrange_172 rfl (lv_at hl 4 rfl) ?_
                                refine lv_if_eq (tgt := 184) C.1 C.2.1 dX4_arrange_173 (by decide) (fun c173 => ?_) (fun c173 => ?_)
                                · skip
                                  exact absurd c173 c70
                                · skip
                                  refine lv_iload_n C.1 C.2.1 dX4_arrange_176 rfl (lv_at hl 2 rfl) ?_
                                  refine lv_if_eq (tgt := 184) C.1 C.2.1 dX4_arrange_177 (by decide) (fun c177 => ?_) (fun c177 => ?_)
                                  · skip
                                    refine lv_iconst (v := nI 0) C.1 C.2.1 dX4_arrange_184 (by decide) ?_
                                    refine mZ_st (k := 27) (j := i) C hR hS (by simp only [mAr]; decide) rfl (show i < 6 by omega) (Or.inl rfl) dX4_arrange_185 (fun zM24 H locs ezM24 hR hS => ?_)
                                    refine lv_iconst (v := nI 0) C.1 C.2.1 dX4_arrange_186 (by decide) ?_
                                    refine lv_istore (lv' := [(6, .int (nI 0)), (5, .int (bI (asB zM2 i 0 (nI 0)))), (4, .int (nI 0)), (3, .int (nI 0)), (2, .int (nI i)), (1, .int (bI (mallj N M N))), (0, .ref d)]) C.1 C.2.1 dX4_arrange_187 hl (by decide) rfl (fun ls hl => ?_)
                                    refine lv_iload C.1 C.2.1 dX4_arrange_189 (lv_at hl 0 rfl) ?_
                                    refine lv_iload C.1 C.2.1 dX4_arrange_191 (lv_at hl 2 rfl) ?_
                                    refine lv_icmp_ge (tgt := 221) C.1 C.2.1 dX4_arrange_193 (by decide) (fun c193 => ?_) (fun c193 => ?_)
                                    · skip
                                      refine lv_aload_n C.1 C.2.1 dX4_arrange_221 rfl (lv_at hl 6 rfl) ?_
                                      refine m_get C hR 28 (by decide) rfl fl_X4_87 (v := .ref (mA d 28)) rfl dX4_arrange_222 ?_
                                      refine lv_iload_n C.1 C.2.1 dX4_arrange_225 rfl (lv_at hl 4 rfl) ?_
                                      refine lv_iconst (v := nI 2) C.1 C.2.1 dX4_arrange_226 (by decide) ?_
                                      refine lv_iload C.1 C.2.1 dX4_arrange_227 (lv_at hl 2 rfl) ?_
                                      refine n_imul (z := 2 * 0) C dX4_arrange_229 (by omega) ?_
                                      refine mI_st (k := 28) (j := i) C hR hS (by simp only [mAr]; decide) rfl (show i < 6 by omega) dX4_arrange_230 (fun zM25 H locs ezM25 hR hS => ?_)
                                      refine lv_iconst (v := nI 0) C.1 C.2.1 dX4_arrange_231 (by decide) ?_
                                      refine lv_istore (lv' := [(6, .int (nI 0)), (5, .int (bI (asB zM2 i 0 (nI 0)))), (4, .int (nI 0)), (3, .int (nI 0)), (2, .int (nI i)), (1, .int (bI (mallj N M N))), (0, .ref d)]) C.1 C.2.1 dX4_arrange_232 hl (by decide) rfl (fun ls hl => ?_)
                                      have hXn : mnew N zM2 i (0) (nI 0) = zM25 := by rw [ezM25, ezM24, ezM23, ezM22]; rfl
                                      have hAS : asB zM2 i (0) (nI 0) = false := bI_0.mp c151
                                      have hIf : (if asB zM2 i (0) (nI 0) = true then zM2 else mnew N zM2 i (0) (nI 0)) = zM25 := (if_neg (by rw [hAS]; decide)).trans hXn
                                      refine lv_iload C.1 C.2.1 dX4_arrange_234 (lv_at hl 0 rfl) ?_
                                      refine lv_iload C.1 C.2.1 dX4_arrange_236 (lv_at hl 2 rfl) ?_
                                      refine lv_icmp_ge (tgt := 260) C.1 C.2.1 dX4_arrange_238 (by decide) (fun c238 => ?_) (fun c238 => ?_)
                                      · skip
                                        refine lv_iinc (v := nI (i + 1)) (lv' := [(2, .int (nI (i + 1))), (6, .int (nI 0)), (5, .int (bI (asB zM2 i 0 (nI 0)))), (4, .int (nI 0)), (3, .int (nI 0)), (1, .int (bI (mallj N M N))), (0, .ref d)]) C.1 C.2.1 dX4_arrange_260 hl (k := 4) rfl (nI_add _ _) (by decide) rfl (fun ls hl => ?_)
                                        refine lv_goto (tgt := 61) C.1 C.2.1 dX4_arrange_263 (by decide) ?_
                                        have hb : marl N (mallj N M N) (mr1 M N) (i + 1) = zM25 := by
                                          show mstep N (mallj N M N) (marl N (mallj N M N) (mr1 M N) i) i = zM25
                                          rw [← ezM2]
                                          exact by unfold mstep mst1; rw [eC, eM, eN, hIf]; rfl
                                        have hJ2 : JM N (marl N (mallj N M N) (mr1 M N) (i + 1)) := mstep_JM hN (by rw [← ezM2]; exact hJ) (by omega)
                                        rw [← hb] at hR
                                        exact ih3 (i + 1) H locs ls (by omega) (by omega) hJ2 hR hS (lv_sub hl [0, 5, 6] rfl)
                                      · skip
                                        exact absurd c238 (by decide)
                                    · skip
                                      exact absurd c193 (by decide)
                                  · skip
                                    exact absurd c177 (by decide)
                            · skip
                              exact absurd c136 (by decide)
                        · skip
                          exact absurd c113 (by decide)
                      · skip
                        have c74 : i = 0 := (nI_eq (a := i) (b := 0) (by omega) (by omega)).mp c74
                        refine lv_iconst (v := nI 1) C.1 C.2.1 dX4_arrange_77 (by decide) ?_
                        refine lv_goto (tgt := 111) C.1 C.2.1 dX4_arrange_78 (by decide) ?_
                        refine lv_istore_n (lv' := [(3, .int (nI 1)), (2, .int (nI i)), (1, .int (bI (mallj N M N))), (0, .ref d)]) C.1 C.2.1 dX4_arrange_111 rfl hl (by decide) rfl (fun ls hl => ?_)
                        refine lv_iload_n C.1 C.2.1 dX4_arrange_112 rfl (lv_at hl 0 rfl) ?_
                        refine lv_if_eq (tgt := 124) C.1 C.2.1 dX4_arrange_113 (by decide) (fun c113 => ?_) (fun c113 => ?_)
                        · skip
                          exact absurd c113 (by decide)
                        · skip
                          refine lv_aload_n C.1 C.2.1 dX4_arrange_116 rfl (lv_at hl 3 rfl) ?_
                          refine lv_iload_n C.1 C.2.1 dX4_arrange_117 rfl (lv_at hl 1 rfl) ?_
                          refine cxV (b := d) (As := [.int (nI i)]) (rest := []) (ci := 4) (q := (RX4, TX4, 36)) C (k_X4_follow l g d N zM2 G hN i (by omega)) cf_X4_follow ml_X4_133 ⟨by decide, by decide⟩ ⟨rfl, rfl⟩ rfl (hR.1) rfl hl.1 rfl (Nat.le_of_ble_eq_true rfl) dX4_arrange_118 hR ⟨Nat.zero_le _, Nat.zero_le _⟩ hS (fun _ h => h) (fun H locs hR hS _ _ => ?_)
                          obtain ⟨zM26, ezM26⟩ : ∃ y, y = mfr N zM2 i (mrowN N zM2 6 1 i) := ⟨_, rfl⟩
                          rw [← ezM26] at hR
                          simp only [Option.toList, List.cons_append, List.nil_append]
                          have hrn := mrowN_le (N := N) (M := zM2) 6 1 i (by omega)
                          refine lv_goto (tgt := 125) C.1 C.2.1 dX4_arrange_121 (by decide) ?_
                          refine lv_istore (lv' := [(4, .int (nI (mrowN N zM2 6 1 i))), (3, .int (nI 1)), (2, .int (nI i)), (1, .int (bI (mallj N M N))), (0, .ref d)]) C.1 C.2.1 dX4_arrange_125 hl (by decide) rfl (fun ls hl => ?_)
                          have eF : mfst N (mallj N M N) zM2 i = true := (if_pos (bI_n0.mp c70)).trans (beq_iff_eq.mpr c74)
                          have eN : mln N (mallj N M N) zM2 i = mrowN N zM2 6 1 i := if_pos eF
                          have hnN : mrowN N zM2 6 1 i ≤ N := by rw [← eN]; exact mln_le (by omega)
                          have eC : bI (mallj N M N && mfst N (mallj N M N) zM2 i) = nI 1 := by rw [eF, bI_n0.mp c70]; rfl
                          have eM : mfr N zM2 i (mln N (mallj N M N) zM2 i) = zM26 := by rw [eN, ezM26]
                          refine lv_aload_n C.1 C.2.1 dX4_arrange_127 rfl (lv_at hl 4 rfl) ?_
                          refine lv_iload_n C.1 C.2.1 dX4_arrange_128 rfl (lv_at hl 2 rfl) ?_
                          refine lv_iload C.1 C.2.1 dX4_arrange_129 (lv_at hl 0 rfl) ?_
                          refine lv_iload_n C.1 C.2.1 dX4_arrange_131 rfl (lv_at hl 3 rfl) ?_
                          refine lv_if_eq (tgt := 143) C.1 C.2.1 dX4_arrange_132 (by decide) (fun c132 => ?_) (fun c132 => ?_)
                          · skip
                            exact absurd c132 c70
                          · skip
                            refine lv_iload_n C.1 C.2.1 dX4_arrange_135 rfl (lv_at hl 1 rfl) ?_
                            refine lv_if_eq (tgt := 143) C.1 C.2.1 dX4_arrange_136 (by decide) (fun c136 => ?_) (fun c136 => ?_)
                            · skip
                              exact absurd c136 (by decide)
                            · skip
                              refine lv_iconst (v := nI 1) C.1 C.2.1 dX4_arrange_139 (by decide) ?_
                              refine lv_goto (tgt := 144) C.1 C.2.1 dX4_arrange_140 (by decide) ?_
                              refine cxV (b := d) (As := [.int (nI i), .int (nI (mrowN N zM2 6 1 i)), .int (nI 1)]) (rest := []) (ci := 4) (q := (RX4, TX4, 36)) C (k_X4_isAsBefore l g d N zM26 G hN i (mrowN N zM2 6 1 i) (by omega) (by omega) (nI 1)) cf_X4_isAsBefore ml_X4_136 ⟨by decide, by decide⟩ ⟨rfl, rfl⟩ rfl (hR.1) rfl hl.1 rfl (Nat.le_of_ble_eq_true rfl) dX4_arrange_144 hR ⟨Nat.zero_le _, Nat.zero_le _⟩ hS (fun _ h => h) (fun H locs hR hS _ _ => ?_)
                              simp only [Option.toList, List.cons_append, List.nil_append]
                              refine lv_istore (lv' := [(5, .int (bI (asB zM26 i (mrowN N zM2 6 1 i) (nI 1)))), (4, .int (nI (mrowN N zM2 6 1 i))), (3, .int (nI 1)), (2, .int (nI i)), (1, .int (bI (mallj N M N))), (0, .ref d)]) C.1 C.2.1 dX4_arrange_147 hl (by decide) rfl (fun ls hl => ?_)
                              refine lv_iload C.1 C.2.1 dX4_arrange_149 (lv_at hl 0 rfl) ?_
                              refine lv_if_ne (tgt := 231) C.1 C.2.1 dX4_arrange_151 (by decide) (fun c151 => ?_) (fun c151 => ?_)
                              · skip
                                rw [ezM26] at c151
                                refine lv_iconst (v := nI 0) C.1 C.2.1 dX4_arrange_231 (by decide) ?_
                                refine lv_istore (lv' := [(6, .int (nI 0)), (5, .int (bI (asB zM26 i (mrowN N zM2 6 1 i) (nI 1)))), (4, .int (nI (mrowN N zM2 6 1 i))), (3, .int (nI 1)), (2, .int (nI i)), (1, .int (bI (mallj N M N))), (0, .ref d)]) C.1 C.2.1 dX4_arrange_232 hl (by decide) rfl (fun ls hl => ?_)
                                have hXn : zM26 = zM26 := rfl
                                have hAS : asB zM26 i (mrowN N zM2 6 1 i) (nI 1) = true := by rw [ezM26]; exact bI_n0.mp c151
                                have hIf : (if asB zM26 i (mrowN N zM2 6 1 i) (nI 1) = true then zM26 else mnew N zM26 i (mrowN N zM2 6 1 i) (nI 1)) = zM26 := (if_pos hAS).trans hXn
                                have h0o : mro N zM26 i 0 = zM26 := rfl
                                rw [← h0o] at hR
                                have z35 : ∀ k, k < mrowN N zM2 6 1 i → zM26 35 k = nI (wr N (i + k)) := fun k hk => by rw [ezM26, mfr_35 hk]
                                have lp5 : ∀ (zn5 : Nat) (k2 : Nat) (H : Heap) (locs : List Loc) (ls : Array Slot), mrowN N zM2 6 1 i - k2 < zn5 → (k2 ≤ mrowN N zM2 6 1 i) → RepM g d N (mro N zM26 i k2) G H → va_S (AM d) zs.heap H locs → lv_has ls 7 [(6, .int (nI k2)), (5, .int (bI (asB zM26 i (mrowN N zM2 6 1 i) (nI 1)))), (4, .int (nI (mrowN N zM2 6 1 i))), (3, .int (nI 1)), (2, .int (nI i)), (1, .int (bI (mallj N M N))), (0, .ref d)] → W zp l ze (rmk 3 64) zs zm ([.ref d] : List Value).toArray zb zt zc H locs 0 0 (MQ zb (QR (RepM g d N (marr N M) G) (AM d) none) ([.ref d] : List Value).toArray zs 0 0 (AM d)) (F0 zm 234 ls []) := by
                                  intro zn5
                                  induction zn5 with
                                  | zero => intro k2 H locs ls hm; exact absurd hm (Nat.not_lt_zero _)
                                  | succ zn5 ih5 =>
                                    intro k2 H locs ls hm hk2 hR hS hl
                                    obtain ⟨zM27, ezM27⟩ : ∃ y, y = mro N zM26 i k2 := ⟨_, rfl⟩
                                    rw [← ezM27] at hR
                                    have g35o : ∀ k, k < mrowN N zM2 6 1 i → zM27 35 k = nI (wr N (i + k)) := fun k hk => by rw [ezM27, mro_o (by decide)]; exact z35 k hk
                                    refine lv_iload C.1 C.2.1 dX4_arrange_234 (lv_at hl 0 rfl) ?_
                                    refine lv_iload C.1 C.2.1 dX4_arrange_236 (lv_at hl 2 rfl) ?_
                                    refine lv_icmp_ge (tgt := 260) C.1 C.2.1 dX4_arrange_238 (by decide) (fun c238 => ?_) (fun c238 => ?_)
                                    · skip
                                      have c238 : mrowN N zM2 6 1 i ≤ k2 := (nI_leI (a := mrowN N zM2 6 1 i) (b := k2) (by omega) (by omega)).mp c238
                                      refine lv_iinc (v := nI (i + 1)) (lv' := [(2, .int (nI (i + 1))), (6, .int (nI k2)), (5, .int (bI (asB zM26 i (mrowN N zM2 6 1 i) (nI 1)))), (4, .int (nI (mrowN N zM2 6 1 i))), (3, .int (nI 1)), (1, .int (bI (mallj N M N))), (0, .ref d)]) C.1 C.2.1 dX4_arrange_260 hl (k := 4) rfl (nI_add _ _) (by decide) rfl (fun ls hl => ?_)
                                      refine lv_goto (tgt := 61) C.1 C.2.1 dX4_arrange_263 (by decide) ?_
                                      have hb : marl N (mallj N M N) (mr1 M N) (i + 1) = zM27 := by
                                        show mstep N (mallj N M N) (marl N (mallj N M N) (mr1 M N) i) i = zM27
                                        rw [← ezM2]
                                        exact by unfold mstep mst1; rw [eC, eM, eN, hIf, ezM27, show k2 = mrowN N zM2 6 1 i by omega]
                                      have hJ2 : JM N (marl N (mallj N M N) (mr1 M N) (i + 1)) := mstep_JM hN (by rw [← ezM2]; exact hJ) (by omega)
                                      rw [← hb] at hR
                                      exact ih3 (i + 1) H locs ls (by omega) (by omega) hJ2 hR hS (lv_sub hl [0, 5, 6] rfl)
                                    · skip
                                      have c238 : ¬ (mrowN N zM2 6 1 i ≤ k2) := mt (nI_leI (a := mrowN N zM2 6 1 i) (b := k2) (by omega) (by omega)).mpr c238
                                      have hwk2 := wr_lt (N := N) (i := i + k2) (by omega)
                                      refine lv_aload_n C.1 C.2.1 dX4_arrange_241 rfl (lv_at hl 6 rfl) ?_
                                      refine m_get C hR 34 (by decide) rfl fl_X4_105 (v := .ref (mA d 34)) rfl dX4_arrange_242 ?_
                                      refine lv_aload_n C.1 C.2.1 dX4_arrange_245 rfl (lv_at hl 6 rfl) ?_
                                      refine m_get C hR 35 (by decide) rfl fl_X4_108 (v := .ref (mA d 35)) rfl dX4_arrange_246 ?_
                                      refine lv_iload C.1 C.2.1 dX4_arrange_249 (lv_at hl 0 rfl) ?_
                                      refine mI_ld (k := 35) (j := k2) C hR (by simp only [mAr]; decide) rfl (show k2 < 6 by omega) dX4_arrange_251 ?_
                                      refine lv_re (y := nI (wr N (i + k2))) (by rw [g35o k2 (by omega)]) ?_
                                      refine lv_iload_n C.1 C.2.1 dX4_arrange_252 rfl (lv_at hl 4 rfl) ?_
                                      refine mI_st (k := 34) (j := wr N (i + k2)) C hR hS (by simp only [mAr]; decide) rfl (show wr N (i + k2) < 6 by omega) dX4_arrange_253 (fun zM28 H locs ezM28 hR hS => ?_)
                                      refine lv_iinc (v := nI (k2 + 1)) (lv' := [(6, .int (nI (k2 + 1))), (5, .int (bI (asB zM26 i (mrowN N zM2 6 1 i) (nI 1)))), (4, .int (nI (mrowN N zM2 6 1 i))), (3, .int (nI 1)), (2, .int (nI i)), (1, .int (bI (mallj N M N))), (0, .ref d)]) C.1 C.2.1 dX4_arrange_254 hl (k := 0) rfl (nI_add _ _) (by decide) rfl (fun ls hl => ?_)
                                      refine lv_goto (tgt := 234) C.1 C.2.1 dX4_arrange_257 (by decide) ?_
                                      have hbo : mro N zM26 i (k2 + 1) = zM28 := by rw [ezM28, ezM27]; rfl
                                      rw [← hbo] at hR
                                      exact ih5 (k2 + 1) H locs ls (by omega) (by omega) hR hS (lv_sub hl [0, 1, 2, 3, 4, 5, 6] rfl)
                                exact lp5 _ 0 _ _ ls (Nat.lt_succ_self _) (by omega) hR hS (lv_sub hl [0, 1, 2, 3, 4, 5, 6] rfl)
                              · skip
                                rw [ezM26] at c151
                                refine lv_aload_n C.1 C.2.1 dX4_arrange_154 rfl (lv_at hl 5 rfl) ?_
                                refine lv_iload_n C.1 C.2.1 dX4_arrange_155 rfl (lv_at hl 3 rfl) ?_
                                refine cxV (b := d) (As := [.int (nI i)]) (rest := []) (ci := 4) (q := (RX4, TX4, 36)) C (kx_claim l g d N zM26 G hN (by rw [ezM26]; exact mfr_JM hJ) i (by omega)) cf_X4_claim ml_X4_140 ⟨by decide, by decide⟩ ⟨rfl, rfl⟩ rfl (hR.1) rfl hl.1 rfl (Nat.le_of_ble_eq_true rfl) dX4_arrange_156 hR ⟨Nat.zero_le _, Nat.zero_le _⟩ hS (fun _ h => h) (fun H locs hR hS _ _ => ?_)
                                obtain ⟨zM29, ezM29⟩ : ∃ y, y = mclm zM26 i := ⟨_, rfl⟩
                                rw [← ezM29] at hR
                                simp only [Option.toList, List.nil_append]
                                refine lv_aload_n C.1 C.2.1 dX4_arrange_159 rfl (lv_at hl 5 rfl) ?_
                                refine m_get C hR 25 (by decide) rfl fl_X4_78 (v := .ref (mA d 25)) rfl dX4_arrange_160 ?_
                                refine lv_iload_n C.1 C.2.1 dX4_arrange_163 rfl (lv_at hl 3 rfl) ?_
                                refine lv_iload C.1 C.2.1 dX4_arrange_164 (lv_at hl 1 rfl) ?_
                                refine mI_st (k := 25) (j := i) C hR hS (by simp only [mAr]; decide) rfl (show i < 6 by omega) dX4_arrange_166 (fun zM30 H locs ezM30 hR hS => ?_)
                                refine lv_aload_n C.1 C.2.1 dX4_arrange_167 rfl (lv_at hl 5 rfl) ?_
                                refine m_get C hR 27 (by decide) rfl fl_X4_84 (v := .ref (mA d 27)) rfl dX4_arrange_168 ?_
                                refine lv_iload_n C.1 C.2.1 dX4_arrange_171 rfl (lv_at hl 3 rfl) ?_
                                refine lv_iload_n C.1 C.2.1 dX4_arrange_172 rfl (lv_at hl 4 rfl) ?_
                                refine lv_if_eq (tgt := 184) C.1 C.2.1 dX4_arrange_173 (by decide) (fun c173 => ?_) (fun c173 => ?_)
                                · skip
                                  exact absurd c173 c70
                                · skip
                                  refine lv_iload_n C.1 C.2.1 dX4_arrange_176 rfl (lv_at hl 2 rfl) ?_
                                  refine lv_if_eq (tgt := 184) C.1 C.2.1 dX4_arrange_177 (by decide) (fun c177 => ?_) (fun c177 => ?_)
                                  · skip
                                    exact absurd c177 (by decide)
                                  · skip
                                    refine lv_iconst (v := nI 1) C.1 C.2.1 dX4_arrange_180 (by decide) ?_
                                    refine lv_goto (tgt := 185) C.1 C.2.1 dX4_arrange_181 (by decide) ?_
                                    refine mZ_st (k := 27) (j := i) C hR hS (by simp only [mAr]; decide) rfl (show i < 6 by omega) (Or.inr rfl) dX4_arrange_185 (fun zM31 H locs ezM31 hR hS => ?_)
                                    refine lv_iconst (v := nI 0) C.1 C.2.1 dX4_arrange_186 (by decide) ?_
                                    refine lv_istore (lv' := [(6, .int (nI 0)), (5, .int (bI (asB zM26 i (mrowN N zM2 6 1 i) (nI 1)))), (4, .int (nI (mrowN N zM2 6 1 i))), (3, .int (nI 1)), (2, .int (nI i)), (1, .int (bI (mallj N M N))), (0, .ref d)]) C.1 C.2.1 dX4_arrange_187 hl (by decide) rfl (fun ls hl => ?_)
                                    have h0r : mrw N (up2 (up2 (mclm zM26 i) 25 i (nI (mrowN N zM2 6 1 i))) 27 i (nI 1)) i 0 = zM31 := by rw [ezM31, ezM30, ezM29]; rfl
                                    rw [← h0r] at hR
                                    have lp4 : ∀ (zn4 : Nat) (k : Nat) (H : Heap) (locs : List Loc) (ls : Array Slot), mrowN N zM2 6 1 i - k < zn4 → (k ≤ mrowN N zM2 6 1 i) → RepM g d N (mrw N (up2 (up2 (mclm zM26 i) 25 i (nI (mrowN N zM2 6 1 i))) 27 i (nI 1)) i k) G H → va_S (AM d) zs.heap H locs → lv_has ls 7 [(6, .int (nI k)), (5, .int (bI (asB zM26 i (mrowN N zM2 6 1 i) (nI 1)))), (4, .int (nI (mrowN N zM2 6 1 i))), (3, .int (nI 1)), (2, .int (nI i)), (1, .int (bI (mallj N M N))), (0, .ref d)] → W zp l ze (rmk 3 64) zs zm ([.ref d] : List Value).toArray zb zt zc H locs 0 0 (MQ zb (QR (RepM g d N (marr N M) G) (AM d) none) ([.ref d] : List Value).toArray zs 0 0 (AM d)) (F0 zm 189 ls []) := by
                                      intro zn4
                                      induction zn4 with
                                      | zero => intro k H locs ls hm; exact absurd hm (Nat.not_lt_zero _)
                                      | succ zn4 ih4 =>
                                        intro k H locs ls hm hk hR hS hl
                                        obtain ⟨zM32, ezM32⟩ : ∃ y, y = mrw N (up2 (up2 (mclm zM26 i) 25 i (nI (mrowN N zM2 6 1 i))) 27 i (nI 1)) i k := ⟨_, rfl⟩
                                        rw [← ezM32] at hR
                                        have g35 : ∀ k, k < mrowN N zM2 6 1 i → zM32 35 k = nI (wr N (i + k)) := fun k hk => by rw [ezM32, mrw_o (by decide), up2_f (by decide), up2_f (by decide), mclm_o (by decide) (by decide) (by decide) (by decide) (by decide), ezM26, mfr_35 hk]
                                        refine lv_iload C.1 C.2.1 dX4_arrange_189 (lv_at hl 0 rfl) ?_
                                        refine lv_iload C.1 C.2.1 dX4_arrange_191 (lv_at hl 2 rfl) ?_
                                        refine lv_icmp_ge (tgt := 221) C.1 C.2.1 dX4_arrange_193 (by decide) (fun c193 => ?_) (fun c193 => ?_)
                                        · skip
                                          have c193 : mrowN N zM2 6 1 i ≤ k := (nI_leI (a := mrowN N zM2 6 1 i) (b := k) (by omega) (by omega)).mp c193
                                          refine lv_aload_n C.1 C.2.1 dX4_arrange_221 rfl (lv_at hl 6 rfl) ?_
                                          refine m_get C hR 28 (by decide) rfl fl_X4_87 (v := .ref (mA d 28)) rfl dX4_arrange_222 ?_
                                          refine lv_iload_n C.1 C.2.1 dX4_arrange_225 rfl (lv_at hl 4 rfl) ?_
                                          refine lv_iconst (v := nI 2) C.1 C.2.1 dX4_arrange_226 (by decide) ?_
                                          refine lv_iload C.1 C.2.1 dX4_arrange_227 (lv_at hl 2 rfl) ?_
                                          refine n_imul (z := 2 * (mrowN N zM2 6 1 i)) C dX4_arrange_229 (by omega) ?_
                                          refine mI_st (k := 28) (j := i) C hR hS (by simp only [mAr]; decide) rfl (show i < 6 by omega) dX4_arrange_230 (fun zM33 H locs ezM33 hR hS => ?_)
                                          refine lv_iconst (v := nI 0) C.1 C.2.1 dX4_arrange_231 (by decide) ?_
                                          refine lv_istore (lv' := [(6, .int (nI 0)), (5, .int (bI (asB zM26 i (mrowN N zM2 6 1 i) (nI 1)))), (4, .int (nI (mrowN N zM2 6 1 i))), (3, .int (nI 1)), (2, .int (nI i)), (1, .int (bI (mallj N M N))), (0, .ref d)]) C.1 C.2.1 dX4_arrange_232 hl (by decide) rfl (fun ls hl => ?_)
                                          have hkn : k = mrowN N zM2 6 1 i := by omega
                                          have hXn : mnew N zM26 i (mrowN N zM2 6 1 i) (nI 1) = zM33 := by rw [ezM33, ezM32, hkn]; rfl
                                          have hAS : asB zM26 i (mrowN N zM2 6 1 i) (nI 1) = false := by rw [ezM26]; exact bI_0.mp c151
                                          have hIf : (if asB zM26 i (mrowN N zM2 6 1 i) (nI 1) = true then zM26 else mnew N zM26 i (mrowN N zM2 6 1 i) (nI 1)) = zM33 := (if_neg (by rw [hAS]; decide)).trans hXn
                                          have h0o : mro N zM33 i 0 = zM33 := rfl
                                          rw [← h0o] at hR
                                          have z35 : ∀ k, k < mrowN N zM2 6 1 i → zM33 35 k = nI (wr N (i + k)) := fun k hk => by rw [← hXn]; unfold mnew; rw [up2_f (by decide), mrw_o (by decide), up2_f (by decide), up2_f (by decide), mclm_o (by decide) (by decide) (by decide) (by decide) (by decide), ezM26, mfr_35 hk]
                                          have lp5 : ∀ (zn5 : Nat) (k2 : Nat) (H : Heap) (locs : List Loc) (ls : Array Slot), mrowN N zM2 6 1 i - k2 < zn5 → (k2 ≤ mrowN N zM2 6 1 i) → RepM g d N (mro N zM33 i k2) G H → va_S (AM d) zs.heap H locs → lv_has ls 7 [(6, .int (nI k2)), (5, .int (bI (asB zM26 i (mrowN N zM2 6 1 i) (nI 1)))), (4, .int (nI (mrowN N zM2 6 1 i))), (3, .int (nI 1)), (2, .int (nI i)), (1, .int (bI (mallj N M N))), (0, .ref d)] → W zp l ze (rmk 3 64) zs zm ([.ref d] : List Value).toArray zb zt zc H locs 0 0 (MQ zb (QR (RepM g d N (marr N M) G) (AM d) none) ([.ref d] : List Value).toArray zs 0 0 (AM d)) (F0 zm 234 ls []) := by
                                            intro zn5
                                            induction zn5 with
                                            | zero => intro k2 H locs ls hm; exact absurd hm (Nat.not_lt_zero _)
                                            | succ zn5 ih5 =>
                                              intro k2 H locs ls hm hk2 hR hS hl
                                              obtain ⟨zM34, ezM34⟩ : ∃ y, y = mro N zM33 i k2 := ⟨_, rfl⟩
                                              rw [← ezM34] at hR
                                              have g35o : ∀ k, k < mrowN N zM2 6 1 i → zM34 35 k = nI (wr N (i + k)) := fun k hk => by rw [ezM34, mro_o (by decide)]; exact z35 k hk
                                              refine lv_iload C.1 C.2.1 dX4_arrange_234 (lv_at hl 0 rfl) ?_
                                              refine lv_iload C.1 C.2.1 dX4_arrange_236 (lv_at hl 2 rfl) ?_
                                              refine lv_icmp_ge (tgt := 260) C.1 C.2.1 dX4_arrange_238 (by decide) (fun c238 => ?_) (fun c238 => ?_)
                                              · skip
                                                have c238 : mrowN N zM2 6 1 i ≤ k2 := (nI_leI (a := mrowN N zM2 6 1 i) (b := k2) (by omega) (by omega)).mp c238
                                                refine lv_iinc (v := nI (i + 1)) (lv' := [(2, .int (nI (i + 1))), (6, .int (nI k2)), (5, .int (bI (asB zM26 i (mrowN N zM2 6 1 i) (nI 1)))), (4, .int (nI (mrowN N zM2 6 1 i))), (3, .int (nI 1)), (1, .int (bI (mallj N M N))), (0, .ref d)]) C.1 C.2.1 dX4_arrange_260 hl (k := 4) rfl (nI_add _ _) (by decide) rfl (fun ls hl => ?_)
                                                refine lv_goto (tgt := 61) C.1 C.2.1 dX4_arrange_263 (by decide) ?_
                                                have hb : marl N (mallj N M N) (mr1 M N) (i + 1) = zM34 := by
                                                  show mstep N (mallj N M N) (marl N (mallj N M N) (mr1 M N) i) i = zM34
                                                  rw [← ezM2]
                                                  exact by unfold mstep mst1; rw [eC, eM, eN, hIf, ezM34, show k2 = mrowN N zM2 6 1 i by omega]
                                                have hJ2 : JM N (marl N (mallj N M N) (mr1 M N) (i + 1)) := mstep_JM hN (by rw [← ezM2]; exact hJ) (by omega)
                                                rw [← hb] at hR
                                                exact ih3 (i + 1) H locs ls (by omega) (by omega) hJ2 hR hS (lv_sub hl [0, 5, 6] rfl)
                                              · skip
                                                have c238 : ¬ (mrowN N zM2 6 1 i ≤ k2) := mt (nI_leI (a := mrowN N zM2 6 1 i) (b := k2) (by omega) (by omega)).mpr c238
                                                have hwk2 := wr_lt (N := N) (i := i + k2) (by omega)
                                                refine lv_aload_n C.1 C.2.1 dX4_arrange_241 rfl (lv_at hl 6 rfl) ?_
                                                refine m_get C hR 34 (by decide) rfl fl_X4_105 (v := .ref (mA d 34)) rfl dX4_arrange_242 ?_
                                                refine lv_aload_n C.1 C.2.1 dX4_arrange_245 rfl (lv_at hl 6 rfl) ?_
                                                refine m_get C hR 35 (by decide) rfl fl_X4_108 (v := .ref (mA d 35)) rfl dX4_arrange_246 ?_
                                                refine lv_iload C.1 C.2.1 dX4_arrange_249 (lv_at hl 0 rfl) ?_
                                                refine mI_ld (k := 35) (j := k2) C hR (by simp only [mAr]; decide) rfl (show k2 < 6 by omega) dX4_arrange_251 ?_
                                                refine lv_re (y := nI (wr N (i + k2))) (by rw [g35o k2 (by omega)]) ?_
                                                refine lv_iload_n C.1 C.2.1 dX4_arrange_252 rfl (lv_at hl 4 rfl) ?_
                                                refine mI_st (k := 34) (j := wr N (i + k2)) C hR hS (by simp only [mAr]; decide) rfl (show wr N (i + k2) < 6 by omega) dX4_arrange_253 (fun zM35 H locs ezM35 hR hS => ?_)
                                                refine lv_iinc (v := nI (k2 + 1)) (lv' := [(6, .int (nI (k2 + 1))), (5, .int (bI (asB zM26 i (mrowN N zM2 6 1 i) (nI 1)))), (4, .int (nI (mrowN N zM2 6 1 i))), (3, .int (nI 1)), (2, .int (nI i)), (1, .int (bI (mallj N M N))), (0, .ref d)]) C.1 C.2.1 dX4_arrange_254 hl (k := 0) rfl (nI_add _ _) (by decide) rfl (fun ls hl => ?_)
                                                refine lv_goto (tgt := 234) C.1 C.2.1 dX4_arrange_257 (by decide) ?_
                                                have hbo : mro N zM33 i (k2 + 1) = zM35 := by rw [ezM35, ezM34]; rfl
                                                rw [← hbo] at hR
                                                exact ih5 (k2 + 1) H locs ls (by omega) (by omega) hR hS (lv_sub hl [0, 1, 2, 3, 4, 5, 6] rfl)
                                          exact lp5 _ 0 _ _ ls (Nat.lt_succ_self _) (by omega) hR hS (lv_sub hl [0, 1, 2, 3, 4, 5, 6] rfl)
                                        · skip
                                          have c193 : ¬ (mrowN N zM2 6 1 i ≤ k) := mt (nI_leI (a := mrowN N zM2 6 1 i) (b := k) (by omega) (by omega)).mpr c193
                                          refine lv_aload_n C.1 C.2.1 dX4_arrange_196 rfl (lv_at hl 6 rfl) ?_
                                          refine m_get C hR 26 (by decide) rfl fl_X4_81 (v := .ref (mA d 26)) rfl dX4_arrange_197 ?_
                                          refine lv_bipush (v := nI 6) C.1 C.2.1 dX4_arrange_200 (by decide) ?_
                                          refine lv_iload_n C.1 C.2.1 dX4_arrange_202 rfl (lv_at hl 4 rfl) ?_
                                          refine n_imul (z := 6 * i) C dX4_arrange_203 (by omega) ?_
                                          refine lv_iload C.1 C.2.1 dX4_arrange_204 (lv_at hl 0 rfl) ?_
                                          refine n_iadd (z := 6 * i + k) C dX4_arrange_206 (by omega) ?_
                                          refine lv_aload_n C.1 C.2.1 dX4_arrange_207 rfl (lv_at hl 6 rfl) ?_
                                          refine m_get C hR 35 (by decide) rfl fl_X4_108 (v := .ref (mA d 35)) rfl dX4_arrange_208 ?_
                                          refine lv_iload C.1 C.2.1 dX4_arrange_211 (lv_at hl 0 rfl) ?_
                                          refine mI_ld (k := 35) (j := k) C hR (by simp only [mAr]; decide) rfl (show k < 6 by omega) dX4_arrange_213 ?_
                                          refine lv_re (y := nI (wr N (i + k))) (by rw [g35 k (by omega)]) ?_
                                          refine mI_st (k := 26) (j := 6 * i + k) C hR hS (by simp only [mAr]; decide) rfl (show 6 * i + k < 36 by omega) dX4_arrange_214 (fun zM36 H locs ezM36 hR hS => ?_)
                                          refine lv_iinc (v := nI (k + 1)) (lv' := [(6, .int (nI (k + 1))), (5, .int (bI (asB zM26 i (mrowN N zM2 6 1 i) (nI 1)))), (4, .int (nI (mrowN N zM2 6 1 i))), (3, .int (nI 1)), (2, .int (nI i)), (1, .int (bI (mallj N M N))), (0, .ref d)]) C.1 C.2.1 dX4_arrange_215 hl (k := 0) rfl (nI_add _ _) (by decide) rfl (fun ls hl => ?_)
                                          refine lv_goto (tgt := 189) C.1 C.2.1 dX4_arrange_218 (by decide) ?_
                                          have hbr : mrw N (up2 (up2 (mclm zM26 i) 25 i (nI (mrowN N zM2 6 1 i))) 27 i (nI 1)) i (k + 1) = zM36 := by rw [ezM36, ezM32]; rfl
                                          rw [← hbr] at hR
                                          exact ih4 (k + 1) H locs ls (by omega) (by omega) hR hS (lv_sub hl [0, 1, 2, 3, 4, 5, 6] rfl)
                                    exact lp4 _ 0 _ _ ls (Nat.lt_succ_self _) (by omega) hR hS (lv_sub hl [0, 1, 2, 3, 4, 5, 6] rfl)
              exact lp3 _ 0 _ _ ls (Nat.lt_succ_self _) (by omega) hJ0 hR hS (lv_sub hl [0, 1, 2] rfl)
            · skip
              have c43 : ¬ (N ≤ a2) := mt (nI_leI (a := N) (b := a2) (by omega) (by omega)).mpr c43
              refine lv_aload_n C.1 C.2.1 dX4_arrange_46 rfl (lv_at hl 2 rfl) ?_
              refine m_get C hR 34 (by decide) rfl fl_X4_105 (v := .ref (mA d 34)) rfl dX4_arrange_47 ?_
              refine lv_iload_n C.1 C.2.1 dX4_arrange_50 rfl (lv_at hl 0 rfl) ?_
              refine lv_iconst (v := (-1)) C.1 C.2.1 dX4_arrange_51 (by decide) ?_
              refine mI_st (k := 34) (j := a2) C hR hS (by simp only [mAr]; decide) rfl (show a2 < 6 by omega) dX4_arrange_52 (fun zM37 H locs ezM37 hR hS => ?_)
              refine lv_iinc (v := nI (a2 + 1)) (lv' := [(2, .int (nI (a2 + 1))), (1, .int (bI (mallj N M N))), (0, .ref d)]) C.1 C.2.1 dX4_arrange_53 hl (k := 0) rfl (nI_add _ _) (by decide) rfl (fun ls hl => ?_)
              refine lv_goto (tgt := 38) C.1 C.2.1 dX4_arrange_56 (by decide) ?_
              have hb : mr1 M (a2 + 1) = zM37 := by rw [ezM37, ezM1]; rfl
              rw [← hb] at hR
              exact ih2 (a2 + 1) H locs ls (by omega) (by omega) hR hS (lv_sub hl [0, 1, 2] rfl)
        exact lp2 _ 0 _ _ ls (Nat.lt_succ_self _) (by omega) hR hS (lv_sub hl [0, 1, 2] rfl)
      · skip
        have c9 : ¬ (N ≤ a1) := mt (nI_leI (a := N) (b := a1) (by omega) (by omega)).mpr c9
        refine lv_iload_n C.1 C.2.1 dX4_arrange_12 rfl (lv_at hl 1 rfl) ?_
        refine lv_if_eq (tgt := 28) C.1 C.2.1 dX4_arrange_13 (by decide) (fun c13 => ?_) (fun c13 => ?_)
        · skip
          refine lv_iconst (v := nI 0) C.1 C.2.1 dX4_arrange_28 (by decide) ?_
          refine lv_istore_n (lv' := [(1, .int (nI 0)), (2, .int (nI a1)), (0, .ref d)]) C.1 C.2.1 dX4_arrange_29 rfl hl (by decide) rfl (fun ls hl => ?_)
          refine lv_iinc (v := nI (a1 + 1)) (lv' := [(2, .int (nI (a1 + 1))), (1, .int (nI 0)), (0, .ref d)]) C.1 C.2.1 dX4_arrange_30 hl (k := 1) rfl (nI_add _ _) (by decide) rfl (fun ls hl => ?_)
          refine lv_goto (tgt := 4) C.1 C.2.1 dX4_arrange_33 (by decide) ?_
          have he : bI (mallj N M (a1 + 1)) = nI 0 := by simp only [mallj]; rw [bI_0.mp c13]; first | rfl | (rw [Bool.and_false]; rfl)
          exact ih (a1 + 1) H locs ls (by omega) (by omega) hR hS (by rw [he]; exact (lv_sub hl [0, 1, 2] rfl))
        · skip
          refine lv_aload_n C.1 C.2.1 dX4_arrange_16 rfl (lv_at hl 2 rfl) ?_
          refine lv_iload_n C.1 C.2.1 dX4_arrange_17 rfl (lv_at hl 0 rfl) ?_
          refine cxV (b := d) (As := [.int (nI a1)]) (rest := []) (ci := 4) (q := (RX4, TX4, 36)) C (mn_isJoined l g d N M G hN (a1) (by omega)) cf_X4_isJoined ml_X4_122 ⟨by decide, by decide⟩ ⟨rfl, rfl⟩ rfl (hR.1) rfl hl.1 rfl (Nat.le_of_ble_eq_true rfl) dX4_arrange_18 hR ⟨Nat.zero_le _, Nat.zero_le _⟩ hS (fun _ h => h) (fun H locs hR hS _ _ => ?_)
          simp only [Option.toList, List.cons_append, List.nil_append]
          refine lv_if_eq (tgt := 28) C.1 C.2.1 dX4_arrange_21 (by decide) (fun c21 => ?_) (fun c21 => ?_)
          · skip
            refine lv_iconst (v := nI 0) C.1 C.2.1 dX4_arrange_28 (by decide) ?_
            refine lv_istore_n (lv' := [(1, .int (nI 0)), (2, .int (nI a1)), (0, .ref d)]) C.1 C.2.1 dX4_arrange_29 rfl hl (by decide) rfl (fun ls hl => ?_)
            refine lv_iinc (v := nI (a1 + 1)) (lv' := [(2, .int (nI (a1 + 1))), (1, .int (nI 0)), (0, .ref d)]) C.1 C.2.1 dX4_arrange_30 hl (k := 1) rfl (nI_add _ _) (by decide) rfl (fun ls hl => ?_)
            refine lv_goto (tgt := 4) C.1 C.2.1 dX4_arrange_33 (by decide) ?_
            have he : bI (mallj N M (a1 + 1)) = nI 0 := by simp only [mallj]; rw [bI_0.mp c21]; first | rfl | (rw [Bool.and_false]; rfl)
            exact ih (a1 + 1) H locs ls (by omega) (by omega) hR hS (by rw [he]; exact (lv_sub hl [0, 1, 2] rfl))
          · skip
            refine lv_iconst (v := nI 1) C.1 C.2.1 dX4_arrange_24 (by decide) ?_
            refine lv_goto (tgt := 29) C.1 C.2.1 dX4_arrange_25 (by decide) ?_
            refine lv_istore_n (lv' := [(1, .int (nI 1)), (2, .int (nI a1)), (0, .ref d)]) C.1 C.2.1 dX4_arrange_29 rfl hl (by decide) rfl (fun ls hl => ?_)
            refine lv_iinc (v := nI (a1 + 1)) (lv' := [(2, .int (nI (a1 + 1))), (1, .int (nI 1)), (0, .ref d)]) C.1 C.2.1 dX4_arrange_30 hl (k := 1) rfl (nI_add _ _) (by decide) rfl (fun ls hl => ?_)
            refine lv_goto (tgt := 4) C.1 C.2.1 dX4_arrange_33 (by decide) ?_
            have he : bI (mallj N M (a1 + 1)) = nI 1 := by simp only [mallj]; rw [bI_n0.mp c13, bI_n0.mp c21]; rfl
            exact ih (a1 + 1) H locs ls (by omega) (by omega) hR hS (by rw [he]; exact (lv_sub hl [0, 1, 2] rfl))
  exact lp _ 0 _ _ ls (Nat.lt_succ_self _) (by omega) hR hS (lv_sub hl [0, 1, 2] rfl)

