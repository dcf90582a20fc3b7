/-! the law's cases -/
def KB (p : Program) (l : Launch) (e : Env) (s : State) (m : MethodId) (below : List Frame) (meth : Method) (c : Code) (b : Nat) (g : GX) (bx d N j cm : Nat) : Prop := ∀ (c2 : Nat) (S2 M2 : SX) (Fl2 G2 : FX) (H : Heap) (locs : List Loc) (ls : Array Slot), SimC N c2 S2 M2 Fl2 G2 → c2 ≤ cm → RepX g bx N S2 Fl2 H → RepM g d N M2 G2 H → va_S (A0 s) s.heap H locs → d + 34 ≤ H.size → lv_has ls 8 [(0, .ref b), (1, .ref bx), (2, .ref d), (3, .int (nI j))] → W p l e room_1 s m #[Value.ref b] below meth c H locs 600000 7302250 (lw_Z below #[Value.ref b] s) (F0 m 567 ls [])
section CASES
variable {p : Program} {l : Launch} {e : Env} {s : State} {m : MethodId} {below : List Frame} {meth : Method} {c : Code} {H : Heap} {locs : List Loc} {ls : Array Slot} {g : GX} {bx d N cnt cm b L j : Nat} {xs : Nat → Int32} {S M : SX} {Fl G : FX}
set_option maxHeartbeats 4000000 in
set_option maxRecDepth 100000 in
theorem lc_bid (C : Cx g p s m #[Value.ref b] c cL_law 8 RL) (hL : L ≤ 2561) (hXs : va_X b L xs s s.heap) (hbl : b < s.heap.size) (G0 : LG s bx d N) (hsim : SimC N cnt S M Fl G) (hcnt : cnt + 100 ≤ cm) (hcm : cm ≤ 1000000) (hX : RepX g bx N S Fl H) (hM : RepM g d N M G H) (hS : va_S (A0 s) s.heap H locs) (hz : d + 34 ≤ H.size) (hl : lv_has ls 8 [(0, .ref b), (1, .ref bx), (2, .ref d), (3, .int (nI j))]) (hj : j + 5 ≤ L) (kb : KB p l e s m below meth c b g bx d N j cm) : W p l e room_1 s m #[Value.ref b] below meth c H locs 600000 7302250 (lw_Z below #[Value.ref b] s) (F0 m 108 ls []) := by
  have hN := G0.2.2.2
  obtain ⟨S2, M2, v, hs2, hv, kx, km⟩ := p_bid l g bx d hsim hN (xs (j + 1)) (xs (j + 2))
  refine lv_aload_n C.1 C.2.1 dL_law_108 rfl (lv_at hl 1 rfl) ?_
  refine ld_el (k := 1) (ik := 0) C hL hXs hbl hS (lv_at hl 0 rfl) (lv_at hl 3 rfl) (by omega) dL_law_109 dL_law_110 dL_law_111 (by decide) dL_law_112 dL_law_113 ?_
  refine ld_el (k := 2) (ik := 0) C hL hXs hbl hS (lv_at hl 0 rfl) (lv_at hl 3 rfl) (by omega) dL_law_114 dL_law_115 dL_law_116 (by decide) dL_law_117 dL_law_118 ?_
  refine xcall (As := [.int (xs (j + 1)), .int (xs (j + 2))]) (rest := []) C G0 hX hM hS hz kx cf_X3_bid ml_L_21 ⟨Nat.le_of_ble_eq_true rfl, Nat.le_of_ble_eq_true rfl⟩ ⟨rfl, rfl⟩ rfl hl.1 rfl (Nat.le_of_ble_eq_true rfl) dL_law_119 ⟨Nat.le_of_ble_eq_true rfl, Nat.le_of_ble_eq_true rfl⟩ (fun H locs hX hM hS hz => ?_)
  simp only [Option.toList, List.cons_append, List.nil_append]
  refine lv_aload_n C.1 C.2.1 dL_law_122 rfl (lv_at hl 2 rfl) ?_
  refine ld_el (k := 1) (ik := 0) C hL hXs hbl hS (lv_at hl 0 rfl) (lv_at hl 3 rfl) (by omega) dL_law_123 dL_law_124 dL_law_125 (by decide) dL_law_126 dL_law_127 ?_
  refine ld_el (k := 2) (ik := 0) C hL hXs hbl hS (lv_at hl 0 rfl) (lv_at hl 3 rfl) (by omega) dL_law_128 dL_law_129 dL_law_130 (by decide) dL_law_131 dL_law_132 ?_
  refine mcall (As := [.int (xs (j + 1)), .int (xs (j + 2))]) (rest := [.int v]) C G0 hX hM hS hz km cf_X4_bid ml_L_25 ⟨Nat.le_of_ble_eq_true rfl, Nat.le_of_ble_eq_true rfl⟩ ⟨rfl, rfl⟩ rfl hl.1 rfl (Nat.le_of_ble_eq_true rfl) dL_law_133 ⟨Nat.le_of_ble_eq_true rfl, Nat.le_of_ble_eq_true rfl⟩ (fun H locs hX hM hS hz => ?_)
  simp only [Option.toList, List.cons_append, List.nil_append]
  refine lv_icmp_eq (tgt := 567) C.1 C.2.1 dL_law_136 (by decide) (fun _ => ?_) (fun h => absurd rfl h)
  exact kb _ _ _ _ _ _ _ _ hs2 (by omega) hX hM hS hz hl
set_option maxHeartbeats 4000000 in
set_option maxRecDepth 100000 in
theorem lc_allot (C : Cx g p s m #[Value.ref b] c cL_law 8 RL) (hL : L ≤ 2561) (hXs : va_X b L xs s s.heap) (hbl : b < s.heap.size) (G0 : LG s bx d N) (hsim : SimC N cnt S M Fl G) (hcnt : cnt + 100 ≤ cm) (hcm : cm ≤ 1000000) (hX : RepX g bx N S Fl H) (hM : RepM g d N M G H) (hS : va_S (A0 s) s.heap H locs) (hz : d + 34 ≤ H.size) (hl : lv_has ls 8 [(0, .ref b), (1, .ref bx), (2, .ref d), (3, .int (nI j))]) (hj : j + 5 ≤ L) (kb : KB p l e s m below meth c b g bx d N j cm) : W p l e room_1 s m #[Value.ref b] below meth c H locs 600000 7302250 (lw_Z below #[Value.ref b] s) (F0 m 141 ls []) := by
  have hN := G0.2.2.2
  obtain ⟨S2, M2, v, hs2, hv, kx, km⟩ := p_allot l g bx d hsim hN (xs (j + 1)) (xs (j + 2))
  refine lv_aload_n C.1 C.2.1 dL_law_141 rfl (lv_at hl 1 rfl) ?_
  refine ld_el (k := 1) (ik := 0) C hL hXs hbl hS (lv_at hl 0 rfl) (lv_at hl 3 rfl) (by omega) dL_law_142 dL_law_143 dL_law_144 (by decide) dL_law_145 dL_law_146 ?_
  refine ld_el (k := 2) (ik := 0) C hL hXs hbl hS (lv_at hl 0 rfl) (lv_at hl 3 rfl) (by omega) dL_law_147 dL_law_148 dL_law_149 (by decide) dL_law_150 dL_law_151 ?_
  refine xcall (As := [.int (xs (j + 1)), .int (xs (j + 2))]) (rest := []) C G0 hX hM hS hz kx cf_X3_allot ml_L_26 ⟨Nat.le_of_ble_eq_true rfl, Nat.le_of_ble_eq_true rfl⟩ ⟨rfl, rfl⟩ rfl hl.1 rfl (Nat.le_of_ble_eq_true rfl) dL_law_152 ⟨Nat.le_of_ble_eq_true rfl, Nat.le_of_ble_eq_true rfl⟩ (fun H locs hX hM hS hz => ?_)
  simp only [Option.toList, List.cons_append, List.nil_append]
  refine lv_aload_n C.1 C.2.1 dL_law_155 rfl (lv_at hl 2 rfl) ?_
  refine ld_el (k := 1) (ik := 0) C hL hXs hbl hS (lv_at hl 0 rfl) (lv_at hl 3 rfl) (by omega) dL_law_156 dL_law_157 dL_law_158 (by decide) dL_law_159 dL_law_160 ?_
  refine ld_el (k := 2) (ik := 0) C hL hXs hbl hS (lv_at hl 0 rfl) (lv_at hl 3 rfl) (by omega) dL_law_161 dL_law_162 dL_law_163 (by decide) dL_law_164 dL_law_165 ?_
  refine mcall (As := [.int (xs (j + 1)), .int (xs (j + 2))]) (rest := [.int v]) C G0 hX hM hS hz km cf_X4_allot ml_L_29 ⟨Nat.le_of_ble_eq_true rfl, Nat.le_of_ble_eq_true rfl⟩ ⟨rfl, rfl⟩ rfl hl.1 rfl (Nat.le_of_ble_eq_true rfl) dL_law_166 ⟨Nat.le_of_ble_eq_true rfl, Nat.le_of_ble_eq_true rfl⟩ (fun H locs hX hM hS hz => ?_)
  simp only [Option.toList, List.cons_append, List.nil_append]
  refine lv_icmp_eq (tgt := 567) C.1 C.2.1 dL_law_169 (by decide) (fun _ => ?_) (fun h => absurd rfl h)
  exact kb _ _ _ _ _ _ _ _ hs2 (by omega) hX hM hS hz hl
set_option maxHeartbeats 4000000 in
set_option maxRecDepth 100000 in
theorem lc_send (C : Cx g p s m #[Value.ref b] c cL_law 8 RL) (hL : L ≤ 2561) (hXs : va_X b L xs s s.heap) (hbl : b < s.heap.size) (G0 : LG s bx d N) (hsim : SimC N cnt S M Fl G) (hcnt : cnt + 100 ≤ cm) (hcm : cm ≤ 1000000) (hX : RepX g bx N S Fl H) (hM : RepM g d N M G H) (hS : va_S (A0 s) s.heap H locs) (hz : d + 34 ≤ H.size) (hl : lv_has ls 8 [(0, .ref b), (1, .ref bx), (2, .ref d), (3, .int (nI j))]) (hj : j + 5 ≤ L) (kb : KB p l e s m below meth c b g bx d N j cm) : W p l e room_1 s m #[Value.ref b] below meth c H locs 600000 7302250 (lw_Z below #[Value.ref b] s) (F0 m 174 ls []) := by
  have hN := G0.2.2.2
  obtain ⟨S2, M2, v, hs2, hv, kx, km⟩ := p_send l g bx d hsim hN (xs (j + 1)) (xs (j + 2)) (xs (j + 3)) (xs (j + 4))
  refine lv_aload_n C.1 C.2.1 dL_law_174 rfl (lv_at hl 1 rfl) ?_
  refine ld_el (k := 1) (ik := 0) C hL hXs hbl hS (lv_at hl 0 rfl) (lv_at hl 3 rfl) (by omega) dL_law_175 dL_law_176 dL_law_177 (by decide) dL_law_178 dL_law_179 ?_
  refine ld_el (k := 2) (ik := 0) C hL hXs hbl hS (lv_at hl 0 rfl) (lv_at hl 3 rfl) (by omega) dL_law_180 dL_law_181 dL_law_182 (by decide) dL_law_183 dL_law_184 ?_
  refine ld_el (k := 3) (ik := 0) C hL hXs hbl hS (lv_at hl 0 rfl) (lv_at hl 3 rfl) (by omega) dL_law_185 dL_law_186 dL_law_187 (by decide) dL_law_188 dL_law_189 ?_
  refine ld_el (k := 4) (ik := 0) C hL hXs hbl hS (lv_at hl 0 rfl) (lv_at hl 3 rfl) (by omega) dL_law_190 dL_law_191 dL_law_192 (by decide) dL_law_193 dL_law_194 ?_
  refine xcall (As := [.int (xs (j + 1)), .int (xs (j + 2)), .int (xs (j + 3)), .int (xs (j + 4))]) (rest := []) C G0 hX hM hS hz kx cf_X3_send ml_L_30 ⟨Nat.le_of_ble_eq_true rfl, Nat.le_of_ble_eq_true rfl⟩ ⟨rfl, rfl⟩ rfl hl.1 rfl (Nat.le_of_ble_eq_true rfl) dL_law_195 ⟨Nat.le_of_ble_eq_true rfl, Nat.le_of_ble_eq_true rfl⟩ (fun H locs hX hM hS hz => ?_)
  simp only [Option.toList, List.cons_append, List.nil_append]
  refine lv_aload_n C.1 C.2.1 dL_law_198 rfl (lv_at hl 2 rfl) ?_
  refine ld_el (k := 1) (ik := 0) C hL hXs hbl hS (lv_at hl 0 rfl) (lv_at hl 3 rfl) (by omega) dL_law_199 dL_law_200 dL_law_201 (by decide) dL_law_202 dL_law_203 ?_
  refine ld_el (k := 2) (ik := 0) C hL hXs hbl hS (lv_at hl 0 rfl) (lv_at hl 3 rfl) (by omega) dL_law_204 dL_law_205 dL_law_206 (by decide) dL_law_207 dL_law_208 ?_
  refine ld_el (k := 3) (ik := 0) C hL hXs hbl hS (lv_at hl 0 rfl) (lv_at hl 3 rfl) (by omega) dL_law_209 dL_law_210 dL_law_211 (by decide) dL_law_212 dL_law_213 ?_
  refine ld_el (k := 4) (ik := 0) C hL hXs hbl hS (lv_at hl 0 rfl) (lv_at hl 3 rfl) (by omega) dL_law_214 dL_law_215 dL_law_216 (by decide) dL_law_217 dL_law_218 ?_
  refine mcall (As := [.int (xs (j + 1)), .int (xs (j + 2)), .int (xs (j + 3)), .int (xs (j + 4))]) (rest := [.int v]) C G0 hX hM hS hz km cf_X4_send ml_L_34 ⟨Nat.le_of_ble_eq_true rfl, Nat.le_of_ble_eq_true rfl⟩ ⟨rfl, rfl⟩ rfl hl.1 rfl (Nat.le_of_ble_eq_true rfl) dL_law_219 ⟨Nat.le_of_ble_eq_true rfl, Nat.le_of_ble_eq_true rfl⟩ (fun H locs hX hM hS hz => ?_)
  simp only [Option.toList, List.cons_append, List.nil_append]
  refine lv_icmp_eq (tgt := 567) C.1 C.2.1 dL_law_222 (by decide) (fun _ => ?_) (fun h => absurd rfl h)
  exact kb _ _ _ _ _ _ _ _ hs2 (by omega) hX hM hS hz hl
set_option maxHeartbeats 4000000 in
set_option maxRecDepth 100000 in
theorem lc_cable (C : Cx g p s m #[Value.ref b] c cL_law 8 RL) (hL : L ≤ 2561) (hXs : va_X b L xs s s.heap) (hbl : b < s.heap.size) (G0 : LG s bx d N) (hsim : SimC N cnt S M Fl G) (hcnt : cnt + 100 ≤ cm) (hcm : cm ≤ 1000000) (hX : RepX g bx N S Fl H) (hM : RepM g d N M G H) (hS : va_S (A0 s) s.heap H locs) (hz : d + 34 ≤ H.size) (hl : lv_has ls 8 [(0, .ref b), (1, .ref bx), (2, .ref d), (3, .int (nI j))]) (hj : j + 5 ≤ L) (kb : KB p l e s m below meth c b g bx d N j cm) : W p l e room_1 s m #[Value.ref b] below meth c H locs 600000 7302250 (lw_Z below #[Value.ref b] s) (F0 m 227 ls []) := by
  have hN := G0.2.2.2
  by_cases h0 : xs (j + 2) = 0
  · obtain ⟨S2, M2, v, hs2, hv, kx, km⟩ := p_cable l g bx d hsim hN (xs (j + 1)) (nI 0) (by decide)
    refine lv_aload_n C.1 C.2.1 dL_law_227 rfl (lv_at hl 1 rfl) ?_
    refine ld_el (k := 1) (ik := 0) C hL hXs hbl hS (lv_at hl 0 rfl) (lv_at hl 3 rfl) (by omega) dL_law_228 dL_law_229 dL_law_230 (by decide) dL_law_231 dL_law_232 ?_
    refine ld_el (k := 2) (ik := 0) C hL hXs hbl hS (lv_at hl 0 rfl) (lv_at hl 3 rfl) (by omega) dL_law_233 dL_law_234 dL_law_235 (by decide) dL_law_236 dL_law_237 ?_
    refine lv_if_eq (tgt := 245) C.1 C.2.1 dL_law_238 (by decide) (fun _ => ?_) (fun h => absurd h0 h)
    refine lv_iconst (v := nI 0) C.1 C.2.1 dL_law_245 (by decide) ?_
    refine xcall (As := [.int (xs (j + 1)), .int (nI 0)]) (rest := []) C G0 hX hM hS hz kx cf_X3_cable ml_L_35 ⟨Nat.le_of_ble_eq_true rfl, Nat.le_of_ble_eq_true rfl⟩ ⟨rfl, rfl⟩ rfl hl.1 rfl (Nat.le_of_ble_eq_true rfl) dL_law_246 ⟨Nat.le_of_ble_eq_true rfl, Nat.le_of_ble_eq_true rfl⟩ (fun H locs hX hM hS hz => ?_)
    simp only [Option.toList, List.cons_append, List.nil_append]
    refine lv_aload_n C.1 C.2.1 dL_law_249 rfl (lv_at hl 2 rfl) ?_
    refine ld_el (k := 1) (ik := 0) C hL hXs hbl hS (lv_at hl 0 rfl) (lv_at hl 3 rfl) (by omega) dL_law_250 dL_law_251 dL_law_252 (by decide) dL_law_253 dL_law_254 ?_
    refine ld_el (k := 2) (ik := 0) C hL hXs hbl hS (lv_at hl 0 rfl) (lv_at hl 3 rfl) (by omega) dL_law_255 dL_law_256 dL_law_257 (by decide) dL_law_258 dL_law_259 ?_
    refine lv_if_eq (tgt := 267) C.1 C.2.1 dL_law_260 (by decide) (fun _ => ?_) (fun h => absurd h0 h)
    refine lv_iconst (v := nI 0) C.1 C.2.1 dL_law_267 (by decide) ?_
    refine mcall (As := [.int (xs (j + 1)), .int (nI 0)]) (rest := [.int v]) C G0 hX hM hS hz km cf_X4_cable ml_L_39 ⟨Nat.le_of_ble_eq_true rfl, Nat.le_of_ble_eq_true rfl⟩ ⟨rfl, rfl⟩ rfl hl.1 rfl (Nat.le_of_ble_eq_true rfl) dL_law_268 ⟨Nat.le_of_ble_eq_true rfl, Nat.le_of_ble_eq_true rfl⟩ (fun H locs hX hM hS hz => ?_)
    simp only [Option.toList, List.cons_append, List.nil_append]
    refine lv_icmp_eq (tgt := 567) C.1 C.2.1 dL_law_271 (by decide) (fun _ => ?_) (fun h => absurd rfl h)
    exact kb _ _ _ _ _ _ _ _ hs2 (by omega) hX hM hS hz hl
  · obtain ⟨S2, M2, v, hs2, hv, kx, km⟩ := p_cable l g bx d hsim hN (xs (j + 1)) (nI 1) (by decide)
    refine lv_aload_n C.1 C.2.1 dL_law_227 rfl (lv_at hl 1 rfl) ?_
    refine ld_el (k := 1) (ik := 0) C hL hXs hbl hS (lv_at hl 0 rfl) (lv_at hl 3 rfl) (by omega) dL_law_228 dL_law_229 dL_law_230 (by decide) dL_law_231 dL_law_232 ?_
    refine ld_el (k := 2) (ik := 0) C hL hXs hbl hS (lv_at hl 0 rfl) (lv_at hl 3 rfl) (by omega) dL_law_233 dL_law_234 dL_law_235 (by decide) dL_law_236 dL_law_237 ?_
    refine lv_if_eq (tgt := 245) C.1 C.2.1 dL_law_238 (by decide) (fun h => absurd h h0) (fun _ => ?_)
    refine lv_iconst (v := nI 1) C.1 C.2.1 dL_law_241 (by decide) ?_
    refine lv_goto (tgt := 246) C.1 C.2.1 dL_law_242 (by decide) ?_
    refine xcall (As := [.int (xs (j + 1)), .int (nI 1)]) (rest := []) C G0 hX hM hS hz kx cf_X3_cable ml_L_35 ⟨Nat.le_of_ble_eq_true rfl, Nat.le_of_ble_eq_true rfl⟩ ⟨rfl, rfl⟩ rfl hl.1 rfl (Nat.le_of_ble_eq_true rfl) dL_law_246 ⟨Nat.le_of_ble_eq_true rfl, Nat.le_of_ble_eq_true rfl⟩ (fun H locs hX hM hS hz => ?_)
    simp only [Option.toList, List.cons_append, List.nil_append]
    refine lv_aload_n C.1 C.2.1 dL_law_249 rfl (lv_at hl 2 rfl) ?_
    refine ld_el (k := 1) (ik := 0) C hL hXs hbl hS (lv_at hl 0 rfl) (lv_at hl 3 rfl) (by omega) dL_law_250 dL_law_251 dL_law_252 (by decide) dL_law_253 dL_law_254 ?_
    refine ld_el (k := 2) (ik := 0) C hL hXs hbl hS (lv_at hl 0 rfl) (lv_at hl 3 rfl) (by omega) dL_law_255 dL_law_256 dL_law_257 (by decide) dL_law_258 dL_law_259 ?_
    refine lv_if_eq (tgt := 267) C.1 C.2.1 dL_law_260 (by decide) (fun h => absurd h h0) (fun _ => ?_)
    refine lv_iconst (v := nI 1) C.1 C.2.1 dL_law_263 (by decide) ?_
    refine lv_goto (tgt := 268) C.1 C.2.1 dL_law_264 (by decide) ?_
    refine mcall (As := [.int (xs (j + 1)), .int (nI 1)]) (rest := [.int v]) C G0 hX hM hS hz km cf_X4_cable ml_L_39 ⟨Nat.le_of_ble_eq_true rfl, Nat.le_of_ble_eq_true rfl⟩ ⟨rfl, rfl⟩ rfl hl.1 rfl (Nat.le_of_ble_eq_true rfl) dL_law_268 ⟨Nat.le_of_ble_eq_true rfl, Nat.le_of_ble_eq_true rfl⟩ (fun H locs hX hM hS hz => ?_)
    simp only [Option.toList, List.cons_append, List.nil_append]
    refine lv_icmp_eq (tgt := 567) C.1 C.2.1 dL_law_271 (by decide) (fun _ => ?_) (fun h => absurd rfl h)
    exact kb _ _ _ _ _ _ _ _ hs2 (by omega) hX hM hS hz hl
set_option maxHeartbeats 4000000 in
set_option maxRecDepth 100000 in
theorem lc_power (C : Cx g p s m #[Value.ref b] c cL_law 8 RL) (hL : L ≤ 2561) (hXs : va_X b L xs s s.heap) (hbl : b < s.heap.size) (G0 : LG s bx d N) (hsim : SimC N cnt S M Fl G) (hcnt : cnt + 100 ≤ cm) (hcm : cm ≤ 1000000) (hX : RepX g bx N S Fl H) (hM : RepM g d N M G H) (hS : va_S (A0 s) s.heap H locs) (hz : d + 34 ≤ H.size) (hl : lv_has ls 8 [(0, .ref b), (1, .ref bx), (2, .ref d), (3, .int (nI j))]) (hj : j + 5 ≤ L) (kb : KB p l e s m below meth c b g bx d N j cm) : W p l e room_1 s m #[Value.ref b] below meth c H locs 600000 7302250 (lw_Z below #[Value.ref b] s) (F0 m 276 ls []) := by
  have hN := G0.2.2.2
  by_cases h0 : xs (j + 2) = 0
  · obtain ⟨S2, M2, v, hs2, hv, kx, km⟩ := p_power l g bx d hsim hN (xs (j + 1)) (nI 0) (by decide)
    refine lv_aload_n C.1 C.2.1 dL_law_276 rfl (lv_at hl 1 rfl) ?_
    refine ld_el (k := 1) (ik := 0) C hL hXs hbl hS (lv_at hl 0 rfl) (lv_at hl 3 rfl) (by omega) dL_law_277 dL_law_278 dL_law_279 (by decide) dL_law_280 dL_law_281 ?_
    refine ld_el (k := 2) (ik := 0) C hL hXs hbl hS (lv_at hl 0 rfl) (lv_at hl 3 rfl) (by omega) dL_law_282 dL_law_283 dL_law_284 (by decide) dL_law_285 dL_law_286 ?_
    refine lv_if_eq (tgt := 294) C.1 C.2.1 dL_law_287 (by decide) (fun _ => ?_) (fun h => absurd h0 h)
    refine lv_iconst (v := nI 0) C.1 C.2.1 dL_law_294 (by decide) ?_
    refine xcall (As := [.int (xs (j + 1)), .int (nI 0)]) (rest := []) C G0 hX hM hS hz kx cf_X3_power ml_L_40 ⟨Nat.le_of_ble_eq_true rfl, Nat.le_of_ble_eq_true rfl⟩ ⟨rfl, rfl⟩ rfl hl.1 rfl (Nat.le_of_ble_eq_true rfl) dL_law_295 ⟨Nat.le_of_ble_eq_true rfl, Nat.le_of_ble_eq_true rfl⟩ (fun H locs hX hM hS hz => ?_)
    simp only [Option.toList, List.cons_append, List.nil_append]
    refine lv_aload_n C.1 C.2.1 dL_law_298 rfl (lv_at hl 2 rfl) ?_
    refine ld_el (k := 1) (ik := 0) C hL hXs hbl hS (lv_at hl 0 rfl) (lv_at hl 3 rfl) (by omega) dL_law_299 dL_law_300 dL_law_301 (by decide) dL_law_302 dL_law_303 ?_
    refine ld_el (k := 2) (ik := 0) C hL hXs hbl hS (lv_at hl 0 rfl) (lv_at hl 3 rfl) (by omega) dL_law_304 dL_law_305 dL_law_306 (by decide) dL_law_307 dL_law_308 ?_
    refine lv_if_eq (tgt := 316) C.1 C.2.1 dL_law_309 (by decide) (fun _ => ?_) (fun h => absurd h0 h)
    refine lv_iconst (v := nI 0) C.1 C.2.1 dL_law_316 (by decide) ?_
    refine mcall (As := [.int (xs (j + 1)), .int (nI 0)]) (rest := [.int v]) C G0 hX hM hS hz km cf_X4_power ml_L_43 ⟨Nat.le_of_ble_eq_true rfl, Nat.le_of_ble_eq_true rfl⟩ ⟨rfl, rfl⟩ rfl hl.1 rfl (Nat.le_of_ble_eq_true rfl) dL_law_317 ⟨Nat.le_of_ble_eq_true rfl, Nat.le_of_ble_eq_true rfl⟩ (fun H locs hX hM hS hz => ?_)
    simp only [Option.toList, List.cons_append, List.nil_append]
    refine lv_icmp_eq (tgt := 567) C.1 C.2.1 dL_law_320 (by decide) (fun _ => ?_) (fun h => absurd rfl h)
    exact kb _ _ _ _ _ _ _ _ hs2 (by omega) hX hM hS hz hl
  · obtain ⟨S2, M2, v, hs2, hv, kx, km⟩ := p_power l g bx d hsim hN (xs (j + 1)) (nI 1) (by decide)
    refine lv_aload_n C.1 C.2.1 dL_law_276 rfl (lv_at hl 1 rfl) ?_
    refine ld_el (k := 1) (ik := 0) C hL hXs hbl hS (lv_at hl 0 rfl) (lv_at hl 3 rfl) (by omega) dL_law_277 dL_law_278 dL_law_279 (by decide) dL_law_280 dL_law_281 ?_
    refine ld_el (k := 2) (ik := 0) C hL hXs hbl hS (lv_at hl 0 rfl) (lv_at hl 3 rfl) (by omega) dL_law_282 dL_law_283 dL_law_284 (by decide) dL_law_285 dL_law_286 ?_
    refine lv_if_eq (tgt := 294) C.1 C.2.1 dL_law_287 (by decide) (fun h => absurd h h0) (fun _ => ?_)
    refine lv_iconst (v := nI 1) C.1 C.2.1 dL_law_290 (by decide) ?_
    refine lv_goto (tgt := 295) C.1 C.2.1 dL_law_291 (by decide) ?_
    refine xcall (As := [.int (xs (j + 1)), .int (nI 1)]) (rest := []) C G0 hX hM hS hz kx cf_X3_power ml_L_40 ⟨Nat.le_of_ble_eq_true rfl, Nat.le_of_ble_eq_true rfl⟩ ⟨rfl, rfl⟩ rfl hl.1 rfl (Nat.le_of_ble_eq_true rfl) dL_law_295 ⟨Nat.le_of_ble_eq_true rfl, Nat.le_of_ble_eq_true rfl⟩ (fun H locs hX hM hS hz => ?_)
    simp only [Option.toList, List.cons_append, List.nil_append]
    refine lv_aload_n C.1 C.2.1 dL_law_298 rfl (lv_at hl 2 rfl) ?_
    refine ld_el (k := 1) (ik := 0) C hL hXs hbl hS (lv_at hl 0 rfl) (lv_at hl 3 rfl) (by omega) dL_law_299 dL_law_300 dL_law_301 (by decide) dL_law_302 dL_law_303 ?_
    refine ld_el (k := 2) (ik := 0) C hL hXs hbl hS (lv_at hl 0 rfl) (lv_at hl 3 rfl) (by omega) dL_law_304 dL_law_305 dL_law_306 (by decide) dL_law_307 dL_law_308 ?_
    refine lv_if_eq (tgt := 316) C.1 C.2.1 dL_law_309 (by decide) (fun h => absurd h h0) (fun _ => ?_)
    refine lv_iconst (v := nI 1) C.1 C.2.1 dL_law_312 (by decide) ?_
    refine lv_goto (tgt := 317) C.1 C.2.1 dL_law_313 (by decide) ?_
    refine mcall (As := [.int (xs (j + 1)), .int (nI 1)]) (rest := [.int v]) C G0 hX hM hS hz km cf_X4_power ml_L_43 ⟨Nat.le_of_ble_eq_true rfl, Nat.le_of_ble_eq_true rfl⟩ ⟨rfl, rfl⟩ rfl hl.1 rfl (Nat.le_of_ble_eq_true rfl) dL_law_317 ⟨Nat.le_of_ble_eq_true rfl, Nat.le_of_ble_eq_true rfl⟩ (fun H locs hX hM hS hz => ?_)
    simp only [Option.toList, List.cons_append, List.nil_append]
    refine lv_icmp_eq (tgt := 567) C.1 C.2.1 dL_law_320 (by decide) (fun _ => ?_) (fun h => absurd rfl h)
    exact kb _ _ _ _ _ _ _ _ hs2 (by omega) hX hM hS hz hl
set_option maxHeartbeats 4000000 in
set_option maxRecDepth 100000 in
theorem lc_tick (C : Cx g p s m #[Value.ref b] c cL_law 8 RL) (hL : L ≤ 2561) (hXs : va_X b L xs s s.heap) (hbl : b < s.heap.size) (G0 : LG s bx d N) (hsim : SimC N cnt S M Fl G) (hcnt : cnt + 100 ≤ cm) (hcm : cm ≤ 1000000) (hX : RepX g bx N S Fl H) (hM : RepM g d N M G H) (hS : va_S (A0 s) s.heap H locs) (hz : d + 34 ≤ H.size) (hl : lv_has ls 8 [(0, .ref b), (1, .ref bx), (2, .ref d), (3, .int (nI j))]) (hj : j + 5 ≤ L) (kb : KB p l e s m below meth c b g bx d N j cm) : W p l e room_1 s m #[Value.ref b] below meth c H locs 600000 7302250 (lw_Z below #[Value.ref b] s) (F0 m 325 ls []) := by
  have hN := G0.2.2.2
  obtain ⟨S2, M2, Fl2, G2, c2, v, hs2, hc2, hv, kx, km⟩ := p_tick l g bx d hsim hN (xs (j + 1))
  refine lv_aload_n C.1 C.2.1 dL_law_325 rfl (lv_at hl 1 rfl) ?_
  refine ld_el (k := 1) (ik := 0) C hL hXs hbl hS (lv_at hl 0 rfl) (lv_at hl 3 rfl) (by omega) dL_law_326 dL_law_327 dL_law_328 (by decide) dL_law_329 dL_law_330 ?_
  refine xcall (As := [.int (xs (j + 1))]) (rest := []) C G0 hX hM hS hz kx cf_X3_tick ml_L_44 ⟨Nat.le_of_ble_eq_true rfl, Nat.le_of_ble_eq_true rfl⟩ ⟨rfl, rfl⟩ rfl hl.1 rfl (Nat.le_of_ble_eq_true rfl) dL_law_331 ⟨Nat.le_of_ble_eq_true rfl, Nat.le_of_ble_eq_true rfl⟩ (fun H locs hX hM hS hz => ?_)
  simp only [Option.toList, List.cons_append, List.nil_append]
  refine lv_aload_n C.1 C.2.1 dL_law_334 rfl (lv_at hl 2 rfl) ?_
  refine ld_el (k := 1) (ik := 0) C hL hXs hbl hS (lv_at hl 0 rfl) (lv_at hl 3 rfl) (by omega) dL_law_335 dL_law_336 dL_law_337 (by decide) dL_law_338 dL_law_339 ?_
  refine mcall (As := [.int (xs (j + 1))]) (rest := [.int v]) C G0 hX hM hS hz km cf_X4_tick ml_L_48 ⟨Nat.le_of_ble_eq_true rfl, Nat.le_of_ble_eq_true rfl⟩ ⟨rfl, rfl⟩ rfl hl.1 rfl (Nat.le_of_ble_eq_true rfl) dL_law_340 ⟨Nat.le_of_ble_eq_true rfl, Nat.le_of_ble_eq_true rfl⟩ (fun H locs hX hM hS hz => ?_)
  simp only [Option.toList, List.cons_append, List.nil_append]
  refine lv_icmp_eq (tgt := 567) C.1 C.2.1 dL_law_343 (by decide) (fun _ => ?_) (fun h => absurd rfl h)
  exact kb _ _ _ _ _ _ _ _ hs2 (by omega) hX hM hS hz hl
set_option maxHeartbeats 4000000 in
set_option maxRecDepth 100000 in
theorem lc_ring (C : Cx g p s m #[Value.ref b] c cL_law 8 RL) (hL : L ≤ 2561) (hXs : va_X b L xs s s.heap) (hbl : b < s.heap.size) (G0 : LG s bx d N) (hsim : SimC N cnt S M Fl G) (hcnt : cnt + 100 ≤ cm) (hcm : cm ≤ 1000000) (hX : RepX g bx N S Fl H) (hM : RepM g d N M G H) (hS : va_S (A0 s) s.heap H locs) (hz : d + 34 ≤ H.size) (hl : lv_has ls 8 [(0, .ref b), (1, .ref bx), (2, .ref d), (3, .int (nI j))]) (hj : j + 5 ≤ L) (kb : KB p l e s m below meth c b g bx d N j cm) : W p l e room_1 s m #[Value.ref b] below meth c H locs 600000 7302250 (lw_Z below #[Value.ref b] s) (F0 m 348 ls []) := by
  have hN := G0.2.2.2
  obtain ⟨v, kx, km⟩ := p_ring l g bx d hsim hN (xs (j + 1))
  refine lv_aload_n C.1 C.2.1 dL_law_348 rfl (lv_at hl 1 rfl) ?_
  refine ld_el (k := 1) (ik := 0) C hL hXs hbl hS (lv_at hl 0 rfl) (lv_at hl 3 rfl) (by omega) dL_law_349 dL_law_350 dL_law_351 (by decide) dL_law_352 dL_law_353 ?_
  refine xcall (As := [.int (xs (j + 1))]) (rest := []) C G0 hX hM hS hz kx cf_X3_ring ml_L_49 ⟨Nat.le_of_ble_eq_true rfl, Nat.le_of_ble_eq_true rfl⟩ ⟨rfl, rfl⟩ rfl hl.1 rfl (Nat.le_of_ble_eq_true rfl) dL_law_354 ⟨Nat.le_of_ble_eq_true rfl, Nat.le_of_ble_eq_true rfl⟩ (fun H locs hX hM hS hz => ?_)
  simp only [Option.toList, List.cons_append, List.nil_append]
  refine lv_aload_n C.1 C.2.1 dL_law_357 rfl (lv_at hl 2 rfl) ?_
  refine ld_el (k := 1) (ik := 0) C hL hXs hbl hS (lv_at hl 0 rfl) (lv_at hl 3 rfl) (by omega) dL_law_358 dL_law_359 dL_law_360 (by decide) dL_law_361 dL_law_362 ?_
  refine mcall (As := [.int (xs (j + 1))]) (rest := [.int v]) C G0 hX hM hS hz km cf_X4_ring ml_L_53 ⟨Nat.le_of_ble_eq_true rfl, Nat.le_of_ble_eq_true rfl⟩ ⟨rfl, rfl⟩ rfl hl.1 rfl (Nat.le_of_ble_eq_true rfl) dL_law_363 ⟨Nat.le_of_ble_eq_true rfl, Nat.le_of_ble_eq_true rfl⟩ (fun H locs hX hM hS hz => ?_)
  simp only [Option.toList, List.cons_append, List.nil_append]
  refine lv_icmp_eq (tgt := 567) C.1 C.2.1 dL_law_366 (by decide) (fun _ => ?_) (fun h => absurd rfl h)
  exact kb _ _ _ _ _ _ _ _ hsim (by omega) hX hM hS hz hl
set_option maxHeartbeats 4000000 in
set_option maxRecDepth 100000 in
theorem lc_state (C : Cx g p s m #[Value.ref b] c cL_law 8 RL) (hL : L ≤ 2561) (hXs : va_X b L xs s s.heap) (hbl : b < s.heap.size) (G0 : LG s bx d N) (hsim : SimC N cnt S M Fl G) (hcnt : cnt + 100 ≤ cm) (hcm : cm ≤ 1000000) (hX : RepX g bx N S Fl H) (hM : RepM g d N M G H) (hS : va_S (A0 s) s.heap H locs) (hz : d + 34 ≤ H.size) (hl : lv_has ls 8 [(0, .ref b), (1, .ref bx), (2, .ref d), (3, .int (nI j))]) (hj : j + 5 ≤ L) (kb : KB p l e s m below meth c b g bx d N j cm) : W p l e room_1 s m #[Value.ref b] below meth c H locs 600000 7302250 (lw_Z below #[Value.ref b] s) (F0 m 371 ls []) := by
  have hN := G0.2.2.2
  obtain ⟨v, kx, km⟩ := p_state l g bx d hsim hN (xs (j + 1))
  refine lv_aload_n C.1 C.2.1 dL_law_371 rfl (lv_at hl 1 rfl) ?_
  refine ld_el (k := 1) (ik := 0) C hL hXs hbl hS (lv_at hl 0 rfl) (lv_at hl 3 rfl) (by omega) dL_law_372 dL_law_373 dL_law_374 (by decide) dL_law_375 dL_law_376 ?_
  refine xcall (As := [.int (xs (j + 1))]) (rest := []) C G0 hX hM hS hz kx cf_X3_state ml_L_54 ⟨Nat.le_of_ble_eq_true rfl, Nat.le_of_ble_eq_true rfl⟩ ⟨rfl, rfl⟩ rfl hl.1 rfl (Nat.le_of_ble_eq_true rfl) dL_law_377 ⟨Nat.le_of_ble_eq_true rfl, Nat.le_of_ble_eq_true rfl⟩ (fun H locs hX hM hS hz => ?_)
  simp only [Option.toList, List.cons_append, List.nil_append]
  refine lv_aload_n C.1 C.2.1 dL_law_380 rfl (lv_at hl 2 rfl) ?_
  refine ld_el (k := 1) (ik := 0) C hL hXs hbl hS (lv_at hl 0 rfl) (lv_at hl 3 rfl) (by omega) dL_law_381 dL_law_382 dL_law_383 (by decide) dL_law_384 dL_law_385 ?_
  refine mcall (As := [.int (xs (j + 1))]) (rest := [.int v]) C G0 hX hM hS hz km cf_X4_state ml_L_57 ⟨Nat.le_of_ble_eq_true rfl, Nat.le_of_ble_eq_true rfl⟩ ⟨rfl, rfl⟩ rfl hl.1 rfl (Nat.le_of_ble_eq_true rfl) dL_law_386 ⟨Nat.le_of_ble_eq_true rfl, Nat.le_of_ble_eq_true rfl⟩ (fun H locs hX hM hS hz => ?_)
  simp only [Option.toList, List.cons_append, List.nil_append]
  refine lv_icmp_eq (tgt := 567) C.1 C.2.1 dL_law_389 (by decide) (fun _ => ?_) (fun h => absurd rfl h)
  exact kb _ _ _ _ _ _ _ _ hsim (by omega) hX hM hS hz hl
set_option maxHeartbeats 4000000 in
set_option maxRecDepth 100000 in
theorem lc_operating (C : Cx g p s m #[Value.ref b] c cL_law 8 RL) (hL : L ≤ 2561) (hXs : va_X b L xs s s.heap) (hbl : b < s.heap.size) (G0 : LG s bx d N) (hsim : SimC N cnt S M Fl G) (hcnt : cnt + 100 ≤ cm) (hcm : cm ≤ 1000000) (hX : RepX g bx N S Fl H) (hM : RepM g d N M G H) (hS : va_S (A0 s) s.heap H locs) (hz : d + 34 ≤ H.size) (hl : lv_has ls 8 [(0, .ref b), (1, .ref bx), (2, .ref d), (3, .int (nI j))]) (hj : j + 5 ≤ L) (kb : KB p l e s m below meth c b g bx d N j cm) : W p l e room_1 s m #[Value.ref b] below meth c H locs 600000 7302250 (lw_Z below #[Value.ref b] s) (F0 m 394 ls []) := by
  have hN := G0.2.2.2
  obtain ⟨v, kx, km⟩ := p_operating l g bx d hsim hN (xs (j + 1))
  refine lv_aload_n C.1 C.2.1 dL_law_394 rfl (lv_at hl 1 rfl) ?_
  refine ld_el (k := 1) (ik := 0) C hL hXs hbl hS (lv_at hl 0 rfl) (lv_at hl 3 rfl) (by omega) dL_law_395 dL_law_396 dL_law_397 (by decide) dL_law_398 dL_law_399 ?_
  refine xcall (As := [.int (xs (j + 1))]) (rest := []) C G0 hX hM hS hz kx cf_X3_operating ml_L_58 ⟨Nat.le_of_ble_eq_true rfl, Nat.le_of_ble_eq_true rfl⟩ ⟨rfl, rfl⟩ rfl hl.1 rfl (Nat.le_of_ble_eq_true rfl) dL_law_400 ⟨Nat.le_of_ble_eq_true rfl, Nat.le_of_ble_eq_true rfl⟩ (fun H locs hX hM hS hz => ?_)
  simp only [Option.toList, List.cons_append, List.nil_append]
  refine lv_aload_n C.1 C.2.1 dL_law_403 rfl (lv_at hl 2 rfl) ?_
  refine ld_el (k := 1) (ik := 0) C hL hXs hbl hS (lv_at hl 0 rfl) (lv_at hl 3 rfl) (by omega) dL_law_404 dL_law_405 dL_law_406 (by decide) dL_law_407 dL_law_408 ?_
  refine mcall (As := [.int (xs (j + 1))]) (rest := [.int v]) C G0 hX hM hS hz km cf_X4_operating ml_L_61 ⟨Nat.le_of_ble_eq_true rfl, Nat.le_of_ble_eq_true rfl⟩ ⟨rfl, rfl⟩ rfl hl.1 rfl (Nat.le_of_ble_eq_true rfl) dL_law_409 ⟨Nat.le_of_ble_eq_true rfl, Nat.le_of_ble_eq_true rfl⟩ (fun H locs hX hM hS hz => ?_)
  simp only [Option.toList, List.cons_append, List.nil_append]
  refine lv_icmp_eq (tgt := 567) C.1 C.2.1 dL_law_412 (by decide) (fun _ => ?_) (fun h => absurd rfl h)
  exact kb _ _ _ _ _ _ _ _ hsim (by omega) hX hM hS hz hl
set_option maxHeartbeats 4000000 in
set_option maxRecDepth 100000 in
theorem lc_station (C : Cx g p s m #[Value.ref b] c cL_law 8 RL) (hL : L ≤ 2561) (hXs : va_X b L xs s s.heap) (hbl : b < s.heap.size) (G0 : LG s bx d N) (hsim : SimC N cnt S M Fl G) (hcnt : cnt + 100 ≤ cm) (hcm : cm ≤ 1000000) (hX : RepX g bx N S Fl H) (hM : RepM g d N M G H) (hS : va_S (A0 s) s.heap H locs) (hz : d + 34 ≤ H.size) (hl : lv_has ls 8 [(0, .ref b), (1, .ref bx), (2, .ref d), (3, .int (nI j))]) (hj : j + 5 ≤ L) (kb : KB p l e s m below meth c b g bx d N j cm) : W p l e room_1 s m #[Value.ref b] below meth c H locs 600000 7302250 (lw_Z below #[Value.ref b] s) (F0 m 417 ls []) := by
  have hN := G0.2.2.2
  obtain ⟨v, kx, km⟩ := p_station l g bx d hsim hN (xs (j + 1)) (xs (j + 2))
  refine lv_aload_n C.1 C.2.1 dL_law_417 rfl (lv_at hl 1 rfl) ?_
  refine ld_el (k := 1) (ik := 0) C hL hXs hbl hS (lv_at hl 0 rfl) (lv_at hl 3 rfl) (by omega) dL_law_418 dL_law_419 dL_law_420 (by decide) dL_law_421 dL_law_422 ?_
  refine ld_el (k := 2) (ik := 0) C hL hXs hbl hS (lv_at hl 0 rfl) (lv_at hl 3 rfl) (by omega) dL_law_423 dL_law_424 dL_law_425 (by decide) dL_law_426 dL_law_427 ?_
  refine xcall (As := [.int (xs (j + 1)), .int (xs (j + 2))]) (rest := []) C G0 hX hM hS hz kx cf_X3_station ml_L_62 ⟨Nat.le_of_ble_eq_true rfl, Nat.le_of_ble_eq_true rfl⟩ ⟨rfl, rfl⟩ rfl hl.1 rfl (Nat.le_of_ble_eq_true rfl) dL_law_428 ⟨Nat.le_of_ble_eq_true rfl, Nat.le_of_ble_eq_true rfl⟩ (fun H locs hX hM hS hz => ?_)
  simp only [Option.toList, List.cons_append, List.nil_append]
  refine lv_aload_n C.1 C.2.1 dL_law_431 rfl (lv_at hl 2 rfl) ?_
  refine ld_el (k := 1) (ik := 0) C hL hXs hbl hS (lv_at hl 0 rfl) (lv_at hl 3 rfl) (by omega) dL_law_432 dL_law_433 dL_law_434 (by decide) dL_law_435 dL_law_436 ?_
  refine ld_el (k := 2) (ik := 0) C hL hXs hbl hS (lv_at hl 0 rfl) (lv_at hl 3 rfl) (by omega) dL_law_437 dL_law_438 dL_law_439 (by decide) dL_law_440 dL_law_441 ?_
  refine mcall (As := [.int (xs (j + 1)), .int (xs (j + 2))]) (rest := [.int v]) C G0 hX hM hS hz km cf_X4_station ml_L_66 ⟨Nat.le_of_ble_eq_true rfl, Nat.le_of_ble_eq_true rfl⟩ ⟨rfl, rfl⟩ rfl hl.1 rfl (Nat.le_of_ble_eq_true rfl) dL_law_442 ⟨Nat.le_of_ble_eq_true rfl, Nat.le_of_ble_eq_true rfl⟩ (fun H locs hX hM hS hz => ?_)
  simp only [Option.toList, List.cons_append, List.nil_append]
  refine lv_icmp_eq (tgt := 567) C.1 C.2.1 dL_law_445 (by decide) (fun _ => ?_) (fun h => absurd rfl h)
  exact kb _ _ _ _ _ _ _ _ hsim (by omega) hX hM hS hz hl
set_option maxHeartbeats 4000000 in
set_option maxRecDepth 100000 in
theorem lc_rotation (C : Cx g p s m #[Value.ref b] c cL_law 8 RL) (hL : L ≤ 2561) (hXs : va_X b L xs s s.heap) (hbl : b < s.heap.size) (G0 : LG s bx d N) (hsim : SimC N cnt S M Fl G) (hcnt : cnt + 100 ≤ cm) (hcm : cm ≤ 1000000) (hX : RepX g bx N S Fl H) (hM : RepM g d N M G H) (hS : va_S (A0 s) s.heap H locs) (hz : d + 34 ≤ H.size) (hl : lv_has ls 8 [(0, .ref b), (1, .ref bx), (2, .ref d), (3, .int (nI j))]) (hj : j + 5 ≤ L) (kb : KB p l e s m below meth c b g bx d N j cm) : W p l e room_1 s m #[Value.ref b] below meth c H locs 600000 7302250 (lw_Z below #[Value.ref b] s) (F0 m 450 ls []) := by
  have hN := G0.2.2.2
  obtain ⟨v, hv, kx, km⟩ := p_rotation l g bx d hsim hN (xs (j + 1))
  refine lv_aload_n C.1 C.2.1 dL_law_450 rfl (lv_at hl 1 rfl) ?_
  refine ld_el (k := 1) (ik := 0) C hL hXs hbl hS (lv_at hl 0 rfl) (lv_at hl 3 rfl) (by omega) dL_law_451 dL_law_452 dL_law_453 (by decide) dL_law_454 dL_law_455 ?_
  refine xcall (As := [.int (xs (j + 1))]) (rest := []) C G0 hX hM hS hz kx cf_X3_rotation ml_L_67 ⟨Nat.le_of_ble_eq_true rfl, Nat.le_of_ble_eq_true rfl⟩ ⟨rfl, rfl⟩ rfl hl.1 rfl (Nat.le_of_ble_eq_true rfl) dL_law_456 ⟨Nat.le_of_ble_eq_true rfl, Nat.le_of_ble_eq_true rfl⟩ (fun H locs hX hM hS hz => ?_)
  simp only [Option.toList, List.cons_append, List.nil_append]
  refine lv_f2d C.1 C.2.1 dL_law_459 (f2d_ok hv) ?_
  refine lv_dstore (lv' := [(4, .double (FP.f2d v)), (0, .ref b), (1, .ref bx), (2, .ref d), (3, .int (nI j))]) C.1 C.2.1 dL_law_460 hl (by decide) rfl (fun ls hl => ?_)
  refine lv_aload_n C.1 C.2.1 dL_law_462 rfl (lv_at hl 3 rfl) ?_
  refine ld_el (k := 1) (ik := 0) C hL hXs hbl hS (lv_at hl 1 rfl) (lv_at hl 4 rfl) (by omega) dL_law_463 dL_law_464 dL_law_465 (by decide) dL_law_466 dL_law_467 ?_
  refine mcall (As := [.int (xs (j + 1))]) (rest := []) C G0 hX hM hS hz km cf_X4_rotation ml_L_71 ⟨Nat.le_of_ble_eq_true rfl, Nat.le_of_ble_eq_true rfl⟩ ⟨rfl, rfl⟩ rfl hl.1 rfl (Nat.le_of_ble_eq_true rfl) dL_law_468 ⟨Nat.le_of_ble_eq_true rfl, Nat.le_of_ble_eq_true rfl⟩ (fun H locs hX hM hS hz => ?_)
  simp only [Option.toList, List.cons_append, List.nil_append]
  refine lv_f2d C.1 C.2.1 dL_law_471 (f2d_ok hv) ?_
  refine lv_dstore (lv' := [(6, .double (FP.f2d v)), (4, .double (FP.f2d v)), (0, .ref b), (1, .ref bx), (2, .ref d), (3, .int (nI j))]) C.1 C.2.1 dL_law_472 hl (by decide) rfl (fun ls hl => ?_)
  refine lv_dload C.1 C.2.1 dL_law_474 (lv_at hl 1 rfl) ?_
  refine lv_dload C.1 C.2.1 dL_law_476 (lv_at hl 0 rfl) ?_
  refine lv_dcmp C.1 C.2.1 dL_law_478 ?_
  refine lv_if_eq (tgt := 500) C.1 C.2.1 dL_law_479 (by decide) (fun _ => ?_) (fun hn => ?_)
  · skip
    refine lv_goto (tgt := 567) C.1 C.2.1 dL_law_500 (by decide) ?_
    have hl : lv_has ls 8 [(0, .ref b), (1, .ref bx), (2, .ref d), (3, .int (nI j))] := lv_sub hl [2, 3, 4, 5] rfl
    exact kb _ _ _ _ _ _ _ _ hsim (by omega) hX hM hS hz hl
  · refine lv_dload C.1 C.2.1 dL_law_482 (lv_at hl 1 rfl) ?_
    refine lv_dload C.1 C.2.1 dL_law_484 (lv_at hl 1 rfl) ?_
    refine lv_dcmp C.1 C.2.1 dL_law_486 ?_
    refine lv_if_eq (tgt := 498) C.1 C.2.1 dL_law_487 (by decide) (fun h => absurd h hn) (fun _ => ?_)
    refine lv_dload C.1 C.2.1 dL_law_490 (lv_at hl 0 rfl) ?_
    refine lv_dload C.1 C.2.1 dL_law_492 (lv_at hl 0 rfl) ?_
    refine lv_dcmp C.1 C.2.1 dL_law_494 ?_
    refine lv_if_ne (tgt := 500) C.1 C.2.1 dL_law_495 (by decide) (fun _ => ?_) (fun h => absurd h hn)
    refine lv_goto (tgt := 567) C.1 C.2.1 dL_law_500 (by decide) ?_
    have hl : lv_has ls 8 [(0, .ref b), (1, .ref bx), (2, .ref d), (3, .int (nI j))] := lv_sub hl [2, 3, 4, 5] rfl
    exact kb _ _ _ _ _ _ _ _ hsim (by omega) hX hM hS hz hl
set_option maxHeartbeats 4000000 in
set_option maxRecDepth 100000 in
theorem lc_share (C : Cx g p s m #[Value.ref b] c cL_law 8 RL) (hL : L ≤ 2561) (hXs : va_X b L xs s s.heap) (hbl : b < s.heap.size) (G0 : LG s bx d N) (hsim : SimC N cnt S M Fl G) (hcnt : cnt + 100 ≤ cm) (hcm : cm ≤ 1000000) (hX : RepX g bx N S Fl H) (hM : RepM g d N M G H) (hS : va_S (A0 s) s.heap H locs) (hz : d + 34 ≤ H.size) (hl : lv_has ls 8 [(0, .ref b), (1, .ref bx), (2, .ref d), (3, .int (nI j))]) (hj : j + 5 ≤ L) (kb : KB p l e s m below meth c b g bx d N j cm) : W p l e room_1 s m #[Value.ref b] below meth c H locs 600000 7302250 (lw_Z below #[Value.ref b] s) (F0 m 503 ls []) := by
  have hN := G0.2.2.2
  obtain ⟨v, kx, km⟩ := p_share l g bx d hsim hN (by omega) (xs (j + 1))
  refine lv_aload_n C.1 C.2.1 dL_law_503 rfl (lv_at hl 1 rfl) ?_
  refine ld_el (k := 1) (ik := 0) C hL hXs hbl hS (lv_at hl 0 rfl) (lv_at hl 3 rfl) (by omega) dL_law_504 dL_law_505 dL_law_506 (by decide) dL_law_507 dL_law_508 ?_
  refine xcall (As := [.int (xs (j + 1))]) (rest := []) C G0 hX hM hS hz kx cf_X3_share ml_L_72 ⟨Nat.le_of_ble_eq_true rfl, Nat.le_of_ble_eq_true rfl⟩ ⟨rfl, rfl⟩ rfl hl.1 rfl (Nat.le_of_ble_eq_true rfl) dL_law_509 ⟨Nat.le_of_ble_eq_true rfl, Nat.le_of_ble_eq_true rfl⟩ (fun H locs hX hM hS hz => ?_)
  simp only [Option.toList, List.cons_append, List.nil_append]
  refine lv_dstore (lv' := [(4, .double (v)), (0, .ref b), (1, .ref bx), (2, .ref d), (3, .int (nI j))]) C.1 C.2.1 dL_law_512 hl (by decide) rfl (fun ls hl => ?_)
  refine lv_aload_n C.1 C.2.1 dL_law_514 rfl (lv_at hl 3 rfl) ?_
  refine ld_el (k := 1) (ik := 0) C hL hXs hbl hS (lv_at hl 1 rfl) (lv_at hl 4 rfl) (by omega) dL_law_515 dL_law_516 dL_law_517 (by decide) dL_law_518 dL_law_519 ?_
  refine mcall (As := [.int (xs (j + 1))]) (rest := []) C G0 hX hM hS hz km cf_X4_share ml_L_76 ⟨Nat.le_of_ble_eq_true rfl, Nat.le_of_ble_eq_true rfl⟩ ⟨rfl, rfl⟩ rfl hl.1 rfl (Nat.le_of_ble_eq_true rfl) dL_law_520 ⟨Nat.le_of_ble_eq_true rfl, Nat.le_of_ble_eq_true rfl⟩ (fun H locs hX hM hS hz => ?_)
  simp only [Option.toList, List.cons_append, List.nil_append]
  refine lv_dstore (lv' := [(6, .double (v)), (4, .double (v)), (0, .ref b), (1, .ref bx), (2, .ref d), (3, .int (nI j))]) C.1 C.2.1 dL_law_523 hl (by decide) rfl (fun ls hl => ?_)
  refine lv_dload C.1 C.2.1 dL_law_525 (lv_at hl 1 rfl) ?_
  refine lv_dload C.1 C.2.1 dL_law_527 (lv_at hl 0 rfl) ?_
  refine lv_dcmp C.1 C.2.1 dL_law_529 ?_
  refine lv_if_eq (tgt := 551) C.1 C.2.1 dL_law_530 (by decide) (fun _ => ?_) (fun hn => ?_)
  · skip
    refine lv_goto (tgt := 567) C.1 C.2.1 dL_law_551 (by decide) ?_
    have hl : lv_has ls 8 [(0, .ref b), (1, .ref bx), (2, .ref d), (3, .int (nI j))] := lv_sub hl [2, 3, 4, 5] rfl
    exact kb _ _ _ _ _ _ _ _ hsim (by omega) hX hM hS hz hl
  · refine lv_dload C.1 C.2.1 dL_law_533 (lv_at hl 1 rfl) ?_
    refine lv_dload C.1 C.2.1 dL_law_535 (lv_at hl 1 rfl) ?_
    refine lv_dcmp C.1 C.2.1 dL_law_537 ?_
    refine lv_if_eq (tgt := 549) C.1 C.2.1 dL_law_538 (by decide) (fun h => absurd h hn) (fun _ => ?_)
    refine lv_dload C.1 C.2.1 dL_law_541 (lv_at hl 0 rfl) ?_
    refine lv_dload C.1 C.2.1 dL_law_543 (lv_at hl 0 rfl) ?_
    refine lv_dcmp C.1 C.2.1 dL_law_545 ?_
    refine lv_if_ne (tgt := 551) C.1 C.2.1 dL_law_546 (by decide) (fun _ => ?_) (fun h => absurd h hn)
    refine lv_goto (tgt := 567) C.1 C.2.1 dL_law_551 (by decide) ?_
    have hl : lv_has ls 8 [(0, .ref b), (1, .ref bx), (2, .ref d), (3, .int (nI j))] := lv_sub hl [2, 3, 4, 5] rfl
    exact kb _ _ _ _ _ _ _ _ hsim (by omega) hX hM hS hz hl
set_option maxHeartbeats 4000000 in
set_option maxRecDepth 100000 in
theorem lc_longest (C : Cx g p s m #[Value.ref b] c cL_law 8 RL) (hL : L ≤ 2561) (hXs : va_X b L xs s s.heap) (hbl : b < s.heap.size) (G0 : LG s bx d N) (hsim : SimC N cnt S M Fl G) (hcnt : cnt + 100 ≤ cm) (hcm : cm ≤ 1000000) (hX : RepX g bx N S Fl H) (hM : RepM g d N M G H) (hS : va_S (A0 s) s.heap H locs) (hz : d + 34 ≤ H.size) (hl : lv_has ls 8 [(0, .ref b), (1, .ref bx), (2, .ref d), (3, .int (nI j))]) (hj : j + 5 ≤ L) (kb : KB p l e s m below meth c b g bx d N j cm) : W p l e room_1 s m #[Value.ref b] below meth c H locs 600000 7302250 (lw_Z below #[Value.ref b] s) (F0 m 554 ls []) := by
  have hN := G0.2.2.2
  obtain ⟨v, kx, km⟩ := p_longest l g bx d hsim hN 
  refine lv_aload_n C.1 C.2.1 dL_law_554 rfl (lv_at hl 1 rfl) ?_
  refine xcall (As := []) (rest := []) C G0 hX hM hS hz kx cf_X3_longest ml_L_77 ⟨Nat.le_of_ble_eq_true rfl, Nat.le_of_ble_eq_true rfl⟩ ⟨rfl, rfl⟩ rfl hl.1 rfl (Nat.le_of_ble_eq_true rfl) dL_law_555 ⟨Nat.le_of_ble_eq_true rfl, Nat.le_of_ble_eq_true rfl⟩ (fun H locs hX hM hS hz => ?_)
  simp only [Option.toList, List.cons_append, List.nil_append]
  refine lv_aload_n C.1 C.2.1 dL_law_558 rfl (lv_at hl 2 rfl) ?_
  refine mcall (As := []) (rest := [.int v]) C G0 hX hM hS hz km cf_X4_longest ml_L_81 ⟨Nat.le_of_ble_eq_true rfl, Nat.le_of_ble_eq_true rfl⟩ ⟨rfl, rfl⟩ rfl hl.1 rfl (Nat.le_of_ble_eq_true rfl) dL_law_559 ⟨Nat.le_of_ble_eq_true rfl, Nat.le_of_ble_eq_true rfl⟩ (fun H locs hX hM hS hz => ?_)
  simp only [Option.toList, List.cons_append, List.nil_append]
  refine lv_icmp_eq (tgt := 567) C.1 C.2.1 dL_law_562 (by decide) (fun _ => ?_) (fun h => absurd rfl h)
  exact kb _ _ _ _ _ _ _ _ hsim (by omega) hX hM hS hz hl
end CASES
