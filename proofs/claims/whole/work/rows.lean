section
-- ===== PART A: goes FIRST, ahead of the names: the tables' words, and 'selects' of the private methods out of them =====
/-- a private method of a class that the tables say can be made, by its rows of tables_1 -/
def lw_okq (q : MethodName × Nat) : Prop := (q.1.cls ≠ "java/lang/invoke/MethodHandle" ∧ q.1.cls ≠ "java/lang/invoke/VarHandle") ∧ Cond.instantiable q.1.cls q.2 ∈ tables_1 ∧ Cond.privateMethod q.1 ∈ tables_1 ∧ Cond.instanceMethod q.1 ∈ tables_1
theorem lw_p0 : lw_okq (⟨"DualRing", "findRings", "()V"⟩, 6) := ⟨⟨by decide +kernel, by decide +kernel⟩, List.mem_of_getElem? (i := 7) (by decide +kernel), List.mem_of_getElem? (i := 164) (by decide +kernel), List.mem_of_getElem? (i := 165) (by decide +kernel)⟩
theorem lw_p1 : lw_okq (⟨"DualRing", "isUnbroken", "()Z"⟩, 6) := ⟨⟨by decide +kernel, by decide +kernel⟩, List.mem_of_getElem? (i := 7) (by decide +kernel), List.mem_of_getElem? (i := 168) (by decide +kernel), List.mem_of_getElem? (i := 169) (by decide +kernel)⟩
theorem lw_p2 : lw_okq (⟨"DualRing", "isJoinedToNext", "(I)Z"⟩, 6) := ⟨⟨by decide +kernel, by decide +kernel⟩, List.mem_of_getElem? (i := 7) (by decide +kernel), List.mem_of_getElem? (i := 172) (by decide +kernel), List.mem_of_getElem? (i := 173) (by decide +kernel)⟩
theorem lw_p3 : lw_okq (⟨"DualRing", "numberAfter", "(I)I"⟩, 6) := ⟨⟨by decide +kernel, by decide +kernel⟩, List.mem_of_getElem? (i := 7) (by decide +kernel), List.mem_of_getElem? (i := 176) (by decide +kernel), List.mem_of_getElem? (i := 177) (by decide +kernel)⟩
theorem lw_p4 : lw_okq (⟨"DualRing", "rowLength", "(I)I"⟩, 6) := ⟨⟨by decide +kernel, by decide +kernel⟩, List.mem_of_getElem? (i := 7) (by decide +kernel), List.mem_of_getElem? (i := 180) (by decide +kernel), List.mem_of_getElem? (i := 181) (by decide +kernel)⟩
theorem lw_p5 : lw_okq (⟨"DualRing", "numberBefore", "(I)I"⟩, 6) := ⟨⟨by decide +kernel, by decide +kernel⟩, List.mem_of_getElem? (i := 7) (by decide +kernel), List.mem_of_getElem? (i := 184) (by decide +kernel), List.mem_of_getElem? (i := 185) (by decide +kernel)⟩
theorem lw_p6 : lw_okq (⟨"DualRing", "reform", "(LDualRing$Ring;IZ)V"⟩, 6) := ⟨⟨by decide +kernel, by decide +kernel⟩, List.mem_of_getElem? (i := 7) (by decide +kernel), List.mem_of_getElem? (i := 188) (by decide +kernel), List.mem_of_getElem? (i := 189) (by decide +kernel)⟩
theorem lw_p7 : lw_okq (⟨"DualRing", "loseFrameBeingSent", "(LDualRing$Ring;)V"⟩, 6) := ⟨⟨by decide +kernel, by decide +kernel⟩, List.mem_of_getElem? (i := 7) (by decide +kernel), List.mem_of_getElem? (i := 192) (by decide +kernel), List.mem_of_getElem? (i := 193) (by decide +kernel)⟩
theorem lw_p8 : lw_okq (⟨"DualRing", "stationAt", "(LDualRing$Ring;I)LDualRing$Station;"⟩, 6) := ⟨⟨by decide +kernel, by decide +kernel⟩, List.mem_of_getElem? (i := 7) (by decide +kernel), List.mem_of_getElem? (i := 196) (by decide +kernel), List.mem_of_getElem? (i := 197) (by decide +kernel)⟩
theorem lw_p9 : lw_okq (⟨"DualRing", "numberAt", "(LDualRing$Ring;I)I"⟩, 6) := ⟨⟨by decide +kernel, by decide +kernel⟩, List.mem_of_getElem? (i := 7) (by decide +kernel), List.mem_of_getElem? (i := 200) (by decide +kernel), List.mem_of_getElem? (i := 201) (by decide +kernel)⟩
theorem lw_p10 : lw_okq (⟨"DualRing$Station", "queueFor", "(Z)LDualRing$FrameQueue;"⟩, 19) := ⟨⟨by decide +kernel, by decide +kernel⟩, List.mem_of_getElem? (i := 18) (by decide +kernel), List.mem_of_getElem? (i := 204) (by decide +kernel), List.mem_of_getElem? (i := 205) (by decide +kernel)⟩
theorem lw_p11 : lw_okq (⟨"DualRing$FrameQueue", "removeFirst", "()V"⟩, 4) := ⟨⟨by decide +kernel, by decide +kernel⟩, List.mem_of_getElem? (i := 24) (by decide +kernel), List.mem_of_getElem? (i := 208) (by decide +kernel), List.mem_of_getElem? (i := 209) (by decide +kernel)⟩
theorem lw_p12 : lw_okq (⟨"DualRing", "isStation", "(I)Z"⟩, 6) := ⟨⟨by decide +kernel, by decide +kernel⟩, List.mem_of_getElem? (i := 7) (by decide +kernel), List.mem_of_getElem? (i := 235) (by decide +kernel), List.mem_of_getElem? (i := 236) (by decide +kernel)⟩
theorem lw_p13 : lw_okq (⟨"DualRing$FrameQueue", "addLast", "(III)Z"⟩, 4) := ⟨⟨by decide +kernel, by decide +kernel⟩, List.mem_of_getElem? (i := 24) (by decide +kernel), List.mem_of_getElem? (i := 247) (by decide +kernel), List.mem_of_getElem? (i := 248) (by decide +kernel)⟩
theorem lw_p14 : lw_okq (⟨"DualRing$Station", "leaveRing", "()V"⟩, 19) := ⟨⟨by decide +kernel, by decide +kernel⟩, List.mem_of_getElem? (i := 18) (by decide +kernel), List.mem_of_getElem? (i := 259) (by decide +kernel), List.mem_of_getElem? (i := 260) (by decide +kernel)⟩
theorem lw_p15 : lw_okq (⟨"DualRing", "passTick", "(LDualRing$Ring;)V"⟩, 6) := ⟨⟨by decide +kernel, by decide +kernel⟩, List.mem_of_getElem? (i := 7) (by decide +kernel), List.mem_of_getElem? (i := 267) (by decide +kernel), List.mem_of_getElem? (i := 268) (by decide +kernel)⟩
def lw_privs_1 : List (MethodName × Nat) := [(⟨"DualRing", "findRings", "()V"⟩, 6), (⟨"DualRing", "isUnbroken", "()Z"⟩, 6), (⟨"DualRing", "isJoinedToNext", "(I)Z"⟩, 6), (⟨"DualRing", "numberAfter", "(I)I"⟩, 6), (⟨"DualRing", "rowLength", "(I)I"⟩, 6), (⟨"DualRing", "numberBefore", "(I)I"⟩, 6), (⟨"DualRing", "reform", "(LDualRing$Ring;IZ)V"⟩, 6), (⟨"DualRing", "loseFrameBeingSent", "(LDualRing$Ring;)V"⟩, 6), (⟨"DualRing", "stationAt", "(LDualRing$Ring;I)LDualRing$Station;"⟩, 6), (⟨"DualRing", "numberAt", "(LDualRing$Ring;I)I"⟩, 6), (⟨"DualRing$Station", "queueFor", "(Z)LDualRing$FrameQueue;"⟩, 19), (⟨"DualRing$FrameQueue", "removeFirst", "()V"⟩, 4), (⟨"DualRing", "isStation", "(I)Z"⟩, 6), (⟨"DualRing$FrameQueue", "addLast", "(III)Z"⟩, 4), (⟨"DualRing$Station", "leaveRing", "()V"⟩, 19), (⟨"DualRing", "passTick", "(LDualRing$Ring;)V"⟩, 6)]
theorem lw_r1 : ∀ q ∈ lw_privs_1, lw_okq q := List.forall_mem_cons.mpr ⟨lw_p0, List.forall_mem_cons.mpr ⟨lw_p1, List.forall_mem_cons.mpr ⟨lw_p2, List.forall_mem_cons.mpr ⟨lw_p3, List.forall_mem_cons.mpr ⟨lw_p4, List.forall_mem_cons.mpr ⟨lw_p5, List.forall_mem_cons.mpr ⟨lw_p6, List.forall_mem_cons.mpr ⟨lw_p7, List.forall_mem_cons.mpr ⟨lw_p8, List.forall_mem_cons.mpr ⟨lw_p9, List.forall_mem_cons.mpr ⟨lw_p10, List.forall_mem_cons.mpr ⟨lw_p11, List.forall_mem_cons.mpr ⟨lw_p12, List.forall_mem_cons.mpr ⟨lw_p13, List.forall_mem_cons.mpr ⟨lw_p14, List.forall_mem_cons.mpr ⟨lw_p15, fun _ h => absurd h List.not_mem_nil⟩⟩⟩⟩⟩⟩⟩⟩⟩⟩⟩⟩⟩⟩⟩⟩
theorem lw_p16 : lw_okq (⟨"DualRing$Ring", "claims", "()Z"⟩, 10) := ⟨⟨by decide +kernel, by decide +kernel⟩, List.mem_of_getElem? (i := 125) (by decide +kernel), List.mem_of_getElem? (i := 271) (by decide +kernel), List.mem_of_getElem? (i := 272) (by decide +kernel)⟩
theorem lw_p17 : lw_okq (⟨"DualRing", "passClaim", "(LDualRing$Ring;)V"⟩, 6) := ⟨⟨by decide +kernel, by decide +kernel⟩, List.mem_of_getElem? (i := 7) (by decide +kernel), List.mem_of_getElem? (i := 275) (by decide +kernel), List.mem_of_getElem? (i := 276) (by decide +kernel)⟩
theorem lw_p18 : lw_okq (⟨"DualRing", "operate", "(LDualRing$Ring;)V"⟩, 6) := ⟨⟨by decide +kernel, by decide +kernel⟩, List.mem_of_getElem? (i := 7) (by decide +kernel), List.mem_of_getElem? (i := 279) (by decide +kernel), List.mem_of_getElem? (i := 280) (by decide +kernel)⟩
theorem lw_p19 : lw_okq (⟨"DualRing", "winningPlace", "(LDualRing$Ring;)I"⟩, 6) := ⟨⟨by decide +kernel, by decide +kernel⟩, List.mem_of_getElem? (i := 7) (by decide +kernel), List.mem_of_getElem? (i := 283) (by decide +kernel), List.mem_of_getElem? (i := 284) (by decide +kernel)⟩
theorem lw_p20 : lw_okq (⟨"DualRing$Station", "resetTimers", "()V"⟩, 19) := ⟨⟨by decide +kernel, by decide +kernel⟩, List.mem_of_getElem? (i := 18) (by decide +kernel), List.mem_of_getElem? (i := 287) (by decide +kernel), List.mem_of_getElem? (i := 288) (by decide +kernel)⟩
theorem lw_p21 : lw_okq (⟨"DualRing", "leave", "(LDualRing$Ring;)V"⟩, 6) := ⟨⟨by decide +kernel, by decide +kernel⟩, List.mem_of_getElem? (i := 7) (by decide +kernel), List.mem_of_getElem? (i := 291) (by decide +kernel), List.mem_of_getElem? (i := 292) (by decide +kernel)⟩
theorem lw_p22 : lw_okq (⟨"DualRing", "runTimers", "(LDualRing$Ring;)Z"⟩, 6) := ⟨⟨by decide +kernel, by decide +kernel⟩, List.mem_of_getElem? (i := 7) (by decide +kernel), List.mem_of_getElem? (i := 295) (by decide +kernel), List.mem_of_getElem? (i := 296) (by decide +kernel)⟩
theorem lw_p23 : lw_okq (⟨"DualRing$Station", "runTimer", "(I)V"⟩, 19) := ⟨⟨by decide +kernel, by decide +kernel⟩, List.mem_of_getElem? (i := 18) (by decide +kernel), List.mem_of_getElem? (i := 299) (by decide +kernel), List.mem_of_getElem? (i := 300) (by decide +kernel)⟩
theorem lw_p24 : lw_okq (⟨"DualRing", "passToken", "(LDualRing$Ring;)V"⟩, 6) := ⟨⟨by decide +kernel, by decide +kernel⟩, List.mem_of_getElem? (i := 7) (by decide +kernel), List.mem_of_getElem? (i := 303) (by decide +kernel), List.mem_of_getElem? (i := 304) (by decide +kernel)⟩
theorem lw_p25 : lw_okq (⟨"DualRing", "arrive", "(LDualRing$Ring;)V"⟩, 6) := ⟨⟨by decide +kernel, by decide +kernel⟩, List.mem_of_getElem? (i := 7) (by decide +kernel), List.mem_of_getElem? (i := 307) (by decide +kernel), List.mem_of_getElem? (i := 308) (by decide +kernel)⟩
theorem lw_p26 : lw_okq (⟨"DualRing$Station", "takeToken", "(II)V"⟩, 19) := ⟨⟨by decide +kernel, by decide +kernel⟩, List.mem_of_getElem? (i := 18) (by decide +kernel), List.mem_of_getElem? (i := 311) (by decide +kernel), List.mem_of_getElem? (i := 312) (by decide +kernel)⟩
theorem lw_p27 : lw_okq (⟨"DualRing", "passFrame", "(LDualRing$Ring;)V"⟩, 6) := ⟨⟨by decide +kernel, by decide +kernel⟩, List.mem_of_getElem? (i := 7) (by decide +kernel), List.mem_of_getElem? (i := 316) (by decide +kernel), List.mem_of_getElem? (i := 317) (by decide +kernel)⟩
theorem lw_p28 : lw_okq (⟨"DualRing", "finishFrame", "(LDualRing$Ring;LDualRing$Station;)V"⟩, 6) := ⟨⟨by decide +kernel, by decide +kernel⟩, List.mem_of_getElem? (i := 7) (by decide +kernel), List.mem_of_getElem? (i := 320) (by decide +kernel), List.mem_of_getElem? (i := 321) (by decide +kernel)⟩
theorem lw_p29 : lw_okq (⟨"DualRing$Station", "receive", "(II)V"⟩, 19) := ⟨⟨by decide +kernel, by decide +kernel⟩, List.mem_of_getElem? (i := 18) (by decide +kernel), List.mem_of_getElem? (i := 324) (by decide +kernel), List.mem_of_getElem? (i := 325) (by decide +kernel)⟩
theorem lw_p30 : lw_okq (⟨"DualRing", "beginFrameOrLeave", "(LDualRing$Ring;)V"⟩, 6) := ⟨⟨by decide +kernel, by decide +kernel⟩, List.mem_of_getElem? (i := 7) (by decide +kernel), List.mem_of_getElem? (i := 328) (by decide +kernel), List.mem_of_getElem? (i := 329) (by decide +kernel)⟩
theorem lw_p31 : lw_okq (⟨"DualRing$Station", "mayBeginSynchronous", "()Z"⟩, 19) := ⟨⟨by decide +kernel, by decide +kernel⟩, List.mem_of_getElem? (i := 18) (by decide +kernel), List.mem_of_getElem? (i := 332) (by decide +kernel), List.mem_of_getElem? (i := 333) (by decide +kernel)⟩
def lw_privs_2 : List (MethodName × Nat) := [(⟨"DualRing$Ring", "claims", "()Z"⟩, 10), (⟨"DualRing", "passClaim", "(LDualRing$Ring;)V"⟩, 6), (⟨"DualRing", "operate", "(LDualRing$Ring;)V"⟩, 6), (⟨"DualRing", "winningPlace", "(LDualRing$Ring;)I"⟩, 6), (⟨"DualRing$Station", "resetTimers", "()V"⟩, 19), (⟨"DualRing", "leave", "(LDualRing$Ring;)V"⟩, 6), (⟨"DualRing", "runTimers", "(LDualRing$Ring;)Z"⟩, 6), (⟨"DualRing$Station", "runTimer", "(I)V"⟩, 19), (⟨"DualRing", "passToken", "(LDualRing$Ring;)V"⟩, 6), (⟨"DualRing", "arrive", "(LDualRing$Ring;)V"⟩, 6), (⟨"DualRing$Station", "takeToken", "(II)V"⟩, 19), (⟨"DualRing", "passFrame", "(LDualRing$Ring;)V"⟩, 6), (⟨"DualRing", "finishFrame", "(LDualRing$Ring;LDualRing$Station;)V"⟩, 6), (⟨"DualRing$Station", "receive", "(II)V"⟩, 19), (⟨"DualRing", "beginFrameOrLeave", "(LDualRing$Ring;)V"⟩, 6), (⟨"DualRing$Station", "mayBeginSynchronous", "()Z"⟩, 19)]
theorem lw_r2 : ∀ q ∈ lw_privs_2, lw_okq q := List.forall_mem_cons.mpr ⟨lw_p16, List.forall_mem_cons.mpr ⟨lw_p17, List.forall_mem_cons.mpr ⟨lw_p18, List.forall_mem_cons.mpr ⟨lw_p19, List.forall_mem_cons.mpr ⟨lw_p20, List.forall_mem_cons.mpr ⟨lw_p21, List.forall_mem_cons.mpr ⟨lw_p22, List.forall_mem_cons.mpr ⟨lw_p23, List.forall_mem_cons.mpr ⟨lw_p24, List.forall_mem_cons.mpr ⟨lw_p25, List.forall_mem_cons.mpr ⟨lw_p26, List.forall_mem_cons.mpr ⟨lw_p27, List.forall_mem_cons.mpr ⟨lw_p28, List.forall_mem_cons.mpr ⟨lw_p29, List.forall_mem_cons.mpr ⟨lw_p30, List.forall_mem_cons.mpr ⟨lw_p31, fun _ h => absurd h List.not_mem_nil⟩⟩⟩⟩⟩⟩⟩⟩⟩⟩⟩⟩⟩⟩⟩⟩
theorem lw_p32 : lw_okq (⟨"DualRing$Station", "mayBeginAsynchronous", "(I)Z"⟩, 19) := ⟨⟨by decide +kernel, by decide +kernel⟩, List.mem_of_getElem? (i := 18) (by decide +kernel), List.mem_of_getElem? (i := 336) (by decide +kernel), List.mem_of_getElem? (i := 337) (by decide +kernel)⟩
theorem lw_p33 : lw_okq (⟨"DualRing", "claim", "(LDualRing$Ring;)V"⟩, 6) := ⟨⟨by decide +kernel, by decide +kernel⟩, List.mem_of_getElem? (i := 7) (by decide +kernel), List.mem_of_getElem? (i := 340) (by decide +kernel), List.mem_of_getElem? (i := 341) (by decide +kernel)⟩
theorem lw_p34 : lw_okq (⟨"DualRingModel", "arrange", "()V"⟩, 36) := ⟨⟨by decide +kernel, by decide +kernel⟩, List.mem_of_getElem? (i := 376) (by decide +kernel), List.mem_of_getElem? (i := 382) (by decide +kernel), List.mem_of_getElem? (i := 383) (by decide +kernel)⟩
theorem lw_p35 : lw_okq (⟨"DualRingModel", "isJoined", "(I)Z"⟩, 36) := ⟨⟨by decide +kernel, by decide +kernel⟩, List.mem_of_getElem? (i := 376) (by decide +kernel), List.mem_of_getElem? (i := 386) (by decide +kernel), List.mem_of_getElem? (i := 387) (by decide +kernel)⟩
theorem lw_p36 : lw_okq (⟨"DualRingModel", "next", "(I)I"⟩, 36) := ⟨⟨by decide +kernel, by decide +kernel⟩, List.mem_of_getElem? (i := 376) (by decide +kernel), List.mem_of_getElem? (i := 390) (by decide +kernel), List.mem_of_getElem? (i := 391) (by decide +kernel)⟩
theorem lw_p37 : lw_okq (⟨"DualRingModel", "previous", "(I)I"⟩, 36) := ⟨⟨by decide +kernel, by decide +kernel⟩, List.mem_of_getElem? (i := 376) (by decide +kernel), List.mem_of_getElem? (i := 394) (by decide +kernel), List.mem_of_getElem? (i := 395) (by decide +kernel)⟩
theorem lw_p38 : lw_okq (⟨"DualRingModel", "follow", "(I)I"⟩, 36) := ⟨⟨by decide +kernel, by decide +kernel⟩, List.mem_of_getElem? (i := 376) (by decide +kernel), List.mem_of_getElem? (i := 398) (by decide +kernel), List.mem_of_getElem? (i := 399) (by decide +kernel)⟩
theorem lw_p39 : lw_okq (⟨"DualRingModel", "isAsBefore", "(IIZ)Z"⟩, 36) := ⟨⟨by decide +kernel, by decide +kernel⟩, List.mem_of_getElem? (i := 376) (by decide +kernel), List.mem_of_getElem? (i := 402) (by decide +kernel), List.mem_of_getElem? (i := 403) (by decide +kernel)⟩
theorem lw_p40 : lw_okq (⟨"DualRingModel", "claim", "(I)V"⟩, 36) := ⟨⟨by decide +kernel, by decide +kernel⟩, List.mem_of_getElem? (i := 376) (by decide +kernel), List.mem_of_getElem? (i := 406) (by decide +kernel), List.mem_of_getElem? (i := 407) (by decide +kernel)⟩
theorem lw_p41 : lw_okq (⟨"DualRingModel", "takeOut", "(I)V"⟩, 36) := ⟨⟨by decide +kernel, by decide +kernel⟩, List.mem_of_getElem? (i := 376) (by decide +kernel), List.mem_of_getElem? (i := 410) (by decide +kernel), List.mem_of_getElem? (i := 411) (by decide +kernel)⟩
theorem lw_p42 : lw_okq (⟨"DualRingModel", "isStation", "(I)Z"⟩, 36) := ⟨⟨by decide +kernel, by decide +kernel⟩, List.mem_of_getElem? (i := 376) (by decide +kernel), List.mem_of_getElem? (i := 528) (by decide +kernel), List.mem_of_getElem? (i := 529) (by decide +kernel)⟩
theorem lw_p43 : lw_okq (⟨"DualRingModel", "tickRing", "(I)V"⟩, 36) := ⟨⟨by decide +kernel, by decide +kernel⟩, List.mem_of_getElem? (i := 376) (by decide +kernel), List.mem_of_getElem? (i := 552) (by decide +kernel), List.mem_of_getElem? (i := 553) (by decide +kernel)⟩
theorem lw_p44 : lw_okq (⟨"DualRingModel", "operate", "(I)V"⟩, 36) := ⟨⟨by decide +kernel, by decide +kernel⟩, List.mem_of_getElem? (i := 376) (by decide +kernel), List.mem_of_getElem? (i := 556) (by decide +kernel), List.mem_of_getElem? (i := 557) (by decide +kernel)⟩
theorem lw_p45 : lw_okq (⟨"DualRingModel", "leave", "(I)V"⟩, 36) := ⟨⟨by decide +kernel, by decide +kernel⟩, List.mem_of_getElem? (i := 376) (by decide +kernel), List.mem_of_getElem? (i := 560) (by decide +kernel), List.mem_of_getElem? (i := 561) (by decide +kernel)⟩
theorem lw_p46 : lw_okq (⟨"DualRingModel", "age", "(I)Z"⟩, 36) := ⟨⟨by decide +kernel, by decide +kernel⟩, List.mem_of_getElem? (i := 376) (by decide +kernel), List.mem_of_getElem? (i := 564) (by decide +kernel), List.mem_of_getElem? (i := 565) (by decide +kernel)⟩
theorem lw_p47 : lw_okq (⟨"DualRingModel", "arrive", "(I)V"⟩, 36) := ⟨⟨by decide +kernel, by decide +kernel⟩, List.mem_of_getElem? (i := 376) (by decide +kernel), List.mem_of_getElem? (i := 568) (by decide +kernel), List.mem_of_getElem? (i := 569) (by decide +kernel)⟩
def lw_privs_3 : List (MethodName × Nat) := [(⟨"DualRing$Station", "mayBeginAsynchronous", "(I)Z"⟩, 19), (⟨"DualRing", "claim", "(LDualRing$Ring;)V"⟩, 6), (⟨"DualRingModel", "arrange", "()V"⟩, 36), (⟨"DualRingModel", "isJoined", "(I)Z"⟩, 36), (⟨"DualRingModel", "next", "(I)I"⟩, 36), (⟨"DualRingModel", "previous", "(I)I"⟩, 36), (⟨"DualRingModel", "follow", "(I)I"⟩, 36), (⟨"DualRingModel", "isAsBefore", "(IIZ)Z"⟩, 36), (⟨"DualRingModel", "claim", "(I)V"⟩, 36), (⟨"DualRingModel", "takeOut", "(I)V"⟩, 36), (⟨"DualRingModel", "isStation", "(I)Z"⟩, 36), (⟨"DualRingModel", "tickRing", "(I)V"⟩, 36), (⟨"DualRingModel", "operate", "(I)V"⟩, 36), (⟨"DualRingModel", "leave", "(I)V"⟩, 36), (⟨"DualRingModel", "age", "(I)Z"⟩, 36), (⟨"DualRingModel", "arrive", "(I)V"⟩, 36)]
theorem lw_r3 : ∀ q ∈ lw_privs_3, lw_okq q := List.forall_mem_cons.mpr ⟨lw_p32, List.forall_mem_cons.mpr ⟨lw_p33, List.forall_mem_cons.mpr ⟨lw_p34, List.forall_mem_cons.mpr ⟨lw_p35, List.forall_mem_cons.mpr ⟨lw_p36, List.forall_mem_cons.mpr ⟨lw_p37, List.forall_mem_cons.mpr ⟨lw_p38, List.forall_mem_cons.mpr ⟨lw_p39, List.forall_mem_cons.mpr ⟨lw_p40, List.forall_mem_cons.mpr ⟨lw_p41, List.forall_mem_cons.mpr ⟨lw_p42, List.forall_mem_cons.mpr ⟨lw_p43, List.forall_mem_cons.mpr ⟨lw_p44, List.forall_mem_cons.mpr ⟨lw_p45, List.forall_mem_cons.mpr ⟨lw_p46, List.forall_mem_cons.mpr ⟨lw_p47, fun _ h => absurd h List.not_mem_nil⟩⟩⟩⟩⟩⟩⟩⟩⟩⟩⟩⟩⟩⟩⟩⟩
theorem lw_p48 : lw_okq (⟨"DualRingModel", "holder", "(I)I"⟩, 36) := ⟨⟨by decide +kernel, by decide +kernel⟩, List.mem_of_getElem? (i := 376) (by decide +kernel), List.mem_of_getElem? (i := 572) (by decide +kernel), List.mem_of_getElem? (i := 573) (by decide +kernel)⟩
theorem lw_p49 : lw_okq (⟨"DualRingModel", "finish", "(I)V"⟩, 36) := ⟨⟨by decide +kernel, by decide +kernel⟩, List.mem_of_getElem? (i := 376) (by decide +kernel), List.mem_of_getElem? (i := 577) (by decide +kernel), List.mem_of_getElem? (i := 578) (by decide +kernel)⟩
theorem lw_p50 : lw_okq (⟨"DualRingModel", "begin", "(I)V"⟩, 36) := ⟨⟨by decide +kernel, by decide +kernel⟩, List.mem_of_getElem? (i := 376) (by decide +kernel), List.mem_of_getElem? (i := 581) (by decide +kernel), List.mem_of_getElem? (i := 582) (by decide +kernel)⟩
def lw_privs_4 : List (MethodName × Nat) := [(⟨"DualRingModel", "holder", "(I)I"⟩, 36), (⟨"DualRingModel", "finish", "(I)V"⟩, 36), (⟨"DualRingModel", "begin", "(I)V"⟩, 36)]
theorem lw_r4 : ∀ q ∈ lw_privs_4, lw_okq q := List.forall_mem_cons.mpr ⟨lw_p48, List.forall_mem_cons.mpr ⟨lw_p49, List.forall_mem_cons.mpr ⟨lw_p50, fun _ h => absurd h List.not_mem_nil⟩⟩⟩
def lw_privs : List (MethodName × Nat) := lw_privs_1 ++ (lw_privs_2 ++ (lw_privs_3 ++ (lw_privs_4)))
def lw_tbl : List Cond := k2_sels lw_privs ++ tables_1
theorem lw_privs_ok : ∀ q ∈ lw_privs, lw_okq q := by
  show ∀ q ∈ lw_privs_1 ++ (lw_privs_2 ++ (lw_privs_3 ++ (lw_privs_4))), lw_okq q
  exact List.forall_mem_append.mpr ⟨lw_r1, List.forall_mem_append.mpr ⟨lw_r2, List.forall_mem_append.mpr ⟨lw_r3, lw_r4⟩⟩⟩
end
section
def RX0 : String := "DualRing$FrameQueue"
def TX0 : u_T := fun k => match k with
  | 0 => ("DualRing$FrameQueue", "targets", "[I", true)
  | 1 => ("DualRing$FrameQueue", "lengths", "[I", true)
  | 2 => ("DualRing$FrameQueue", "priorities", "[I", true)
  | _ => ("DualRing$FrameQueue", "size", "I", false)
def tyX0 : Nat → FieldType := fun k => match k with
  | 0 => .array .int
  | 1 => .array .int
  | 2 => .array .int
  | _ => .int
abbrev wsX00 : List Cond := u_ws RX0 TX0 4
theorem nmX0 : ∀ a, a < 4 → ∀ b, b < 4 → a ≠ b → (TX0 a).2.1 ≠ (TX0 b).2.1 := by decide +kernel
theorem tyX0_ok : ∀ k, k < 4 → parseFieldDescriptor (TX0 k).2.2.1 = some (tyX0 k) := by decide +kernel
abbrev cX0_init : ByteArray := prog_2_method_1_code
def yX0_init : MethodName := ⟨RX0, "<init>", "()V"⟩
abbrev cX0_addLast : ByteArray := prog_2_method_2_code
def yX0_addLast : MethodName := ⟨RX0, "addLast", "(III)Z"⟩
abbrev cX0_removeFirst : ByteArray := prog_2_method_3_code
def yX0_removeFirst : MethodName := ⟨RX0, "removeFirst", "()V"⟩
def RX1 : String := "DualRing$Ring"
def TX1 : u_T := fun k => match k with
  | 0 => ("DualRing$Ring", "first", "I", true)
  | 1 => ("DualRing$Ring", "length", "I", false)
  | 2 => ("DualRing$Ring", "closed", "Z", false)
  | 3 => ("DualRing$Ring", "claimLeft", "I", false)
  | 4 => ("DualRing$Ring", "targetTime", "I", false)
  | 5 => ("DualRing$Ring", "place", "I", false)
  | 6 => ("DualRing$Ring", "hopLeft", "I", false)
  | 7 => ("DualRing$Ring", "frameLeft", "I", false)
  | 8 => ("DualRing$Ring", "sendsSynchronous", "Z", false)
  | _ => ("DualRing$Ring", "begunAsynchronous", "Z", false)
def tyX1 : Nat → FieldType := fun k => match k with
  | 0 => .int
  | 1 => .int
  | 2 => .boolean
  | 3 => .int
  | 4 => .int
  | 5 => .int
  | 6 => .int
  | 7 => .int
  | 8 => .boolean
  | _ => .boolean
abbrev wsX10 : List Cond := u_ws RX1 TX1 10
theorem nmX1 : ∀ a, a < 10 → ∀ b, b < 10 → a ≠ b → (TX1 a).2.1 ≠ (TX1 b).2.1 := by decide +kernel
theorem tyX1_ok : ∀ k, k < 10 → parseFieldDescriptor (TX1 k).2.2.1 = some (tyX1 k) := by decide +kernel
abbrev cX1_init : ByteArray := prog_3_method_1_code
def yX1_init : MethodName := ⟨RX1, "<init>", "(I)V"⟩
abbrev cX1_claims : ByteArray := prog_3_method_2_code
def yX1_claims : MethodName := ⟨RX1, "claims", "()Z"⟩
def RX2 : String := "DualRing$Station"
def TX2 : u_T := fun k => match k with
  | 0 => ("DualRing$Station", "synchronous", "LDualRing$FrameQueue;", true)
  | 1 => ("DualRing$Station", "asynchronous", "LDualRing$FrameQueue;", true)
  | 2 => ("DualRing$Station", "on", "Z", false)
  | 3 => ("DualRing$Station", "firstOfRing", "I", false)
  | 4 => ("DualRing$Station", "bid", "I", false)
  | 5 => ("DualRing$Station", "allotment", "I", false)
  | 6 => ("DualRing$Station", "trt", "I", false)
  | 7 => ("DualRing$Station", "late", "I", false)
  | 8 => ("DualRing$Station", "tht", "I", false)
  | 9 => ("DualRing$Station", "allowed", "I", false)
  | 10 => ("DualRing$Station", "since", "I", false)
  | 11 => ("DualRing$Station", "visited", "Z", false)
  | 12 => ("DualRing$Station", "heard", "I", false)
  | 13 => ("DualRing$Station", "rotation", "F", false)
  | 14 => ("DualRing$Station", "framesReceived", "I", false)
  | 15 => ("DualRing$Station", "ticksReceived", "I", false)
  | 16 => ("DualRing$Station", "last", "I", false)
  | 17 => ("DualRing$Station", "ticksSent", "I", false)
  | _ => ("DualRing$Station", "framesLost", "I", false)
def tyX2 : Nat → FieldType := fun k => match k with
  | 0 => .object "DualRing$FrameQueue"
  | 1 => .object "DualRing$FrameQueue"
  | 2 => .boolean
  | 3 => .int
  | 4 => .int
  | 5 => .int
  | 6 => .int
  | 7 => .int
  | 8 => .int
  | 9 => .int
  | 10 => .int
  | 11 => .boolean
  | 12 => .int
  | 13 => .float
  | 14 => .int
  | 15 => .int
  | 16 => .int
  | 17 => .int
  | _ => .int
abbrev wsX20 : List Cond := u_ws RX2 TX2 19
theorem nmX2 : ∀ a, a < 19 → ∀ b, b < 19 → a ≠ b → (TX2 a).2.1 ≠ (TX2 b).2.1 := by decide +kernel
theorem tyX2_ok : ∀ k, k < 19 → parseFieldDescriptor (TX2 k).2.2.1 = some (tyX2 k) := by decide +kernel
abbrev cX2_init : ByteArray := prog_4_method_1_code
def yX2_init : MethodName := ⟨RX2, "<init>", "()V"⟩
abbrev cX2_queueFor : ByteArray := prog_4_method_2_code
def yX2_queueFor : MethodName := ⟨RX2, "queueFor", "(Z)LDualRing$FrameQueue;"⟩
abbrev cX2_leaveRing : ByteArray := prog_4_method_3_code
def yX2_leaveRing : MethodName := ⟨RX2, "leaveRing", "()V"⟩
abbrev cX2_resetTimers : ByteArray := prog_4_method_4_code
def yX2_resetTimers : MethodName := ⟨RX2, "resetTimers", "()V"⟩
abbrev cX2_runTimer : ByteArray := prog_4_method_5_code
def yX2_runTimer : MethodName := ⟨RX2, "runTimer", "(I)V"⟩
abbrev cX2_takeToken : ByteArray := prog_4_method_6_code
def yX2_takeToken : MethodName := ⟨RX2, "takeToken", "(II)V"⟩
abbrev cX2_mayBeginSynchronous : ByteArray := prog_4_method_7_code
def yX2_mayBeginSynchronous : MethodName := ⟨RX2, "mayBeginSynchronous", "()Z"⟩
abbrev cX2_mayBeginAsynchronous : ByteArray := prog_4_method_8_code
def yX2_mayBeginAsynchronous : MethodName := ⟨RX2, "mayBeginAsynchronous", "(I)Z"⟩
abbrev cX2_receive : ByteArray := prog_4_method_9_code
def yX2_receive : MethodName := ⟨RX2, "receive", "(II)V"⟩
def RX3 : String := "DualRing"
def TX3 : u_T := fun k => match k with
  | 0 => ("DualRing", "count", "I", true)
  | 1 => ("DualRing", "stations", "[LDualRing$Station;", true)
  | 2 => ("DualRing", "wholeCables", "[Z", true)
  | 3 => ("DualRing", "rings", "[LDualRing$Ring;", true)
  | 4 => ("DualRing", "ticksSoFar", "I", false)
  | _ => ("DualRing", "longestSince", "I", false)
def tyX3 : Nat → FieldType := fun k => match k with
  | 0 => .int
  | 1 => .array (.object "DualRing$Station")
  | 2 => .array .boolean
  | 3 => .array (.object "DualRing$Ring")
  | 4 => .int
  | _ => .int
abbrev wsX30 : List Cond := u_ws RX3 TX3 6
theorem nmX3 : ∀ a, a < 6 → ∀ b, b < 6 → a ≠ b → (TX3 a).2.1 ≠ (TX3 b).2.1 := by decide +kernel
theorem tyX3_ok : ∀ k, k < 6 → parseFieldDescriptor (TX3 k).2.2.1 = some (tyX3 k) := by decide +kernel
abbrev cX3_init : ByteArray := prog_1_method_1_code
def yX3_init : MethodName := ⟨RX3, "<init>", "(I)V"⟩
abbrev cX3_bid : ByteArray := prog_1_method_2_code
def yX3_bid : MethodName := ⟨RX3, "bid", "(II)Z"⟩
abbrev cX3_allot : ByteArray := prog_1_method_3_code
def yX3_allot : MethodName := ⟨RX3, "allot", "(II)Z"⟩
abbrev cX3_send : ByteArray := prog_1_method_4_code
def yX3_send : MethodName := ⟨RX3, "send", "(IIII)Z"⟩
abbrev cX3_cable : ByteArray := prog_1_method_5_code
def yX3_cable : MethodName := ⟨RX3, "cable", "(IZ)Z"⟩
abbrev cX3_power : ByteArray := prog_1_method_6_code
def yX3_power : MethodName := ⟨RX3, "power", "(IZ)Z"⟩
abbrev cX3_tick : ByteArray := prog_1_method_7_code
def yX3_tick : MethodName := ⟨RX3, "tick", "(I)Z"⟩
abbrev cX3_ring : ByteArray := prog_1_method_8_code
def yX3_ring : MethodName := ⟨RX3, "ring", "(I)I"⟩
abbrev cX3_state : ByteArray := prog_1_method_9_code
def yX3_state : MethodName := ⟨RX3, "state", "(I)I"⟩
abbrev cX3_operating : ByteArray := prog_1_method_10_code
def yX3_operating : MethodName := ⟨RX3, "operating", "(I)I"⟩
abbrev cX3_station : ByteArray := prog_1_method_11_code
def yX3_station : MethodName := ⟨RX3, "station", "(II)I"⟩
abbrev cX3_rotation : ByteArray := prog_1_method_12_code
def yX3_rotation : MethodName := ⟨RX3, "rotation", "(I)F"⟩
abbrev cX3_share : ByteArray := prog_1_method_13_code
def yX3_share : MethodName := ⟨RX3, "share", "(I)D"⟩
abbrev cX3_longest : ByteArray := prog_1_method_14_code
def yX3_longest : MethodName := ⟨RX3, "longest", "()I"⟩
abbrev cX3_isStation : ByteArray := prog_1_method_15_code
def yX3_isStation : MethodName := ⟨RX3, "isStation", "(I)Z"⟩
abbrev cX3_numberAfter : ByteArray := prog_1_method_16_code
def yX3_numberAfter : MethodName := ⟨RX3, "numberAfter", "(I)I"⟩
abbrev cX3_numberBefore : ByteArray := prog_1_method_17_code
def yX3_numberBefore : MethodName := ⟨RX3, "numberBefore", "(I)I"⟩
abbrev cX3_numberAt : ByteArray := prog_1_method_18_code
def yX3_numberAt : MethodName := ⟨RX3, "numberAt", "(LDualRing$Ring;I)I"⟩
abbrev cX3_stationAt : ByteArray := prog_1_method_19_code
def yX3_stationAt : MethodName := ⟨RX3, "stationAt", "(LDualRing$Ring;I)LDualRing$Station;"⟩
abbrev cX3_findRings : ByteArray := prog_1_method_20_code
def yX3_findRings : MethodName := ⟨RX3, "findRings", "()V"⟩
abbrev cX3_isUnbroken : ByteArray := prog_1_method_21_code
def yX3_isUnbroken : MethodName := ⟨RX3, "isUnbroken", "()Z"⟩
abbrev cX3_isJoinedToNext : ByteArray := prog_1_method_22_code
def yX3_isJoinedToNext : MethodName := ⟨RX3, "isJoinedToNext", "(I)Z"⟩
abbrev cX3_rowLength : ByteArray := prog_1_method_23_code
def yX3_rowLength : MethodName := ⟨RX3, "rowLength", "(I)I"⟩
abbrev cX3_reform : ByteArray := prog_1_method_24_code
def yX3_reform : MethodName := ⟨RX3, "reform", "(LDualRing$Ring;IZ)V"⟩
abbrev cX3_claim : ByteArray := prog_1_method_25_code
def yX3_claim : MethodName := ⟨RX3, "claim", "(LDualRing$Ring;)V"⟩
abbrev cX3_loseFrameBeingSent : ByteArray := prog_1_method_26_code
def yX3_loseFrameBeingSent : MethodName := ⟨RX3, "loseFrameBeingSent", "(LDualRing$Ring;)V"⟩
abbrev cX3_passTick : ByteArray := prog_1_method_27_code
def yX3_passTick : MethodName := ⟨RX3, "passTick", "(LDualRing$Ring;)V"⟩
abbrev cX3_passClaim : ByteArray := prog_1_method_28_code
def yX3_passClaim : MethodName := ⟨RX3, "passClaim", "(LDualRing$Ring;)V"⟩
abbrev cX3_operate : ByteArray := prog_1_method_29_code
def yX3_operate : MethodName := ⟨RX3, "operate", "(LDualRing$Ring;)V"⟩
abbrev cX3_winningPlace : ByteArray := prog_1_method_30_code
def yX3_winningPlace : MethodName := ⟨RX3, "winningPlace", "(LDualRing$Ring;)I"⟩
abbrev cX3_runTimers : ByteArray := prog_1_method_31_code
def yX3_runTimers : MethodName := ⟨RX3, "runTimers", "(LDualRing$Ring;)Z"⟩
abbrev cX3_passToken : ByteArray := prog_1_method_32_code
def yX3_passToken : MethodName := ⟨RX3, "passToken", "(LDualRing$Ring;)V"⟩
abbrev cX3_arrive : ByteArray := prog_1_method_33_code
def yX3_arrive : MethodName := ⟨RX3, "arrive", "(LDualRing$Ring;)V"⟩
abbrev cX3_leave : ByteArray := prog_1_method_34_code
def yX3_leave : MethodName := ⟨RX3, "leave", "(LDualRing$Ring;)V"⟩
abbrev cX3_passFrame : ByteArray := prog_1_method_35_code
def yX3_passFrame : MethodName := ⟨RX3, "passFrame", "(LDualRing$Ring;)V"⟩
abbrev cX3_finishFrame : ByteArray := prog_1_method_36_code
def yX3_finishFrame : MethodName := ⟨RX3, "finishFrame", "(LDualRing$Ring;LDualRing$Station;)V"⟩
abbrev cX3_beginFrameOrLeave : ByteArray := prog_1_method_37_code
def yX3_beginFrameOrLeave : MethodName := ⟨RX3, "beginFrameOrLeave", "(LDualRing$Ring;)V"⟩
def RX4 : String := "DualRingModel"
def TX4 : u_T := fun k => match k with
  | 0 => ("DualRingModel", "count", "I", true)
  | 1 => ("DualRingModel", "on", "[Z", true)
  | 2 => ("DualRingModel", "whole", "[Z", true)
  | 3 => ("DualRingModel", "clock", "I", false)
  | 4 => ("DualRingModel", "greatest", "I", false)
  | 5 => ("DualRingModel", "bids", "[I", true)
  | 6 => ("DualRingModel", "allotment", "[I", true)
  | 7 => ("DualRingModel", "trt", "[I", true)
  | 8 => ("DualRingModel", "late", "[I", true)
  | 9 => ("DualRingModel", "tht", "[I", true)
  | 10 => ("DualRingModel", "allowed", "[I", true)
  | 11 => ("DualRingModel", "since", "[I", true)
  | 12 => ("DualRingModel", "begun", "[Z", true)
  | 13 => ("DualRingModel", "visited", "[Z", true)
  | 14 => ("DualRingModel", "heard", "[I", true)
  | 15 => ("DualRingModel", "frames", "[I", true)
  | 16 => ("DualRingModel", "ticks", "[I", true)
  | 17 => ("DualRingModel", "last", "[I", true)
  | 18 => ("DualRingModel", "sent", "[I", true)
  | 19 => ("DualRingModel", "lost", "[I", true)
  | 20 => ("DualRingModel", "turn", "[F", true)
  | 21 => ("DualRingModel", "many", "[I", true)
  | 22 => ("DualRingModel", "target", "[I", true)
  | 23 => ("DualRingModel", "length", "[I", true)
  | 24 => ("DualRingModel", "priority", "[I", true)
  | 25 => ("DualRingModel", "size", "[I", true)
  | 26 => ("DualRingModel", "row", "[I", true)
  | 27 => ("DualRingModel", "closed", "[Z", true)
  | 28 => ("DualRingModel", "claiming", "[I", true)
  | 29 => ("DualRingModel", "t", "[I", true)
  | 30 => ("DualRingModel", "place", "[I", true)
  | 31 => ("DualRingModel", "hop", "[I", true)
  | 32 => ("DualRingModel", "sending", "[I", true)
  | 33 => ("DualRingModel", "left", "[I", true)
  | 34 => ("DualRingModel", "ringOf", "[I", true)
  | _ => ("DualRingModel", "fresh", "[I", true)
def tyX4 : Nat → FieldType := fun k => match k with
  | 0 => .int
  | 1 => .array .boolean
  | 2 => .array .boolean
  | 3 => .int
  | 4 => .int
  | 5 => .array .int
  | 6 => .array .int
  | 7 => .array .int
  | 8 => .array .int
  | 9 => .array .int
  | 10 => .array .int
  | 11 => .array .int
  | 12 => .array .boolean
  | 13 => .array .boolean
  | 14 => .array .int
  | 15 => .array .int
  | 16 => .array .int
  | 17 => .array .int
  | 18 => .array .int
  | 19 => .array .int
  | 20 => .array .float
  | 21 => .array .int
  | 22 => .array .int
  | 23 => .array .int
  | 24 => .array .int
  | 25 => .array .int
  | 26 => .array .int
  | 27 => .array .boolean
  | 28 => .array .int
  | 29 => .array .int
  | 30 => .array .int
  | 31 => .array .int
  | 32 => .array .int
  | 33 => .array .int
  | 34 => .array .int
  | _ => .array .int
abbrev wsX40 : List Cond := u_ws RX4 TX4 36
theorem nmX4 : ∀ a, a < 36 → ∀ b, b < 36 → a ≠ b → (TX4 a).2.1 ≠ (TX4 b).2.1 := by decide +kernel
theorem tyX4_ok : ∀ k, k < 36 → parseFieldDescriptor (TX4 k).2.2.1 = some (tyX4 k) := by decide +kernel
abbrev cX4_init : ByteArray := prog_6_method_1_code
def yX4_init : MethodName := ⟨RX4, "<init>", "(I)V"⟩
abbrev cX4_isStation : ByteArray := prog_6_method_2_code
def yX4_isStation : MethodName := ⟨RX4, "isStation", "(I)Z"⟩
abbrev cX4_next : ByteArray := prog_6_method_3_code
def yX4_next : MethodName := ⟨RX4, "next", "(I)I"⟩
abbrev cX4_previous : ByteArray := prog_6_method_4_code
def yX4_previous : MethodName := ⟨RX4, "previous", "(I)I"⟩
abbrev cX4_isJoined : ByteArray := prog_6_method_5_code
def yX4_isJoined : MethodName := ⟨RX4, "isJoined", "(I)Z"⟩
abbrev cX4_follow : ByteArray := prog_6_method_6_code
def yX4_follow : MethodName := ⟨RX4, "follow", "(I)I"⟩
abbrev cX4_isAsBefore : ByteArray := prog_6_method_7_code
def yX4_isAsBefore : MethodName := ⟨RX4, "isAsBefore", "(IIZ)Z"⟩
abbrev cX4_takeOut : ByteArray := prog_6_method_8_code
def yX4_takeOut : MethodName := ⟨RX4, "takeOut", "(I)V"⟩
abbrev cX4_claim : ByteArray := prog_6_method_9_code
def yX4_claim : MethodName := ⟨RX4, "claim", "(I)V"⟩
abbrev cX4_arrange : ByteArray := prog_6_method_10_code
def yX4_arrange : MethodName := ⟨RX4, "arrange", "()V"⟩
abbrev cX4_holder : ByteArray := prog_6_method_11_code
def yX4_holder : MethodName := ⟨RX4, "holder", "(I)I"⟩
abbrev cX4_leave : ByteArray := prog_6_method_12_code
def yX4_leave : MethodName := ⟨RX4, "leave", "(I)V"⟩
abbrev cX4_operate : ByteArray := prog_6_method_13_code
def yX4_operate : MethodName := ⟨RX4, "operate", "(I)V"⟩
abbrev cX4_age : ByteArray := prog_6_method_14_code
def yX4_age : MethodName := ⟨RX4, "age", "(I)Z"⟩
abbrev cX4_arrive : ByteArray := prog_6_method_15_code
def yX4_arrive : MethodName := ⟨RX4, "arrive", "(I)V"⟩
abbrev cX4_finish : ByteArray := prog_6_method_16_code
def yX4_finish : MethodName := ⟨RX4, "finish", "(I)V"⟩
abbrev cX4_begin : ByteArray := prog_6_method_17_code
def yX4_begin : MethodName := ⟨RX4, "begin", "(I)V"⟩
abbrev cX4_tickRing : ByteArray := prog_6_method_18_code
def yX4_tickRing : MethodName := ⟨RX4, "tickRing", "(I)V"⟩
abbrev cX4_bid : ByteArray := prog_6_method_19_code
def yX4_bid : MethodName := ⟨RX4, "bid", "(II)Z"⟩
abbrev cX4_allot : ByteArray := prog_6_method_20_code
def yX4_allot : MethodName := ⟨RX4, "allot", "(II)Z"⟩
abbrev cX4_send : ByteArray := prog_6_method_21_code
def yX4_send : MethodName := ⟨RX4, "send", "(IIII)Z"⟩
abbrev cX4_cable : ByteArray := prog_6_method_22_code
def yX4_cable : MethodName := ⟨RX4, "cable", "(IZ)Z"⟩
abbrev cX4_power : ByteArray := prog_6_method_23_code
def yX4_power : MethodName := ⟨RX4, "power", "(IZ)Z"⟩
abbrev cX4_tick : ByteArray := prog_6_method_24_code
def yX4_tick : MethodName := ⟨RX4, "tick", "(I)Z"⟩
abbrev cX4_ring : ByteArray := prog_6_method_25_code
def yX4_ring : MethodName := ⟨RX4, "ring", "(I)I"⟩
abbrev cX4_state : ByteArray := prog_6_method_26_code
def yX4_state : MethodName := ⟨RX4, "state", "(I)I"⟩
abbrev cX4_operating : ByteArray := prog_6_method_27_code
def yX4_operating : MethodName := ⟨RX4, "operating", "(I)I"⟩
abbrev cX4_station : ByteArray := prog_6_method_28_code
def yX4_station : MethodName := ⟨RX4, "station", "(II)I"⟩
abbrev cX4_rotation : ByteArray := prog_6_method_29_code
def yX4_rotation : MethodName := ⟨RX4, "rotation", "(I)F"⟩
abbrev cX4_share : ByteArray := prog_6_method_30_code
def yX4_share : MethodName := ⟨RX4, "share", "(I)D"⟩
abbrev cX4_longest : ByteArray := prog_6_method_31_code
def yX4_longest : MethodName := ⟨RX4, "longest", "()I"⟩
def RL : String := "DualRingLaw"
abbrev cL_cell : ByteArray := method_2_code
def yL_cell : MethodName := ⟨RL, "cell", "([II)I"⟩
abbrev cL_law : ByteArray := code
def yL_law : MethodName := ⟨RL, "law", "([I)Z"⟩
abbrev vwCl : List vw_C := [(RX0, TX0, 4), (RX1, TX1, 10), (RX2, TX2, 19), (RX3, TX3, 6), (RX4, TX4, 36)]
end
section
theorem dX0_init_0 : decode cX0_init 0 = .ok (.aload_n 0, 1) := by decide +kernel
theorem dX0_init_1 : decode cX0_init 1 = .ok (.invokespecial 3, 3) := by decide +kernel
theorem dX0_init_4 : decode cX0_init 4 = .ok (.aload_n 0, 1) := by decide +kernel
theorem dX0_init_5 : decode cX0_init 5 = .ok (.iconst 5, 1) := by decide +kernel
theorem dX0_init_6 : decode cX0_init 6 = .ok (.newarray .int, 2) := by decide +kernel
theorem dX0_init_8 : decode cX0_init 8 = .ok (.putfield 9, 3) := by decide +kernel
theorem dX0_init_11 : decode cX0_init 11 = .ok (.aload_n 0, 1) := by decide +kernel
theorem dX0_init_12 : decode cX0_init 12 = .ok (.iconst 5, 1) := by decide +kernel
theorem dX0_init_13 : decode cX0_init 13 = .ok (.newarray .int, 2) := by decide +kernel
theorem dX0_init_15 : decode cX0_init 15 = .ok (.putfield 15, 3) := by decide +kernel
theorem dX0_init_18 : decode cX0_init 18 = .ok (.aload_n 0, 1) := by decide +kernel
theorem dX0_init_19 : decode cX0_init 19 = .ok (.iconst 5, 1) := by decide +kernel
theorem dX0_init_20 : decode cX0_init 20 = .ok (.newarray .int, 2) := by decide +kernel
theorem dX0_init_22 : decode cX0_init 22 = .ok (.putfield 18, 3) := by decide +kernel
theorem dX0_init_25 : decode cX0_init 25 = .ok (.return_, 1) := by decide +kernel
theorem dX0_addLast_0 : decode cX0_addLast 0 = .ok (.aload_n 0, 1) := by decide +kernel
theorem dX0_addLast_1 : decode cX0_addLast 1 = .ok (.getfield 21, 3) := by decide +kernel
theorem dX0_addLast_4 : decode cX0_addLast 4 = .ok (.iconst 5, 1) := by decide +kernel
theorem dX0_addLast_5 : decode cX0_addLast 5 = .ok (.if_icmp .lt 5, 3) := by decide +kernel
theorem dX0_addLast_8 : decode cX0_addLast 8 = .ok (.iconst 0, 1) := by decide +kernel
theorem dX0_addLast_9 : decode cX0_addLast 9 = .ok (.ireturn, 1) := by decide +kernel
theorem dX0_addLast_10 : decode cX0_addLast 10 = .ok (.aload_n 0, 1) := by decide +kernel
theorem dX0_addLast_11 : decode cX0_addLast 11 = .ok (.getfield 9, 3) := by decide +kernel
theorem dX0_addLast_14 : decode cX0_addLast 14 = .ok (.aload_n 0, 1) := by decide +kernel
theorem dX0_addLast_15 : decode cX0_addLast 15 = .ok (.getfield 21, 3) := by decide +kernel
theorem dX0_addLast_18 : decode cX0_addLast 18 = .ok (.iload_n 1, 1) := by decide +kernel
theorem dX0_addLast_19 : decode cX0_addLast 19 = .ok (.iastore, 1) := by decide +kernel
theorem dX0_addLast_20 : decode cX0_addLast 20 = .ok (.aload_n 0, 1) := by decide +kernel
theorem dX0_addLast_21 : decode cX0_addLast 21 = .ok (.getfield 15, 3) := by decide +kernel
theorem dX0_addLast_24 : decode cX0_addLast 24 = .ok (.aload_n 0, 1) := by decide +kernel
theorem dX0_addLast_25 : decode cX0_addLast 25 = .ok (.getfield 21, 3) := by decide +kernel
theorem dX0_addLast_28 : decode cX0_addLast 28 = .ok (.iload_n 2, 1) := by decide +kernel
theorem dX0_addLast_29 : decode cX0_addLast 29 = .ok (.iastore, 1) := by decide +kernel
theorem dX0_addLast_30 : decode cX0_addLast 30 = .ok (.aload_n 0, 1) := by decide +kernel
theorem dX0_addLast_31 : decode cX0_addLast 31 = .ok (.getfield 18, 3) := by decide +kernel
theorem dX0_addLast_34 : decode cX0_addLast 34 = .ok (.aload_n 0, 1) := by decide +kernel
theorem dX0_addLast_35 : decode cX0_addLast 35 = .ok (.getfield 21, 3) := by decide +kernel
theorem dX0_addLast_38 : decode cX0_addLast 38 = .ok (.iload_n 3, 1) := by decide +kernel
theorem dX0_addLast_39 : decode cX0_addLast 39 = .ok (.iastore, 1) := by decide +kernel
theorem dX0_addLast_40 : decode cX0_addLast 40 = .ok (.aload_n 0, 1) := by decide +kernel
theorem dX0_addLast_41 : decode cX0_addLast 41 = .ok (.dup, 1) := by decide +kernel
theorem dX0_addLast_42 : decode cX0_addLast 42 = .ok (.getfield 21, 3) := by decide +kernel
theorem dX0_addLast_45 : decode cX0_addLast 45 = .ok (.iconst 1, 1) := by decide +kernel
theorem dX0_addLast_46 : decode cX0_addLast 46 = .ok (.iadd, 1) := by decide +kernel
theorem dX0_addLast_47 : decode cX0_addLast 47 = .ok (.putfield 21, 3) := by decide +kernel
theorem dX0_addLast_50 : decode cX0_addLast 50 = .ok (.iconst 1, 1) := by decide +kernel
theorem dX0_addLast_51 : decode cX0_addLast 51 = .ok (.ireturn, 1) := by decide +kernel
theorem dX0_removeFirst_0 : decode cX0_removeFirst 0 = .ok (.aload_n 0, 1) := by decide +kernel
theorem dX0_removeFirst_1 : decode cX0_removeFirst 1 = .ok (.getfield 21, 3) := by decide +kernel
theorem dX0_removeFirst_4 : decode cX0_removeFirst 4 = .ok (.ifCond .ne 4, 3) := by decide +kernel
theorem dX0_removeFirst_7 : decode cX0_removeFirst 7 = .ok (.return_, 1) := by decide +kernel
theorem dX0_removeFirst_8 : decode cX0_removeFirst 8 = .ok (.aload_n 0, 1) := by decide +kernel
theorem dX0_removeFirst_9 : decode cX0_removeFirst 9 = .ok (.dup, 1) := by decide +kernel
theorem dX0_removeFirst_10 : decode cX0_removeFirst 10 = .ok (.getfield 21, 3) := by decide +kernel
theorem dX0_removeFirst_13 : decode cX0_removeFirst 13 = .ok (.iconst 1, 1) := by decide +kernel
theorem dX0_removeFirst_14 : decode cX0_removeFirst 14 = .ok (.isub, 1) := by decide +kernel
theorem dX0_removeFirst_15 : decode cX0_removeFirst 15 = .ok (.putfield 21, 3) := by decide +kernel
theorem dX0_removeFirst_18 : decode cX0_removeFirst 18 = .ok (.iconst 0, 1) := by decide +kernel
theorem dX0_removeFirst_19 : decode cX0_removeFirst 19 = .ok (.istore_n 1, 1) := by decide +kernel
theorem dX0_removeFirst_20 : decode cX0_removeFirst 20 = .ok (.iload_n 1, 1) := by decide +kernel
theorem dX0_removeFirst_21 : decode cX0_removeFirst 21 = .ok (.aload_n 0, 1) := by decide +kernel
theorem dX0_removeFirst_22 : decode cX0_removeFirst 22 = .ok (.getfield 21, 3) := by decide +kernel
theorem dX0_removeFirst_25 : decode cX0_removeFirst 25 = .ok (.if_icmp .ge 51, 3) := by decide +kernel
theorem dX0_removeFirst_28 : decode cX0_removeFirst 28 = .ok (.aload_n 0, 1) := by decide +kernel
theorem dX0_removeFirst_29 : decode cX0_removeFirst 29 = .ok (.getfield 9, 3) := by decide +kernel
theorem dX0_removeFirst_32 : decode cX0_removeFirst 32 = .ok (.iload_n 1, 1) := by decide +kernel
theorem dX0_removeFirst_33 : decode cX0_removeFirst 33 = .ok (.aload_n 0, 1) := by decide +kernel
theorem dX0_removeFirst_34 : decode cX0_removeFirst 34 = .ok (.getfield 9, 3) := by decide +kernel
theorem dX0_removeFirst_37 : decode cX0_removeFirst 37 = .ok (.iload_n 1, 1) := by decide +kernel
theorem dX0_removeFirst_38 : decode cX0_removeFirst 38 = .ok (.iconst 1, 1) := by decide +kernel
theorem dX0_removeFirst_39 : decode cX0_removeFirst 39 = .ok (.iadd, 1) := by decide +kernel
theorem dX0_removeFirst_40 : decode cX0_removeFirst 40 = .ok (.iaload, 1) := by decide +kernel
theorem dX0_removeFirst_41 : decode cX0_removeFirst 41 = .ok (.iastore, 1) := by decide +kernel
theorem dX0_removeFirst_42 : decode cX0_removeFirst 42 = .ok (.aload_n 0, 1) := by decide +kernel
theorem dX0_removeFirst_43 : decode cX0_removeFirst 43 = .ok (.getfield 15, 3) := by decide +kernel
theorem dX0_removeFirst_46 : decode cX0_removeFirst 46 = .ok (.iload_n 1, 1) := by decide +kernel
theorem dX0_removeFirst_47 : decode cX0_removeFirst 47 = .ok (.aload_n 0, 1) := by decide +kernel
theorem dX0_removeFirst_48 : decode cX0_removeFirst 48 = .ok (.getfield 15, 3) := by decide +kernel
theorem dX0_removeFirst_51 : decode cX0_removeFirst 51 = .ok (.iload_n 1, 1) := by decide +kernel
theorem dX0_removeFirst_52 : decode cX0_removeFirst 52 = .ok (.iconst 1, 1) := by decide +kernel
theorem dX0_removeFirst_53 : decode cX0_removeFirst 53 = .ok (.iadd, 1) := by decide +kernel
theorem dX0_removeFirst_54 : decode cX0_removeFirst 54 = .ok (.iaload, 1) := by decide +kernel
theorem dX0_removeFirst_55 : decode cX0_removeFirst 55 = .ok (.iastore, 1) := by decide +kernel
theorem dX0_removeFirst_56 : decode cX0_removeFirst 56 = .ok (.aload_n 0, 1) := by decide +kernel
theorem dX0_removeFirst_57 : decode cX0_removeFirst 57 = .ok (.getfield 18, 3) := by decide +kernel
theorem dX0_removeFirst_60 : decode cX0_removeFirst 60 = .ok (.iload_n 1, 1) := by decide +kernel
theorem dX0_removeFirst_61 : decode cX0_removeFirst 61 = .ok (.aload_n 0, 1) := by decide +kernel
theorem dX0_removeFirst_62 : decode cX0_removeFirst 62 = .ok (.getfield 18, 3) := by decide +kernel
theorem dX0_removeFirst_65 : decode cX0_removeFirst 65 = .ok (.iload_n 1, 1) := by decide +kernel
theorem dX0_removeFirst_66 : decode cX0_removeFirst 66 = .ok (.iconst 1, 1) := by decide +kernel
theorem dX0_removeFirst_67 : decode cX0_removeFirst 67 = .ok (.iadd, 1) := by decide +kernel
theorem dX0_removeFirst_68 : decode cX0_removeFirst 68 = .ok (.iaload, 1) := by decide +kernel
theorem dX0_removeFirst_69 : decode cX0_removeFirst 69 = .ok (.iastore, 1) := by decide +kernel
theorem dX0_removeFirst_70 : decode cX0_removeFirst 70 = .ok (.iinc 1 1, 3) := by decide +kernel
theorem dX0_removeFirst_73 : decode cX0_removeFirst 73 = .ok (.goto (-53), 3) := by decide +kernel
theorem dX0_removeFirst_76 : decode cX0_removeFirst 76 = .ok (.return_, 1) := by decide +kernel
theorem dX1_init_0 : decode cX1_init 0 = .ok (.aload_n 0, 1) := by decide +kernel
theorem dX1_init_1 : decode cX1_init 1 = .ok (.invokespecial 1, 3) := by decide +kernel
theorem dX1_init_4 : decode cX1_init 4 = .ok (.aload_n 0, 1) := by decide +kernel
theorem dX1_init_5 : decode cX1_init 5 = .ok (.iload_n 1, 1) := by decide +kernel
theorem dX1_init_6 : decode cX1_init 6 = .ok (.putfield 7, 3) := by decide +kernel
theorem dX1_init_9 : decode cX1_init 9 = .ok (.return_, 1) := by decide +kernel
theorem dX1_claims_0 : decode cX1_claims 0 = .ok (.aload_n 0, 1) := by decide +kernel
theorem dX1_claims_1 : decode cX1_claims 1 = .ok (.getfield 13, 3) := by decide +kernel
theorem dX1_claims_4 : decode cX1_claims 4 = .ok (.ifCond .le 7, 3) := by decide +kernel
theorem dX1_claims_7 : decode cX1_claims 7 = .ok (.iconst 1, 1) := by decide +kernel
theorem dX1_claims_8 : decode cX1_claims 8 = .ok (.goto 4, 3) := by decide +kernel
theorem dX1_claims_11 : decode cX1_claims 11 = .ok (.iconst 0, 1) := by decide +kernel
theorem dX1_claims_12 : decode cX1_claims 12 = .ok (.ireturn, 1) := by decide +kernel
theorem dX2_init_0 : decode cX2_init 0 = .ok (.aload_n 0, 1) := by decide +kernel
theorem dX2_init_1 : decode cX2_init 1 = .ok (.invokespecial 3, 3) := by decide +kernel
theorem dX2_init_4 : decode cX2_init 4 = .ok (.aload_n 0, 1) := by decide +kernel
theorem dX2_init_5 : decode cX2_init 5 = .ok (.new 9, 3) := by decide +kernel
theorem dX2_init_8 : decode cX2_init 8 = .ok (.dup, 1) := by decide +kernel
theorem dX2_init_9 : decode cX2_init 9 = .ok (.invokespecial 11, 3) := by decide +kernel
theorem dX2_init_12 : decode cX2_init 12 = .ok (.putfield 12, 3) := by decide +kernel
theorem dX2_init_15 : decode cX2_init 15 = .ok (.aload_n 0, 1) := by decide +kernel
theorem dX2_init_16 : decode cX2_init 16 = .ok (.new 9, 3) := by decide +kernel
theorem dX2_init_19 : decode cX2_init 19 = .ok (.dup, 1) := by decide +kernel
theorem dX2_init_20 : decode cX2_init 20 = .ok (.invokespecial 11, 3) := by decide +kernel
theorem dX2_init_23 : decode cX2_init 23 = .ok (.putfield 18, 3) := by decide +kernel
theorem dX2_init_26 : decode cX2_init 26 = .ok (.aload_n 0, 1) := by decide +kernel
theorem dX2_init_27 : decode cX2_init 27 = .ok (.iconst 1, 1) := by decide +kernel
theorem dX2_init_28 : decode cX2_init 28 = .ok (.putfield 21, 3) := by decide +kernel
theorem dX2_init_31 : decode cX2_init 31 = .ok (.aload_n 0, 1) := by decide +kernel
theorem dX2_init_32 : decode cX2_init 32 = .ok (.iconst (-1), 1) := by decide +kernel
theorem dX2_init_33 : decode cX2_init 33 = .ok (.putfield 25, 3) := by decide +kernel
theorem dX2_init_36 : decode cX2_init 36 = .ok (.aload_n 0, 1) := by decide +kernel
theorem dX2_init_37 : decode cX2_init 37 = .ok (.bipush 20, 2) := by decide +kernel
theorem dX2_init_39 : decode cX2_init 39 = .ok (.putfield 29, 3) := by decide +kernel
theorem dX2_init_42 : decode cX2_init 42 = .ok (.aload_n 0, 1) := by decide +kernel
theorem dX2_init_43 : decode cX2_init 43 = .ok (.iconst (-1), 1) := by decide +kernel
theorem dX2_init_44 : decode cX2_init 44 = .ok (.putfield 32, 3) := by decide +kernel
theorem dX2_init_47 : decode cX2_init 47 = .ok (.aload_n 0, 1) := by decide +kernel
theorem dX2_init_48 : decode cX2_init 48 = .ok (.iconst (-1), 1) := by decide +kernel
theorem dX2_init_49 : decode cX2_init 49 = .ok (.putfield 35, 3) := by decide +kernel
theorem dX2_init_52 : decode cX2_init 52 = .ok (.return_, 1) := by decide +kernel
theorem dX2_queueFor_0 : decode cX2_queueFor 0 = .ok (.iload_n 1, 1) := by decide +kernel
theorem dX2_queueFor_1 : decode cX2_queueFor 1 = .ok (.ifCond .eq 10, 3) := by decide +kernel
theorem dX2_queueFor_4 : decode cX2_queueFor 4 = .ok (.aload_n 0, 1) := by decide +kernel
theorem dX2_queueFor_5 : decode cX2_queueFor 5 = .ok (.getfield 12, 3) := by decide +kernel
theorem dX2_queueFor_8 : decode cX2_queueFor 8 = .ok (.goto 7, 3) := by decide +kernel
theorem dX2_queueFor_11 : decode cX2_queueFor 11 = .ok (.aload_n 0, 1) := by decide +kernel
theorem dX2_queueFor_12 : decode cX2_queueFor 12 = .ok (.getfield 18, 3) := by decide +kernel
theorem dX2_queueFor_15 : decode cX2_queueFor 15 = .ok (.areturn, 1) := by decide +kernel
theorem dX2_leaveRing_0 : decode cX2_leaveRing 0 = .ok (.aload_n 0, 1) := by decide +kernel
theorem dX2_leaveRing_1 : decode cX2_leaveRing 1 = .ok (.iconst (-1), 1) := by decide +kernel
theorem dX2_leaveRing_2 : decode cX2_leaveRing 2 = .ok (.putfield 25, 3) := by decide +kernel
theorem dX2_leaveRing_5 : decode cX2_leaveRing 5 = .ok (.aload_n 0, 1) := by decide +kernel
theorem dX2_leaveRing_6 : decode cX2_leaveRing 6 = .ok (.getfield 12, 3) := by decide +kernel
theorem dX2_leaveRing_9 : decode cX2_leaveRing 9 = .ok (.iconst 0, 1) := by decide +kernel
theorem dX2_leaveRing_10 : decode cX2_leaveRing 10 = .ok (.putfield 38, 3) := by decide +kernel
theorem dX2_leaveRing_13 : decode cX2_leaveRing 13 = .ok (.aload_n 0, 1) := by decide +kernel
theorem dX2_leaveRing_14 : decode cX2_leaveRing 14 = .ok (.getfield 18, 3) := by decide +kernel
theorem dX2_leaveRing_17 : decode cX2_leaveRing 17 = .ok (.iconst 0, 1) := by decide +kernel
theorem dX2_leaveRing_18 : decode cX2_leaveRing 18 = .ok (.putfield 38, 3) := by decide +kernel
theorem dX2_leaveRing_21 : decode cX2_leaveRing 21 = .ok (.return_, 1) := by decide +kernel
theorem dX2_resetTimers_0 : decode cX2_resetTimers 0 = .ok (.aload_n 0, 1) := by decide +kernel
theorem dX2_resetTimers_1 : decode cX2_resetTimers 1 = .ok (.iconst 0, 1) := by decide +kernel
theorem dX2_resetTimers_2 : decode cX2_resetTimers 2 = .ok (.putfield 41, 3) := by decide +kernel
theorem dX2_resetTimers_5 : decode cX2_resetTimers 5 = .ok (.aload_n 0, 1) := by decide +kernel
theorem dX2_resetTimers_6 : decode cX2_resetTimers 6 = .ok (.iconst 0, 1) := by decide +kernel
theorem dX2_resetTimers_7 : decode cX2_resetTimers 7 = .ok (.putfield 44, 3) := by decide +kernel
theorem dX2_resetTimers_10 : decode cX2_resetTimers 10 = .ok (.aload_n 0, 1) := by decide +kernel
theorem dX2_resetTimers_11 : decode cX2_resetTimers 11 = .ok (.iconst 0, 1) := by decide +kernel
theorem dX2_resetTimers_12 : decode cX2_resetTimers 12 = .ok (.putfield 47, 3) := by decide +kernel
theorem dX2_resetTimers_15 : decode cX2_resetTimers 15 = .ok (.aload_n 0, 1) := by decide +kernel
theorem dX2_resetTimers_16 : decode cX2_resetTimers 16 = .ok (.iconst 0, 1) := by decide +kernel
theorem dX2_resetTimers_17 : decode cX2_resetTimers 17 = .ok (.putfield 50, 3) := by decide +kernel
theorem dX2_resetTimers_20 : decode cX2_resetTimers 20 = .ok (.aload_n 0, 1) := by decide +kernel
theorem dX2_resetTimers_21 : decode cX2_resetTimers 21 = .ok (.iconst 0, 1) := by decide +kernel
theorem dX2_resetTimers_22 : decode cX2_resetTimers 22 = .ok (.putfield 53, 3) := by decide +kernel
theorem dX2_resetTimers_25 : decode cX2_resetTimers 25 = .ok (.aload_n 0, 1) := by decide +kernel
theorem dX2_resetTimers_26 : decode cX2_resetTimers 26 = .ok (.iconst 0, 1) := by decide +kernel
theorem dX2_resetTimers_27 : decode cX2_resetTimers 27 = .ok (.putfield 56, 3) := by decide +kernel
theorem dX2_resetTimers_30 : decode cX2_resetTimers 30 = .ok (.return_, 1) := by decide +kernel
theorem dX2_runTimer_0 : decode cX2_runTimer 0 = .ok (.aload_n 0, 1) := by decide +kernel
theorem dX2_runTimer_1 : decode cX2_runTimer 1 = .ok (.dup, 1) := by decide +kernel
theorem dX2_runTimer_2 : decode cX2_runTimer 2 = .ok (.getfield 53, 3) := by decide +kernel
theorem dX2_runTimer_5 : decode cX2_runTimer 5 = .ok (.iconst 1, 1) := by decide +kernel
theorem dX2_runTimer_6 : decode cX2_runTimer 6 = .ok (.iadd, 1) := by decide +kernel
theorem dX2_runTimer_7 : decode cX2_runTimer 7 = .ok (.putfield 53, 3) := by decide +kernel
theorem dX2_runTimer_10 : decode cX2_runTimer 10 = .ok (.aload_n 0, 1) := by decide +kernel
theorem dX2_runTimer_11 : decode cX2_runTimer 11 = .ok (.dup, 1) := by decide +kernel
theorem dX2_runTimer_12 : decode cX2_runTimer 12 = .ok (.getfield 41, 3) := by decide +kernel
theorem dX2_runTimer_15 : decode cX2_runTimer 15 = .ok (.iconst 1, 1) := by decide +kernel
theorem dX2_runTimer_16 : decode cX2_runTimer 16 = .ok (.iadd, 1) := by decide +kernel
theorem dX2_runTimer_17 : decode cX2_runTimer 17 = .ok (.putfield 41, 3) := by decide +kernel
theorem dX2_runTimer_20 : decode cX2_runTimer 20 = .ok (.aload_n 0, 1) := by decide +kernel
theorem dX2_runTimer_21 : decode cX2_runTimer 21 = .ok (.getfield 41, 3) := by decide +kernel
theorem dX2_runTimer_24 : decode cX2_runTimer 24 = .ok (.iload_n 1, 1) := by decide +kernel
theorem dX2_runTimer_25 : decode cX2_runTimer 25 = .ok (.if_icmp .ne 18, 3) := by decide +kernel
theorem dX2_runTimer_28 : decode cX2_runTimer 28 = .ok (.aload_n 0, 1) := by decide +kernel
theorem dX2_runTimer_29 : decode cX2_runTimer 29 = .ok (.iconst 0, 1) := by decide +kernel
theorem dX2_runTimer_30 : decode cX2_runTimer 30 = .ok (.putfield 41, 3) := by decide +kernel
theorem dX2_runTimer_33 : decode cX2_runTimer 33 = .ok (.aload_n 0, 1) := by decide +kernel
theorem dX2_runTimer_34 : decode cX2_runTimer 34 = .ok (.dup, 1) := by decide +kernel
theorem dX2_runTimer_35 : decode cX2_runTimer 35 = .ok (.getfield 44, 3) := by decide +kernel
theorem dX2_runTimer_38 : decode cX2_runTimer 38 = .ok (.iconst 1, 1) := by decide +kernel
theorem dX2_runTimer_39 : decode cX2_runTimer 39 = .ok (.iadd, 1) := by decide +kernel
theorem dX2_runTimer_40 : decode cX2_runTimer 40 = .ok (.putfield 44, 3) := by decide +kernel
theorem dX2_runTimer_43 : decode cX2_runTimer 43 = .ok (.return_, 1) := by decide +kernel
theorem dX2_takeToken_0 : decode cX2_takeToken 0 = .ok (.aload_n 0, 1) := by decide +kernel
theorem dX2_takeToken_1 : decode cX2_takeToken 1 = .ok (.iload_n 1, 1) := by decide +kernel
theorem dX2_takeToken_2 : decode cX2_takeToken 2 = .ok (.putfield 32, 3) := by decide +kernel
theorem dX2_takeToken_5 : decode cX2_takeToken 5 = .ok (.aload_n 0, 1) := by decide +kernel
theorem dX2_takeToken_6 : decode cX2_takeToken 6 = .ok (.aload_n 0, 1) := by decide +kernel
theorem dX2_takeToken_7 : decode cX2_takeToken 7 = .ok (.getfield 59, 3) := by decide +kernel
theorem dX2_takeToken_10 : decode cX2_takeToken 10 = .ok (.aload_n 0, 1) := by decide +kernel
theorem dX2_takeToken_11 : decode cX2_takeToken 11 = .ok (.getfield 53, 3) := by decide +kernel
theorem dX2_takeToken_14 : decode cX2_takeToken 14 = .ok (.i2f, 1) := by decide +kernel
theorem dX2_takeToken_15 : decode cX2_takeToken 15 = .ok (.aload_n 0, 1) := by decide +kernel
theorem dX2_takeToken_16 : decode cX2_takeToken 16 = .ok (.getfield 59, 3) := by decide +kernel
theorem dX2_takeToken_19 : decode cX2_takeToken 19 = .ok (.fsub, 1) := by decide +kernel
theorem dX2_takeToken_20 : decode cX2_takeToken 20 = .ok (.ldc 63, 2) := by decide +kernel
theorem dX2_takeToken_22 : decode cX2_takeToken 22 = .ok (.fmul, 1) := by decide +kernel
theorem dX2_takeToken_23 : decode cX2_takeToken 23 = .ok (.fadd, 1) := by decide +kernel
theorem dX2_takeToken_24 : decode cX2_takeToken 24 = .ok (.putfield 59, 3) := by decide +kernel
theorem dX2_takeToken_27 : decode cX2_takeToken 27 = .ok (.aload_n 0, 1) := by decide +kernel
theorem dX2_takeToken_28 : decode cX2_takeToken 28 = .ok (.iconst 0, 1) := by decide +kernel
theorem dX2_takeToken_29 : decode cX2_takeToken 29 = .ok (.putfield 53, 3) := by decide +kernel
theorem dX2_takeToken_32 : decode cX2_takeToken 32 = .ok (.aload_n 0, 1) := by decide +kernel
theorem dX2_takeToken_33 : decode cX2_takeToken 33 = .ok (.iconst 1, 1) := by decide +kernel
theorem dX2_takeToken_34 : decode cX2_takeToken 34 = .ok (.putfield 56, 3) := by decide +kernel
theorem dX2_takeToken_37 : decode cX2_takeToken 37 = .ok (.aload_n 0, 1) := by decide +kernel
theorem dX2_takeToken_38 : decode cX2_takeToken 38 = .ok (.getfield 44, 3) := by decide +kernel
theorem dX2_takeToken_41 : decode cX2_takeToken 41 = .ok (.ifCond .ne 21, 3) := by decide +kernel
theorem dX2_takeToken_44 : decode cX2_takeToken 44 = .ok (.aload_n 0, 1) := by decide +kernel
theorem dX2_takeToken_45 : decode cX2_takeToken 45 = .ok (.iload_n 2, 1) := by decide +kernel
theorem dX2_takeToken_46 : decode cX2_takeToken 46 = .ok (.aload_n 0, 1) := by decide +kernel
theorem dX2_takeToken_47 : decode cX2_takeToken 47 = .ok (.getfield 41, 3) := by decide +kernel
theorem dX2_takeToken_50 : decode cX2_takeToken 50 = .ok (.isub, 1) := by decide +kernel
theorem dX2_takeToken_51 : decode cX2_takeToken 51 = .ok (.putfield 47, 3) := by decide +kernel
theorem dX2_takeToken_54 : decode cX2_takeToken 54 = .ok (.aload_n 0, 1) := by decide +kernel
theorem dX2_takeToken_55 : decode cX2_takeToken 55 = .ok (.iconst 0, 1) := by decide +kernel
theorem dX2_takeToken_56 : decode cX2_takeToken 56 = .ok (.putfield 41, 3) := by decide +kernel
theorem dX2_takeToken_59 : decode cX2_takeToken 59 = .ok (.goto 13, 3) := by decide +kernel
theorem dX2_takeToken_62 : decode cX2_takeToken 62 = .ok (.aload_n 0, 1) := by decide +kernel
theorem dX2_takeToken_63 : decode cX2_takeToken 63 = .ok (.iconst 0, 1) := by decide +kernel
theorem dX2_takeToken_64 : decode cX2_takeToken 64 = .ok (.putfield 47, 3) := by decide +kernel
theorem dX2_takeToken_67 : decode cX2_takeToken 67 = .ok (.aload_n 0, 1) := by decide +kernel
theorem dX2_takeToken_68 : decode cX2_takeToken 68 = .ok (.iconst 0, 1) := by decide +kernel
theorem dX2_takeToken_69 : decode cX2_takeToken 69 = .ok (.putfield 44, 3) := by decide +kernel
theorem dX2_takeToken_72 : decode cX2_takeToken 72 = .ok (.aload_n 0, 1) := by decide +kernel
theorem dX2_takeToken_73 : decode cX2_takeToken 73 = .ok (.aload_n 0, 1) := by decide +kernel
theorem dX2_takeToken_74 : decode cX2_takeToken 74 = .ok (.getfield 64, 3) := by decide +kernel
theorem dX2_takeToken_77 : decode cX2_takeToken 77 = .ok (.putfield 50, 3) := by decide +kernel
theorem dX2_takeToken_80 : decode cX2_takeToken 80 = .ok (.return_, 1) := by decide +kernel
theorem dX2_mayBeginSynchronous_0 : decode cX2_mayBeginSynchronous 0 = .ok (.aload_n 0, 1) := by decide +kernel
theorem dX2_mayBeginSynchronous_1 : decode cX2_mayBeginSynchronous 1 = .ok (.getfield 12, 3) := by decide +kernel
theorem dX2_mayBeginSynchronous_4 : decode cX2_mayBeginSynchronous 4 = .ok (.getfield 38, 3) := by decide +kernel
theorem dX2_mayBeginSynchronous_7 : decode cX2_mayBeginSynchronous 7 = .ok (.ifCond .le 23, 3) := by decide +kernel
theorem dX2_mayBeginSynchronous_10 : decode cX2_mayBeginSynchronous 10 = .ok (.aload_n 0, 1) := by decide +kernel
theorem dX2_mayBeginSynchronous_11 : decode cX2_mayBeginSynchronous 11 = .ok (.getfield 12, 3) := by decide +kernel
theorem dX2_mayBeginSynchronous_14 : decode cX2_mayBeginSynchronous 14 = .ok (.getfield 67, 3) := by decide +kernel
theorem dX2_mayBeginSynchronous_17 : decode cX2_mayBeginSynchronous 17 = .ok (.iconst 0, 1) := by decide +kernel
theorem dX2_mayBeginSynchronous_18 : decode cX2_mayBeginSynchronous 18 = .ok (.iaload, 1) := by decide +kernel
theorem dX2_mayBeginSynchronous_19 : decode cX2_mayBeginSynchronous 19 = .ok (.aload_n 0, 1) := by decide +kernel
theorem dX2_mayBeginSynchronous_20 : decode cX2_mayBeginSynchronous 20 = .ok (.getfield 50, 3) := by decide +kernel
theorem dX2_mayBeginSynchronous_23 : decode cX2_mayBeginSynchronous 23 = .ok (.if_icmp .gt 7, 3) := by decide +kernel
theorem dX2_mayBeginSynchronous_26 : decode cX2_mayBeginSynchronous 26 = .ok (.iconst 1, 1) := by decide +kernel
theorem dX2_mayBeginSynchronous_27 : decode cX2_mayBeginSynchronous 27 = .ok (.goto 4, 3) := by decide +kernel
theorem dX2_mayBeginSynchronous_30 : decode cX2_mayBeginSynchronous 30 = .ok (.iconst 0, 1) := by decide +kernel
theorem dX2_mayBeginSynchronous_31 : decode cX2_mayBeginSynchronous 31 = .ok (.ireturn, 1) := by decide +kernel
theorem dX2_mayBeginAsynchronous_0 : decode cX2_mayBeginAsynchronous 0 = .ok (.aload_n 0, 1) := by decide +kernel
theorem dX2_mayBeginAsynchronous_1 : decode cX2_mayBeginAsynchronous 1 = .ok (.getfield 18, 3) := by decide +kernel
theorem dX2_mayBeginAsynchronous_4 : decode cX2_mayBeginAsynchronous 4 = .ok (.getfield 38, 3) := by decide +kernel
theorem dX2_mayBeginAsynchronous_7 : decode cX2_mayBeginAsynchronous 7 = .ok (.ifCond .eq 10, 3) := by decide +kernel
theorem dX2_mayBeginAsynchronous_10 : decode cX2_mayBeginAsynchronous 10 = .ok (.aload_n 0, 1) := by decide +kernel
theorem dX2_mayBeginAsynchronous_11 : decode cX2_mayBeginAsynchronous 11 = .ok (.getfield 47, 3) := by decide +kernel
theorem dX2_mayBeginAsynchronous_14 : decode cX2_mayBeginAsynchronous 14 = .ok (.ifCond .gt 5, 3) := by decide +kernel
theorem dX2_mayBeginAsynchronous_17 : decode cX2_mayBeginAsynchronous 17 = .ok (.iconst 0, 1) := by decide +kernel
theorem dX2_mayBeginAsynchronous_18 : decode cX2_mayBeginAsynchronous 18 = .ok (.ireturn, 1) := by decide +kernel
theorem dX2_mayBeginAsynchronous_19 : decode cX2_mayBeginAsynchronous 19 = .ok (.iconst 3, 1) := by decide +kernel
theorem dX2_mayBeginAsynchronous_20 : decode cX2_mayBeginAsynchronous 20 = .ok (.aload_n 0, 1) := by decide +kernel
theorem dX2_mayBeginAsynchronous_21 : decode cX2_mayBeginAsynchronous 21 = .ok (.getfield 18, 3) := by decide +kernel
theorem dX2_mayBeginAsynchronous_24 : decode cX2_mayBeginAsynchronous 24 = .ok (.getfield 71, 3) := by decide +kernel
theorem dX2_mayBeginAsynchronous_27 : decode cX2_mayBeginAsynchronous 27 = .ok (.iconst 0, 1) := by decide +kernel
theorem dX2_mayBeginAsynchronous_28 : decode cX2_mayBeginAsynchronous 28 = .ok (.iaload, 1) := by decide +kernel
theorem dX2_mayBeginAsynchronous_29 : decode cX2_mayBeginAsynchronous 29 = .ok (.isub, 1) := by decide +kernel
theorem dX2_mayBeginAsynchronous_30 : decode cX2_mayBeginAsynchronous 30 = .ok (.iload_n 1, 1) := by decide +kernel
theorem dX2_mayBeginAsynchronous_31 : decode cX2_mayBeginAsynchronous 31 = .ok (.imul, 1) := by decide +kernel
theorem dX2_mayBeginAsynchronous_32 : decode cX2_mayBeginAsynchronous 32 = .ok (.iconst 4, 1) := by decide +kernel
theorem dX2_mayBeginAsynchronous_33 : decode cX2_mayBeginAsynchronous 33 = .ok (.idiv, 1) := by decide +kernel
theorem dX2_mayBeginAsynchronous_34 : decode cX2_mayBeginAsynchronous 34 = .ok (.istore_n 2, 1) := by decide +kernel
theorem dX2_mayBeginAsynchronous_35 : decode cX2_mayBeginAsynchronous 35 = .ok (.aload_n 0, 1) := by decide +kernel
theorem dX2_mayBeginAsynchronous_36 : decode cX2_mayBeginAsynchronous 36 = .ok (.getfield 47, 3) := by decide +kernel
theorem dX2_mayBeginAsynchronous_39 : decode cX2_mayBeginAsynchronous 39 = .ok (.iload_n 2, 1) := by decide +kernel
theorem dX2_mayBeginAsynchronous_40 : decode cX2_mayBeginAsynchronous 40 = .ok (.if_icmp .lt 7, 3) := by decide +kernel
theorem dX2_mayBeginAsynchronous_43 : decode cX2_mayBeginAsynchronous 43 = .ok (.iconst 1, 1) := by decide +kernel
theorem dX2_mayBeginAsynchronous_44 : decode cX2_mayBeginAsynchronous 44 = .ok (.goto 4, 3) := by decide +kernel
theorem dX2_mayBeginAsynchronous_47 : decode cX2_mayBeginAsynchronous 47 = .ok (.iconst 0, 1) := by decide +kernel
theorem dX2_mayBeginAsynchronous_48 : decode cX2_mayBeginAsynchronous 48 = .ok (.ireturn, 1) := by decide +kernel
theorem dX2_receive_0 : decode cX2_receive 0 = .ok (.aload_n 0, 1) := by decide +kernel
theorem dX2_receive_1 : decode cX2_receive 1 = .ok (.dup, 1) := by decide +kernel
theorem dX2_receive_2 : decode cX2_receive 2 = .ok (.getfield 74, 3) := by decide +kernel
theorem dX2_receive_5 : decode cX2_receive 5 = .ok (.iconst 1, 1) := by decide +kernel
theorem dX2_receive_6 : decode cX2_receive 6 = .ok (.iadd, 1) := by decide +kernel
theorem dX2_receive_7 : decode cX2_receive 7 = .ok (.putfield 74, 3) := by decide +kernel
theorem dX2_receive_10 : decode cX2_receive 10 = .ok (.aload_n 0, 1) := by decide +kernel
theorem dX2_receive_11 : decode cX2_receive 11 = .ok (.dup, 1) := by decide +kernel
theorem dX2_receive_12 : decode cX2_receive 12 = .ok (.getfield 77, 3) := by decide +kernel
theorem dX2_receive_15 : decode cX2_receive 15 = .ok (.iload_n 1, 1) := by decide +kernel
theorem dX2_receive_16 : decode cX2_receive 16 = .ok (.iadd, 1) := by decide +kernel
theorem dX2_receive_17 : decode cX2_receive 17 = .ok (.putfield 77, 3) := by decide +kernel
theorem dX2_receive_20 : decode cX2_receive 20 = .ok (.aload_n 0, 1) := by decide +kernel
theorem dX2_receive_21 : decode cX2_receive 21 = .ok (.iload_n 2, 1) := by decide +kernel
theorem dX2_receive_22 : decode cX2_receive 22 = .ok (.putfield 35, 3) := by decide +kernel
theorem dX2_receive_25 : decode cX2_receive 25 = .ok (.return_, 1) := by decide +kernel
theorem dX3_init_0 : decode cX3_init 0 = .ok (.aload_n 0, 1) := by decide +kernel
theorem dX3_init_1 : decode cX3_init 1 = .ok (.invokespecial 1, 3) := by decide +kernel
theorem dX3_init_4 : decode cX3_init 4 = .ok (.aload_n 0, 1) := by decide +kernel
theorem dX3_init_5 : decode cX3_init 5 = .ok (.iload_n 1, 1) := by decide +kernel
theorem dX3_init_6 : decode cX3_init 6 = .ok (.iconst 2, 1) := by decide +kernel
theorem dX3_init_7 : decode cX3_init 7 = .ok (.if_icmp .lt 13, 3) := by decide +kernel
theorem dX3_init_10 : decode cX3_init 10 = .ok (.iload_n 1, 1) := by decide +kernel
theorem dX3_init_11 : decode cX3_init 11 = .ok (.bipush 6, 2) := by decide +kernel
theorem dX3_init_13 : decode cX3_init 13 = .ok (.if_icmp .gt 7, 3) := by decide +kernel
theorem dX3_init_16 : decode cX3_init 16 = .ok (.iload_n 1, 1) := by decide +kernel
theorem dX3_init_17 : decode cX3_init 17 = .ok (.goto 4, 3) := by decide +kernel
theorem dX3_init_20 : decode cX3_init 20 = .ok (.iconst 4, 1) := by decide +kernel
theorem dX3_init_21 : decode cX3_init 21 = .ok (.putfield 9, 3) := by decide +kernel
theorem dX3_init_24 : decode cX3_init 24 = .ok (.aload_n 0, 1) := by decide +kernel
theorem dX3_init_25 : decode cX3_init 25 = .ok (.aload_n 0, 1) := by decide +kernel
theorem dX3_init_26 : decode cX3_init 26 = .ok (.getfield 9, 3) := by decide +kernel
theorem dX3_init_29 : decode cX3_init 29 = .ok (.anewarray 13, 3) := by decide +kernel
theorem dX3_init_32 : decode cX3_init 32 = .ok (.putfield 15, 3) := by decide +kernel
theorem dX3_init_35 : decode cX3_init 35 = .ok (.aload_n 0, 1) := by decide +kernel
theorem dX3_init_36 : decode cX3_init 36 = .ok (.aload_n 0, 1) := by decide +kernel
theorem dX3_init_37 : decode cX3_init 37 = .ok (.getfield 9, 3) := by decide +kernel
theorem dX3_init_40 : decode cX3_init 40 = .ok (.newarray .boolean, 2) := by decide +kernel
theorem dX3_init_42 : decode cX3_init 42 = .ok (.putfield 19, 3) := by decide +kernel
theorem dX3_init_45 : decode cX3_init 45 = .ok (.aload_n 0, 1) := by decide +kernel
theorem dX3_init_46 : decode cX3_init 46 = .ok (.aload_n 0, 1) := by decide +kernel
theorem dX3_init_47 : decode cX3_init 47 = .ok (.getfield 9, 3) := by decide +kernel
theorem dX3_init_50 : decode cX3_init 50 = .ok (.anewarray 23, 3) := by decide +kernel
theorem dX3_init_53 : decode cX3_init 53 = .ok (.putfield 25, 3) := by decide +kernel
theorem dX3_init_56 : decode cX3_init 56 = .ok (.iconst 0, 1) := by decide +kernel
theorem dX3_init_57 : decode cX3_init 57 = .ok (.istore_n 2, 1) := by decide +kernel
theorem dX3_init_58 : decode cX3_init 58 = .ok (.iload_n 2, 1) := by decide +kernel
theorem dX3_init_59 : decode cX3_init 59 = .ok (.aload_n 0, 1) := by decide +kernel
theorem dX3_init_60 : decode cX3_init 60 = .ok (.getfield 9, 3) := by decide +kernel
theorem dX3_init_63 : decode cX3_init 63 = .ok (.if_icmp .ge 43, 3) := by decide +kernel
theorem dX3_init_66 : decode cX3_init 66 = .ok (.aload_n 0, 1) := by decide +kernel
theorem dX3_init_67 : decode cX3_init 67 = .ok (.getfield 15, 3) := by decide +kernel
theorem dX3_init_70 : decode cX3_init 70 = .ok (.iload_n 2, 1) := by decide +kernel
theorem dX3_init_71 : decode cX3_init 71 = .ok (.new 13, 3) := by decide +kernel
theorem dX3_init_74 : decode cX3_init 74 = .ok (.dup, 1) := by decide +kernel
theorem dX3_init_75 : decode cX3_init 75 = .ok (.invokespecial 29, 3) := by decide +kernel
theorem dX3_init_78 : decode cX3_init 78 = .ok (.aastore, 1) := by decide +kernel
theorem dX3_init_79 : decode cX3_init 79 = .ok (.aload_n 0, 1) := by decide +kernel
theorem dX3_init_80 : decode cX3_init 80 = .ok (.getfield 19, 3) := by decide +kernel
theorem dX3_init_83 : decode cX3_init 83 = .ok (.iload_n 2, 1) := by decide +kernel
theorem dX3_init_84 : decode cX3_init 84 = .ok (.iconst 1, 1) := by decide +kernel
theorem dX3_init_85 : decode cX3_init 85 = .ok (.bastore, 1) := by decide +kernel
theorem dX3_init_86 : decode cX3_init 86 = .ok (.aload_n 0, 1) := by decide +kernel
theorem dX3_init_87 : decode cX3_init 87 = .ok (.getfield 25, 3) := by decide +kernel
theorem dX3_init_90 : decode cX3_init 90 = .ok (.iload_n 2, 1) := by decide +kernel
theorem dX3_init_91 : decode cX3_init 91 = .ok (.new 23, 3) := by decide +kernel
theorem dX3_init_94 : decode cX3_init 94 = .ok (.dup, 1) := by decide +kernel
theorem dX3_init_95 : decode cX3_init 95 = .ok (.iload_n 2, 1) := by decide +kernel
theorem dX3_init_96 : decode cX3_init 96 = .ok (.invokespecial 30, 3) := by decide +kernel
theorem dX3_init_99 : decode cX3_init 99 = .ok (.aastore, 1) := by decide +kernel
theorem dX3_init_100 : decode cX3_init 100 = .ok (.iinc 2 1, 3) := by decide +kernel
theorem dX3_init_103 : decode cX3_init 103 = .ok (.goto (-45), 3) := by decide +kernel
theorem dX3_init_106 : decode cX3_init 106 = .ok (.aload_n 0, 1) := by decide +kernel
theorem dX3_init_107 : decode cX3_init 107 = .ok (.invokevirtual 33, 3) := by decide +kernel
theorem dX3_init_110 : decode cX3_init 110 = .ok (.return_, 1) := by decide +kernel
theorem dX3_bid_0 : decode cX3_bid 0 = .ok (.aload_n 0, 1) := by decide +kernel
theorem dX3_bid_1 : decode cX3_bid 1 = .ok (.iload_n 1, 1) := by decide +kernel
theorem dX3_bid_2 : decode cX3_bid 2 = .ok (.invokevirtual 36, 3) := by decide +kernel
theorem dX3_bid_5 : decode cX3_bid 5 = .ok (.ifCond .eq 14, 3) := by decide +kernel
theorem dX3_bid_8 : decode cX3_bid 8 = .ok (.iload_n 2, 1) := by decide +kernel
theorem dX3_bid_9 : decode cX3_bid 9 = .ok (.iconst 4, 1) := by decide +kernel
theorem dX3_bid_10 : decode cX3_bid 10 = .ok (.if_icmp .lt 9, 3) := by decide +kernel
theorem dX3_bid_13 : decode cX3_bid 13 = .ok (.iload_n 2, 1) := by decide +kernel
theorem dX3_bid_14 : decode cX3_bid 14 = .ok (.bipush 60, 2) := by decide +kernel
theorem dX3_bid_16 : decode cX3_bid 16 = .ok (.if_icmp .le 5, 3) := by decide +kernel
theorem dX3_bid_19 : decode cX3_bid 19 = .ok (.iconst 0, 1) := by decide +kernel
theorem dX3_bid_20 : decode cX3_bid 20 = .ok (.ireturn, 1) := by decide +kernel
theorem dX3_bid_21 : decode cX3_bid 21 = .ok (.aload_n 0, 1) := by decide +kernel
theorem dX3_bid_22 : decode cX3_bid 22 = .ok (.getfield 15, 3) := by decide +kernel
theorem dX3_bid_25 : decode cX3_bid 25 = .ok (.iload_n 1, 1) := by decide +kernel
theorem dX3_bid_26 : decode cX3_bid 26 = .ok (.aaload, 1) := by decide +kernel
theorem dX3_bid_27 : decode cX3_bid 27 = .ok (.iload_n 2, 1) := by decide +kernel
theorem dX3_bid_28 : decode cX3_bid 28 = .ok (.putfield 40, 3) := by decide +kernel
theorem dX3_bid_31 : decode cX3_bid 31 = .ok (.iconst 1, 1) := by decide +kernel
theorem dX3_bid_32 : decode cX3_bid 32 = .ok (.ireturn, 1) := by decide +kernel
theorem dX3_allot_0 : decode cX3_allot 0 = .ok (.aload_n 0, 1) := by decide +kernel
theorem dX3_allot_1 : decode cX3_allot 1 = .ok (.iload_n 1, 1) := by decide +kernel
theorem dX3_allot_2 : decode cX3_allot 2 = .ok (.invokevirtual 36, 3) := by decide +kernel
theorem dX3_allot_5 : decode cX3_allot 5 = .ok (.ifCond .eq 13, 3) := by decide +kernel
theorem dX3_allot_8 : decode cX3_allot 8 = .ok (.iload_n 2, 1) := by decide +kernel
theorem dX3_allot_9 : decode cX3_allot 9 = .ok (.ifCond .lt 9, 3) := by decide +kernel
theorem dX3_allot_12 : decode cX3_allot 12 = .ok (.iload_n 2, 1) := by decide +kernel
theorem dX3_allot_13 : decode cX3_allot 13 = .ok (.bipush 20, 2) := by decide +kernel
theorem dX3_allot_15 : decode cX3_allot 15 = .ok (.if_icmp .le 5, 3) := by decide +kernel
theorem dX3_allot_18 : decode cX3_allot 18 = .ok (.iconst 0, 1) := by decide +kernel
theorem dX3_allot_19 : decode cX3_allot 19 = .ok (.ireturn, 1) := by decide +kernel
theorem dX3_allot_20 : decode cX3_allot 20 = .ok (.aload_n 0, 1) := by decide +kernel
theorem dX3_allot_21 : decode cX3_allot 21 = .ok (.getfield 15, 3) := by decide +kernel
theorem dX3_allot_24 : decode cX3_allot 24 = .ok (.iload_n 1, 1) := by decide +kernel
theorem dX3_allot_25 : decode cX3_allot 25 = .ok (.aaload, 1) := by decide +kernel
theorem dX3_allot_26 : decode cX3_allot 26 = .ok (.iload_n 2, 1) := by decide +kernel
theorem dX3_allot_27 : decode cX3_allot 27 = .ok (.putfield 43, 3) := by decide +kernel
theorem dX3_allot_30 : decode cX3_allot 30 = .ok (.iconst 1, 1) := by decide +kernel
theorem dX3_allot_31 : decode cX3_allot 31 = .ok (.ireturn, 1) := by decide +kernel
theorem dX3_send_0 : decode cX3_send 0 = .ok (.aload_n 0, 1) := by decide +kernel
theorem dX3_send_1 : decode cX3_send 1 = .ok (.iload_n 1, 1) := by decide +kernel
theorem dX3_send_2 : decode cX3_send 2 = .ok (.invokevirtual 36, 3) := by decide +kernel
theorem dX3_send_5 : decode cX3_send 5 = .ok (.ifCond .eq 16, 3) := by decide +kernel
theorem dX3_send_8 : decode cX3_send 8 = .ok (.aload_n 0, 1) := by decide +kernel
theorem dX3_send_9 : decode cX3_send 9 = .ok (.iload_n 2, 1) := by decide +kernel
theorem dX3_send_10 : decode cX3_send 10 = .ok (.invokevirtual 36, 3) := by decide +kernel
theorem dX3_send_13 : decode cX3_send 13 = .ok (.ifCond .eq 8, 3) := by decide +kernel
theorem dX3_send_16 : decode cX3_send 16 = .ok (.iload_n 1, 1) := by decide +kernel
theorem dX3_send_17 : decode cX3_send 17 = .ok (.iload_n 2, 1) := by decide +kernel
theorem dX3_send_18 : decode cX3_send 18 = .ok (.if_icmp .ne 5, 3) := by decide +kernel
theorem dX3_send_21 : decode cX3_send 21 = .ok (.iconst 0, 1) := by decide +kernel
theorem dX3_send_22 : decode cX3_send 22 = .ok (.ireturn, 1) := by decide +kernel
theorem dX3_send_23 : decode cX3_send 23 = .ok (.iload_n 3, 1) := by decide +kernel
theorem dX3_send_24 : decode cX3_send 24 = .ok (.iconst 1, 1) := by decide +kernel
theorem dX3_send_25 : decode cX3_send 25 = .ok (.if_icmp .lt 20, 3) := by decide +kernel
theorem dX3_send_28 : decode cX3_send 28 = .ok (.iload_n 3, 1) := by decide +kernel
theorem dX3_send_29 : decode cX3_send 29 = .ok (.bipush 10, 2) := by decide +kernel
theorem dX3_send_31 : decode cX3_send 31 = .ok (.if_icmp .gt 14, 3) := by decide +kernel
theorem dX3_send_34 : decode cX3_send 34 = .ok (.iload 4, 2) := by decide +kernel
theorem dX3_send_36 : decode cX3_send 36 = .ok (.ifCond .lt 9, 3) := by decide +kernel
theorem dX3_send_39 : decode cX3_send 39 = .ok (.iload 4, 2) := by decide +kernel
theorem dX3_send_41 : decode cX3_send 41 = .ok (.iconst 3, 1) := by decide +kernel
theorem dX3_send_42 : decode cX3_send 42 = .ok (.if_icmp .le 5, 3) := by decide +kernel
theorem dX3_send_45 : decode cX3_send 45 = .ok (.iconst 0, 1) := by decide +kernel
theorem dX3_send_46 : decode cX3_send 46 = .ok (.ireturn, 1) := by decide +kernel
theorem dX3_send_47 : decode cX3_send 47 = .ok (.aload_n 0, 1) := by decide +kernel
theorem dX3_send_48 : decode cX3_send 48 = .ok (.getfield 15, 3) := by decide +kernel
theorem dX3_send_51 : decode cX3_send 51 = .ok (.iload_n 1, 1) := by decide +kernel
theorem dX3_send_52 : decode cX3_send 52 = .ok (.aaload, 1) := by decide +kernel
theorem dX3_send_53 : decode cX3_send 53 = .ok (.iload 4, 2) := by decide +kernel
theorem dX3_send_55 : decode cX3_send 55 = .ok (.iconst 3, 1) := by decide +kernel
theorem dX3_send_56 : decode cX3_send 56 = .ok (.if_icmp .ne 7, 3) := by decide +kernel
theorem dX3_send_59 : decode cX3_send 59 = .ok (.iconst 1, 1) := by decide +kernel
theorem dX3_send_60 : decode cX3_send 60 = .ok (.goto 4, 3) := by decide +kernel
theorem dX3_send_63 : decode cX3_send 63 = .ok (.iconst 0, 1) := by decide +kernel
theorem dX3_send_64 : decode cX3_send 64 = .ok (.invokevirtual 46, 3) := by decide +kernel
theorem dX3_send_67 : decode cX3_send 67 = .ok (.iload_n 2, 1) := by decide +kernel
theorem dX3_send_68 : decode cX3_send 68 = .ok (.iload_n 3, 1) := by decide +kernel
theorem dX3_send_69 : decode cX3_send 69 = .ok (.iload 4, 2) := by decide +kernel
theorem dX3_send_71 : decode cX3_send 71 = .ok (.invokevirtual 50, 3) := by decide +kernel
theorem dX3_send_74 : decode cX3_send 74 = .ok (.ireturn, 1) := by decide +kernel
theorem dX3_cable_0 : decode cX3_cable 0 = .ok (.aload_n 0, 1) := by decide +kernel
theorem dX3_cable_1 : decode cX3_cable 1 = .ok (.iload_n 1, 1) := by decide +kernel
theorem dX3_cable_2 : decode cX3_cable 2 = .ok (.invokevirtual 36, 3) := by decide +kernel
theorem dX3_cable_5 : decode cX3_cable 5 = .ok (.ifCond .eq 13, 3) := by decide +kernel
theorem dX3_cable_8 : decode cX3_cable 8 = .ok (.aload_n 0, 1) := by decide +kernel
theorem dX3_cable_9 : decode cX3_cable 9 = .ok (.getfield 19, 3) := by decide +kernel
theorem dX3_cable_12 : decode cX3_cable 12 = .ok (.iload_n 1, 1) := by decide +kernel
theorem dX3_cable_13 : decode cX3_cable 13 = .ok (.baload, 1) := by decide +kernel
theorem dX3_cable_14 : decode cX3_cable 14 = .ok (.iload_n 2, 1) := by decide +kernel
theorem dX3_cable_15 : decode cX3_cable 15 = .ok (.if_icmp .ne 5, 3) := by decide +kernel
theorem dX3_cable_18 : decode cX3_cable 18 = .ok (.iconst 0, 1) := by decide +kernel
theorem dX3_cable_19 : decode cX3_cable 19 = .ok (.ireturn, 1) := by decide +kernel
theorem dX3_cable_20 : decode cX3_cable 20 = .ok (.aload_n 0, 1) := by decide +kernel
theorem dX3_cable_21 : decode cX3_cable 21 = .ok (.getfield 19, 3) := by decide +kernel
theorem dX3_cable_24 : decode cX3_cable 24 = .ok (.iload_n 1, 1) := by decide +kernel
theorem dX3_cable_25 : decode cX3_cable 25 = .ok (.iload_n 2, 1) := by decide +kernel
theorem dX3_cable_26 : decode cX3_cable 26 = .ok (.bastore, 1) := by decide +kernel
theorem dX3_cable_27 : decode cX3_cable 27 = .ok (.aload_n 0, 1) := by decide +kernel
theorem dX3_cable_28 : decode cX3_cable 28 = .ok (.invokevirtual 33, 3) := by decide +kernel
theorem dX3_cable_31 : decode cX3_cable 31 = .ok (.iconst 1, 1) := by decide +kernel
theorem dX3_cable_32 : decode cX3_cable 32 = .ok (.ireturn, 1) := by decide +kernel
theorem dX3_power_0 : decode cX3_power 0 = .ok (.aload_n 0, 1) := by decide +kernel
theorem dX3_power_1 : decode cX3_power 1 = .ok (.iload_n 1, 1) := by decide +kernel
theorem dX3_power_2 : decode cX3_power 2 = .ok (.invokevirtual 36, 3) := by decide +kernel
theorem dX3_power_5 : decode cX3_power 5 = .ok (.ifCond .eq 16, 3) := by decide +kernel
theorem dX3_power_8 : decode cX3_power 8 = .ok (.aload_n 0, 1) := by decide +kernel
theorem dX3_power_9 : decode cX3_power 9 = .ok (.getfield 15, 3) := by decide +kernel
theorem dX3_power_12 : decode cX3_power 12 = .ok (.iload_n 1, 1) := by decide +kernel
theorem dX3_power_13 : decode cX3_power 13 = .ok (.aaload, 1) := by decide +kernel
theorem dX3_power_14 : decode cX3_power 14 = .ok (.getfield 56, 3) := by decide +kernel
theorem dX3_power_17 : decode cX3_power 17 = .ok (.iload_n 2, 1) := by decide +kernel
theorem dX3_power_18 : decode cX3_power 18 = .ok (.if_icmp .ne 5, 3) := by decide +kernel
theorem dX3_power_21 : decode cX3_power 21 = .ok (.iconst 0, 1) := by decide +kernel
theorem dX3_power_22 : decode cX3_power 22 = .ok (.ireturn, 1) := by decide +kernel
theorem dX3_power_23 : decode cX3_power 23 = .ok (.aload_n 0, 1) := by decide +kernel
theorem dX3_power_24 : decode cX3_power 24 = .ok (.getfield 15, 3) := by decide +kernel
theorem dX3_power_27 : decode cX3_power 27 = .ok (.iload_n 1, 1) := by decide +kernel
theorem dX3_power_28 : decode cX3_power 28 = .ok (.aaload, 1) := by decide +kernel
theorem dX3_power_29 : decode cX3_power 29 = .ok (.iload_n 2, 1) := by decide +kernel
theorem dX3_power_30 : decode cX3_power 30 = .ok (.putfield 56, 3) := by decide +kernel
theorem dX3_power_33 : decode cX3_power 33 = .ok (.aload_n 0, 1) := by decide +kernel
theorem dX3_power_34 : decode cX3_power 34 = .ok (.invokevirtual 33, 3) := by decide +kernel
theorem dX3_power_37 : decode cX3_power 37 = .ok (.iload_n 2, 1) := by decide +kernel
theorem dX3_power_38 : decode cX3_power 38 = .ok (.ifCond .ne 12, 3) := by decide +kernel
theorem dX3_power_41 : decode cX3_power 41 = .ok (.aload_n 0, 1) := by decide +kernel
theorem dX3_power_42 : decode cX3_power 42 = .ok (.getfield 15, 3) := by decide +kernel
theorem dX3_power_45 : decode cX3_power 45 = .ok (.iload_n 1, 1) := by decide +kernel
theorem dX3_power_46 : decode cX3_power 46 = .ok (.aaload, 1) := by decide +kernel
theorem dX3_power_47 : decode cX3_power 47 = .ok (.invokevirtual 60, 3) := by decide +kernel
theorem dX3_power_50 : decode cX3_power 50 = .ok (.iconst 1, 1) := by decide +kernel
theorem dX3_power_51 : decode cX3_power 51 = .ok (.ireturn, 1) := by decide +kernel
theorem dX3_tick_0 : decode cX3_tick 0 = .ok (.iload_n 1, 1) := by decide +kernel
theorem dX3_tick_1 : decode cX3_tick 1 = .ok (.iconst 1, 1) := by decide +kernel
theorem dX3_tick_2 : decode cX3_tick 2 = .ok (.if_icmp .lt 9, 3) := by decide +kernel
theorem dX3_tick_5 : decode cX3_tick 5 = .ok (.iload_n 1, 1) := by decide +kernel
theorem dX3_tick_6 : decode cX3_tick 6 = .ok (.bipush 100, 2) := by decide +kernel
theorem dX3_tick_8 : decode cX3_tick 8 = .ok (.if_icmp .le 5, 3) := by decide +kernel
theorem dX3_tick_11 : decode cX3_tick 11 = .ok (.iconst 0, 1) := by decide +kernel
theorem dX3_tick_12 : decode cX3_tick 12 = .ok (.ireturn, 1) := by decide +kernel
theorem dX3_tick_13 : decode cX3_tick 13 = .ok (.iconst 0, 1) := by decide +kernel
theorem dX3_tick_14 : decode cX3_tick 14 = .ok (.istore_n 2, 1) := by decide +kernel
theorem dX3_tick_15 : decode cX3_tick 15 = .ok (.iload_n 2, 1) := by decide +kernel
theorem dX3_tick_16 : decode cX3_tick 16 = .ok (.iload_n 1, 1) := by decide +kernel
theorem dX3_tick_17 : decode cX3_tick 17 = .ok (.if_icmp .ge 45, 3) := by decide +kernel
theorem dX3_tick_20 : decode cX3_tick 20 = .ok (.aload_n 0, 1) := by decide +kernel
theorem dX3_tick_21 : decode cX3_tick 21 = .ok (.dup, 1) := by decide +kernel
theorem dX3_tick_22 : decode cX3_tick 22 = .ok (.getfield 63, 3) := by decide +kernel
theorem dX3_tick_25 : decode cX3_tick 25 = .ok (.iconst 1, 1) := by decide +kernel
theorem dX3_tick_26 : decode cX3_tick 26 = .ok (.iadd, 1) := by decide +kernel
theorem dX3_tick_27 : decode cX3_tick 27 = .ok (.putfield 63, 3) := by decide +kernel
theorem dX3_tick_30 : decode cX3_tick 30 = .ok (.iconst 0, 1) := by decide +kernel
theorem dX3_tick_31 : decode cX3_tick 31 = .ok (.istore_n 3, 1) := by decide +kernel
theorem dX3_tick_32 : decode cX3_tick 32 = .ok (.iload_n 3, 1) := by decide +kernel
theorem dX3_tick_33 : decode cX3_tick 33 = .ok (.aload_n 0, 1) := by decide +kernel
theorem dX3_tick_34 : decode cX3_tick 34 = .ok (.getfield 9, 3) := by decide +kernel
theorem dX3_tick_37 : decode cX3_tick 37 = .ok (.if_icmp .ge 19, 3) := by decide +kernel
theorem dX3_tick_40 : decode cX3_tick 40 = .ok (.aload_n 0, 1) := by decide +kernel
theorem dX3_tick_41 : decode cX3_tick 41 = .ok (.aload_n 0, 1) := by decide +kernel
theorem dX3_tick_42 : decode cX3_tick 42 = .ok (.getfield 25, 3) := by decide +kernel
theorem dX3_tick_45 : decode cX3_tick 45 = .ok (.iload_n 3, 1) := by decide +kernel
theorem dX3_tick_46 : decode cX3_tick 46 = .ok (.aaload, 1) := by decide +kernel
theorem dX3_tick_47 : decode cX3_tick 47 = .ok (.invokevirtual 66, 3) := by decide +kernel
theorem dX3_tick_50 : decode cX3_tick 50 = .ok (.iinc 3 1, 3) := by decide +kernel
theorem dX3_tick_53 : decode cX3_tick 53 = .ok (.goto (-21), 3) := by decide +kernel
theorem dX3_tick_56 : decode cX3_tick 56 = .ok (.iinc 2 1, 3) := by decide +kernel
theorem dX3_tick_59 : decode cX3_tick 59 = .ok (.goto (-44), 3) := by decide +kernel
theorem dX3_tick_62 : decode cX3_tick 62 = .ok (.iconst 1, 1) := by decide +kernel
theorem dX3_tick_63 : decode cX3_tick 63 = .ok (.ireturn, 1) := by decide +kernel
theorem dX3_ring_0 : decode cX3_ring 0 = .ok (.aload_n 0, 1) := by decide +kernel
theorem dX3_ring_1 : decode cX3_ring 1 = .ok (.iload_n 1, 1) := by decide +kernel
theorem dX3_ring_2 : decode cX3_ring 2 = .ok (.invokevirtual 36, 3) := by decide +kernel
theorem dX3_ring_5 : decode cX3_ring 5 = .ok (.ifCond .eq 15, 3) := by decide +kernel
theorem dX3_ring_8 : decode cX3_ring 8 = .ok (.aload_n 0, 1) := by decide +kernel
theorem dX3_ring_9 : decode cX3_ring 9 = .ok (.getfield 15, 3) := by decide +kernel
theorem dX3_ring_12 : decode cX3_ring 12 = .ok (.iload_n 1, 1) := by decide +kernel
theorem dX3_ring_13 : decode cX3_ring 13 = .ok (.aaload, 1) := by decide +kernel
theorem dX3_ring_14 : decode cX3_ring 14 = .ok (.getfield 70, 3) := by decide +kernel
theorem dX3_ring_17 : decode cX3_ring 17 = .ok (.goto 4, 3) := by decide +kernel
theorem dX3_ring_20 : decode cX3_ring 20 = .ok (.iconst (-1), 1) := by decide +kernel
theorem dX3_ring_21 : decode cX3_ring 21 = .ok (.ireturn, 1) := by decide +kernel
theorem dX3_state_0 : decode cX3_state 0 = .ok (.aload_n 0, 1) := by decide +kernel
theorem dX3_state_1 : decode cX3_state 1 = .ok (.iload_n 1, 1) := by decide +kernel
theorem dX3_state_2 : decode cX3_state 2 = .ok (.invokevirtual 73, 3) := by decide +kernel
theorem dX3_state_5 : decode cX3_state 5 = .ok (.iconst (-1), 1) := by decide +kernel
theorem dX3_state_6 : decode cX3_state 6 = .ok (.if_icmp .ne 5, 3) := by decide +kernel
theorem dX3_state_9 : decode cX3_state 9 = .ok (.iconst 0, 1) := by decide +kernel
theorem dX3_state_10 : decode cX3_state 10 = .ok (.ireturn, 1) := by decide +kernel
theorem dX3_state_11 : decode cX3_state 11 = .ok (.aload_n 0, 1) := by decide +kernel
theorem dX3_state_12 : decode cX3_state 12 = .ok (.getfield 25, 3) := by decide +kernel
theorem dX3_state_15 : decode cX3_state 15 = .ok (.aload_n 0, 1) := by decide +kernel
theorem dX3_state_16 : decode cX3_state 16 = .ok (.iload_n 1, 1) := by decide +kernel
theorem dX3_state_17 : decode cX3_state 17 = .ok (.invokevirtual 73, 3) := by decide +kernel
theorem dX3_state_20 : decode cX3_state 20 = .ok (.aaload, 1) := by decide +kernel
theorem dX3_state_21 : decode cX3_state 21 = .ok (.astore_n 2, 1) := by decide +kernel
theorem dX3_state_22 : decode cX3_state 22 = .ok (.aload_n 2, 1) := by decide +kernel
theorem dX3_state_23 : decode cX3_state 23 = .ok (.invokevirtual 77, 3) := by decide +kernel
theorem dX3_state_26 : decode cX3_state 26 = .ok (.ifCond .eq 5, 3) := by decide +kernel
theorem dX3_state_29 : decode cX3_state 29 = .ok (.iconst 1, 1) := by decide +kernel
theorem dX3_state_30 : decode cX3_state 30 = .ok (.ireturn, 1) := by decide +kernel
theorem dX3_state_31 : decode cX3_state 31 = .ok (.aload_n 2, 1) := by decide +kernel
theorem dX3_state_32 : decode cX3_state 32 = .ok (.getfield 81, 3) := by decide +kernel
theorem dX3_state_35 : decode cX3_state 35 = .ok (.ifCond .gt 16, 3) := by decide +kernel
theorem dX3_state_38 : decode cX3_state 38 = .ok (.aload_n 0, 1) := by decide +kernel
theorem dX3_state_39 : decode cX3_state 39 = .ok (.aload_n 2, 1) := by decide +kernel
theorem dX3_state_40 : decode cX3_state 40 = .ok (.aload_n 2, 1) := by decide +kernel
theorem dX3_state_41 : decode cX3_state 41 = .ok (.getfield 84, 3) := by decide +kernel
theorem dX3_state_44 : decode cX3_state 44 = .ok (.invokevirtual 87, 3) := by decide +kernel
theorem dX3_state_47 : decode cX3_state 47 = .ok (.iload_n 1, 1) := by decide +kernel
theorem dX3_state_48 : decode cX3_state 48 = .ok (.if_icmp .eq 5, 3) := by decide +kernel
theorem dX3_state_51 : decode cX3_state 51 = .ok (.iconst 2, 1) := by decide +kernel
theorem dX3_state_52 : decode cX3_state 52 = .ok (.ireturn, 1) := by decide +kernel
theorem dX3_state_53 : decode cX3_state 53 = .ok (.aload_n 2, 1) := by decide +kernel
theorem dX3_state_54 : decode cX3_state 54 = .ok (.getfield 91, 3) := by decide +kernel
theorem dX3_state_57 : decode cX3_state 57 = .ok (.ifCond .le 7, 3) := by decide +kernel
theorem dX3_state_60 : decode cX3_state 60 = .ok (.iconst 4, 1) := by decide +kernel
theorem dX3_state_61 : decode cX3_state 61 = .ok (.goto 4, 3) := by decide +kernel
theorem dX3_state_64 : decode cX3_state 64 = .ok (.iconst 3, 1) := by decide +kernel
theorem dX3_state_65 : decode cX3_state 65 = .ok (.ireturn, 1) := by decide +kernel
theorem dX3_operating_0 : decode cX3_operating 0 = .ok (.aload_n 0, 1) := by decide +kernel
theorem dX3_operating_1 : decode cX3_operating 1 = .ok (.iload_n 1, 1) := by decide +kernel
theorem dX3_operating_2 : decode cX3_operating 2 = .ok (.invokevirtual 73, 3) := by decide +kernel
theorem dX3_operating_5 : decode cX3_operating 5 = .ok (.iconst (-1), 1) := by decide +kernel
theorem dX3_operating_6 : decode cX3_operating 6 = .ok (.if_icmp .ne 5, 3) := by decide +kernel
theorem dX3_operating_9 : decode cX3_operating 9 = .ok (.iconst 0, 1) := by decide +kernel
theorem dX3_operating_10 : decode cX3_operating 10 = .ok (.ireturn, 1) := by decide +kernel
theorem dX3_operating_11 : decode cX3_operating 11 = .ok (.aload_n 0, 1) := by decide +kernel
theorem dX3_operating_12 : decode cX3_operating 12 = .ok (.getfield 25, 3) := by decide +kernel
theorem dX3_operating_15 : decode cX3_operating 15 = .ok (.aload_n 0, 1) := by decide +kernel
theorem dX3_operating_16 : decode cX3_operating 16 = .ok (.iload_n 1, 1) := by decide +kernel
theorem dX3_operating_17 : decode cX3_operating 17 = .ok (.invokevirtual 73, 3) := by decide +kernel
theorem dX3_operating_20 : decode cX3_operating 20 = .ok (.aaload, 1) := by decide +kernel
theorem dX3_operating_21 : decode cX3_operating 21 = .ok (.astore_n 2, 1) := by decide +kernel
theorem dX3_operating_22 : decode cX3_operating 22 = .ok (.aload_n 2, 1) := by decide +kernel
theorem dX3_operating_23 : decode cX3_operating 23 = .ok (.invokevirtual 77, 3) := by decide +kernel
theorem dX3_operating_26 : decode cX3_operating 26 = .ok (.ifCond .eq 7, 3) := by decide +kernel
theorem dX3_operating_29 : decode cX3_operating 29 = .ok (.iconst 0, 1) := by decide +kernel
theorem dX3_operating_30 : decode cX3_operating 30 = .ok (.goto 7, 3) := by decide +kernel
theorem dX3_operating_33 : decode cX3_operating 33 = .ok (.aload_n 2, 1) := by decide +kernel
theorem dX3_operating_34 : decode cX3_operating 34 = .ok (.getfield 94, 3) := by decide +kernel
theorem dX3_operating_37 : decode cX3_operating 37 = .ok (.ireturn, 1) := by decide +kernel
theorem dX3_station_0 : decode cX3_station 0 = .ok (.aload_n 0, 1) := by decide +kernel
theorem dX3_station_1 : decode cX3_station 1 = .ok (.iload_n 1, 1) := by decide +kernel
theorem dX3_station_2 : decode cX3_station 2 = .ok (.invokevirtual 36, 3) := by decide +kernel
theorem dX3_station_5 : decode cX3_station 5 = .ok (.ifCond .ne 5, 3) := by decide +kernel
theorem dX3_station_8 : decode cX3_station 8 = .ok (.iconst (-1), 1) := by decide +kernel
theorem dX3_station_9 : decode cX3_station 9 = .ok (.ireturn, 1) := by decide +kernel
theorem dX3_station_10 : decode cX3_station 10 = .ok (.aload_n 0, 1) := by decide +kernel
theorem dX3_station_11 : decode cX3_station 11 = .ok (.getfield 15, 3) := by decide +kernel
theorem dX3_station_14 : decode cX3_station 14 = .ok (.iload_n 1, 1) := by decide +kernel
theorem dX3_station_15 : decode cX3_station 15 = .ok (.aaload, 1) := by decide +kernel
theorem dX3_station_16 : decode cX3_station 16 = .ok (.astore_n 3, 1) := by decide +kernel
theorem dX3_station_17 : decode cX3_station 17 = .ok (.iload_n 2, 1) := by decide +kernel
theorem dX3_station_18 : decode cX3_station 18 = .ok (.tableswitch 128 0 11 #[62, 67, 72, 77, 82, 90, 98, 103, 108, 113, 118, 123], 62) := by decide +kernel
theorem dX3_station_80 : decode cX3_station 80 = .ok (.aload_n 3, 1) := by decide +kernel
theorem dX3_station_81 : decode cX3_station 81 = .ok (.getfield 97, 3) := by decide +kernel
theorem dX3_station_84 : decode cX3_station 84 = .ok (.ireturn, 1) := by decide +kernel
theorem dX3_station_85 : decode cX3_station 85 = .ok (.aload_n 3, 1) := by decide +kernel
theorem dX3_station_86 : decode cX3_station 86 = .ok (.getfield 100, 3) := by decide +kernel
theorem dX3_station_89 : decode cX3_station 89 = .ok (.ireturn, 1) := by decide +kernel
theorem dX3_station_90 : decode cX3_station 90 = .ok (.aload_n 3, 1) := by decide +kernel
theorem dX3_station_91 : decode cX3_station 91 = .ok (.getfield 103, 3) := by decide +kernel
theorem dX3_station_94 : decode cX3_station 94 = .ok (.ireturn, 1) := by decide +kernel
theorem dX3_station_95 : decode cX3_station 95 = .ok (.aload_n 3, 1) := by decide +kernel
theorem dX3_station_96 : decode cX3_station 96 = .ok (.getfield 106, 3) := by decide +kernel
theorem dX3_station_99 : decode cX3_station 99 = .ok (.ireturn, 1) := by decide +kernel
theorem dX3_station_100 : decode cX3_station 100 = .ok (.aload_n 3, 1) := by decide +kernel
theorem dX3_station_101 : decode cX3_station 101 = .ok (.getfield 109, 3) := by decide +kernel
theorem dX3_station_104 : decode cX3_station 104 = .ok (.getfield 113, 3) := by decide +kernel
theorem dX3_station_107 : decode cX3_station 107 = .ok (.ireturn, 1) := by decide +kernel
theorem dX3_station_108 : decode cX3_station 108 = .ok (.aload_n 3, 1) := by decide +kernel
theorem dX3_station_109 : decode cX3_station 109 = .ok (.getfield 116, 3) := by decide +kernel
theorem dX3_station_112 : decode cX3_station 112 = .ok (.getfield 113, 3) := by decide +kernel
theorem dX3_station_115 : decode cX3_station 115 = .ok (.ireturn, 1) := by decide +kernel
theorem dX3_station_116 : decode cX3_station 116 = .ok (.aload_n 3, 1) := by decide +kernel
theorem dX3_station_117 : decode cX3_station 117 = .ok (.getfield 119, 3) := by decide +kernel
theorem dX3_station_120 : decode cX3_station 120 = .ok (.ireturn, 1) := by decide +kernel
theorem dX3_station_121 : decode cX3_station 121 = .ok (.aload_n 3, 1) := by decide +kernel
theorem dX3_station_122 : decode cX3_station 122 = .ok (.getfield 122, 3) := by decide +kernel
theorem dX3_station_125 : decode cX3_station 125 = .ok (.ireturn, 1) := by decide +kernel
theorem dX3_station_126 : decode cX3_station 126 = .ok (.aload_n 3, 1) := by decide +kernel
theorem dX3_station_127 : decode cX3_station 127 = .ok (.getfield 125, 3) := by decide +kernel
theorem dX3_station_130 : decode cX3_station 130 = .ok (.ireturn, 1) := by decide +kernel
theorem dX3_station_131 : decode cX3_station 131 = .ok (.aload_n 3, 1) := by decide +kernel
theorem dX3_station_132 : decode cX3_station 132 = .ok (.getfield 128, 3) := by decide +kernel
theorem dX3_station_135 : decode cX3_station 135 = .ok (.ireturn, 1) := by decide +kernel
theorem dX3_station_136 : decode cX3_station 136 = .ok (.aload_n 3, 1) := by decide +kernel
theorem dX3_station_137 : decode cX3_station 137 = .ok (.getfield 131, 3) := by decide +kernel
theorem dX3_station_140 : decode cX3_station 140 = .ok (.ireturn, 1) := by decide +kernel
theorem dX3_station_141 : decode cX3_station 141 = .ok (.aload_n 3, 1) := by decide +kernel
theorem dX3_station_142 : decode cX3_station 142 = .ok (.getfield 134, 3) := by decide +kernel
theorem dX3_station_145 : decode cX3_station 145 = .ok (.ireturn, 1) := by decide +kernel
theorem dX3_station_146 : decode cX3_station 146 = .ok (.iconst (-1), 1) := by decide +kernel
theorem dX3_station_147 : decode cX3_station 147 = .ok (.ireturn, 1) := by decide +kernel
theorem dX3_rotation_0 : decode cX3_rotation 0 = .ok (.aload_n 0, 1) := by decide +kernel
theorem dX3_rotation_1 : decode cX3_rotation 1 = .ok (.iload_n 1, 1) := by decide +kernel
theorem dX3_rotation_2 : decode cX3_rotation 2 = .ok (.invokevirtual 36, 3) := by decide +kernel
theorem dX3_rotation_5 : decode cX3_rotation 5 = .ok (.ifCond .eq 15, 3) := by decide +kernel
theorem dX3_rotation_8 : decode cX3_rotation 8 = .ok (.aload_n 0, 1) := by decide +kernel
theorem dX3_rotation_9 : decode cX3_rotation 9 = .ok (.getfield 15, 3) := by decide +kernel
theorem dX3_rotation_12 : decode cX3_rotation 12 = .ok (.iload_n 1, 1) := by decide +kernel
theorem dX3_rotation_13 : decode cX3_rotation 13 = .ok (.aaload, 1) := by decide +kernel
theorem dX3_rotation_14 : decode cX3_rotation 14 = .ok (.getfield 137, 3) := by decide +kernel
theorem dX3_rotation_17 : decode cX3_rotation 17 = .ok (.goto 4, 3) := by decide +kernel
theorem dX3_rotation_20 : decode cX3_rotation 20 = .ok (.fconst 0, 1) := by decide +kernel
theorem dX3_rotation_21 : decode cX3_rotation 21 = .ok (.freturn, 1) := by decide +kernel
theorem dX3_share_0 : decode cX3_share 0 = .ok (.aload_n 0, 1) := by decide +kernel
theorem dX3_share_1 : decode cX3_share 1 = .ok (.iload_n 1, 1) := by decide +kernel
theorem dX3_share_2 : decode cX3_share 2 = .ok (.invokevirtual 36, 3) := by decide +kernel
theorem dX3_share_5 : decode cX3_share 5 = .ok (.ifCond .eq 10, 3) := by decide +kernel
theorem dX3_share_8 : decode cX3_share 8 = .ok (.aload_n 0, 1) := by decide +kernel
theorem dX3_share_9 : decode cX3_share 9 = .ok (.getfield 63, 3) := by decide +kernel
theorem dX3_share_12 : decode cX3_share 12 = .ok (.ifCond .ne 5, 3) := by decide +kernel
theorem dX3_share_15 : decode cX3_share 15 = .ok (.dconst 0, 1) := by decide +kernel
theorem dX3_share_16 : decode cX3_share 16 = .ok (.dreturn, 1) := by decide +kernel
theorem dX3_share_17 : decode cX3_share 17 = .ok (.aload_n 0, 1) := by decide +kernel
theorem dX3_share_18 : decode cX3_share 18 = .ok (.getfield 15, 3) := by decide +kernel
theorem dX3_share_21 : decode cX3_share 21 = .ok (.iload_n 1, 1) := by decide +kernel
theorem dX3_share_22 : decode cX3_share 22 = .ok (.aaload, 1) := by decide +kernel
theorem dX3_share_23 : decode cX3_share 23 = .ok (.getfield 131, 3) := by decide +kernel
theorem dX3_share_26 : decode cX3_share 26 = .ok (.i2d, 1) := by decide +kernel
theorem dX3_share_27 : decode cX3_share 27 = .ok (.aload_n 0, 1) := by decide +kernel
theorem dX3_share_28 : decode cX3_share 28 = .ok (.getfield 63, 3) := by decide +kernel
theorem dX3_share_31 : decode cX3_share 31 = .ok (.i2d, 1) := by decide +kernel
theorem dX3_share_32 : decode cX3_share 32 = .ok (.ddiv, 1) := by decide +kernel
theorem dX3_share_33 : decode cX3_share 33 = .ok (.dreturn, 1) := by decide +kernel
theorem dX3_longest_0 : decode cX3_longest 0 = .ok (.aload_n 0, 1) := by decide +kernel
theorem dX3_longest_1 : decode cX3_longest 1 = .ok (.getfield 141, 3) := by decide +kernel
theorem dX3_longest_4 : decode cX3_longest 4 = .ok (.ireturn, 1) := by decide +kernel
theorem dX3_isStation_0 : decode cX3_isStation 0 = .ok (.iload_n 1, 1) := by decide +kernel
theorem dX3_isStation_1 : decode cX3_isStation 1 = .ok (.ifCond .lt 15, 3) := by decide +kernel
theorem dX3_isStation_4 : decode cX3_isStation 4 = .ok (.iload_n 1, 1) := by decide +kernel
theorem dX3_isStation_5 : decode cX3_isStation 5 = .ok (.aload_n 0, 1) := by decide +kernel
theorem dX3_isStation_6 : decode cX3_isStation 6 = .ok (.getfield 9, 3) := by decide +kernel
theorem dX3_isStation_9 : decode cX3_isStation 9 = .ok (.if_icmp .ge 7, 3) := by decide +kernel
theorem dX3_isStation_12 : decode cX3_isStation 12 = .ok (.iconst 1, 1) := by decide +kernel
theorem dX3_isStation_13 : decode cX3_isStation 13 = .ok (.goto 4, 3) := by decide +kernel
theorem dX3_isStation_16 : decode cX3_isStation 16 = .ok (.iconst 0, 1) := by decide +kernel
theorem dX3_isStation_17 : decode cX3_isStation 17 = .ok (.ireturn, 1) := by decide +kernel
theorem dX3_numberAfter_0 : decode cX3_numberAfter 0 = .ok (.iload_n 1, 1) := by decide +kernel
theorem dX3_numberAfter_1 : decode cX3_numberAfter 1 = .ok (.aload_n 0, 1) := by decide +kernel
theorem dX3_numberAfter_2 : decode cX3_numberAfter 2 = .ok (.getfield 9, 3) := by decide +kernel
theorem dX3_numberAfter_5 : decode cX3_numberAfter 5 = .ok (.iconst 1, 1) := by decide +kernel
theorem dX3_numberAfter_6 : decode cX3_numberAfter 6 = .ok (.isub, 1) := by decide +kernel
theorem dX3_numberAfter_7 : decode cX3_numberAfter 7 = .ok (.if_icmp .ne 7, 3) := by decide +kernel
theorem dX3_numberAfter_10 : decode cX3_numberAfter 10 = .ok (.iconst 0, 1) := by decide +kernel
theorem dX3_numberAfter_11 : decode cX3_numberAfter 11 = .ok (.goto 6, 3) := by decide +kernel
theorem dX3_numberAfter_14 : decode cX3_numberAfter 14 = .ok (.iload_n 1, 1) := by decide +kernel
theorem dX3_numberAfter_15 : decode cX3_numberAfter 15 = .ok (.iconst 1, 1) := by decide +kernel
theorem dX3_numberAfter_16 : decode cX3_numberAfter 16 = .ok (.iadd, 1) := by decide +kernel
theorem dX3_numberAfter_17 : decode cX3_numberAfter 17 = .ok (.ireturn, 1) := by decide +kernel
theorem dX3_numberBefore_0 : decode cX3_numberBefore 0 = .ok (.iload_n 1, 1) := by decide +kernel
theorem dX3_numberBefore_1 : decode cX3_numberBefore 1 = .ok (.ifCond .ne 12, 3) := by decide +kernel
theorem dX3_numberBefore_4 : decode cX3_numberBefore 4 = .ok (.aload_n 0, 1) := by decide +kernel
theorem dX3_numberBefore_5 : decode cX3_numberBefore 5 = .ok (.getfield 9, 3) := by decide +kernel
theorem dX3_numberBefore_8 : decode cX3_numberBefore 8 = .ok (.iconst 1, 1) := by decide +kernel
theorem dX3_numberBefore_9 : decode cX3_numberBefore 9 = .ok (.isub, 1) := by decide +kernel
theorem dX3_numberBefore_10 : decode cX3_numberBefore 10 = .ok (.goto 6, 3) := by decide +kernel
theorem dX3_numberBefore_13 : decode cX3_numberBefore 13 = .ok (.iload_n 1, 1) := by decide +kernel
theorem dX3_numberBefore_14 : decode cX3_numberBefore 14 = .ok (.iconst 1, 1) := by decide +kernel
theorem dX3_numberBefore_15 : decode cX3_numberBefore 15 = .ok (.isub, 1) := by decide +kernel
theorem dX3_numberBefore_16 : decode cX3_numberBefore 16 = .ok (.ireturn, 1) := by decide +kernel
theorem dX3_numberAt_0 : decode cX3_numberAt 0 = .ok (.aload_n 1, 1) := by decide +kernel
theorem dX3_numberAt_1 : decode cX3_numberAt 1 = .ok (.getfield 144, 3) := by decide +kernel
theorem dX3_numberAt_4 : decode cX3_numberAt 4 = .ok (.iload_n 2, 1) := by decide +kernel
theorem dX3_numberAt_5 : decode cX3_numberAt 5 = .ok (.iadd, 1) := by decide +kernel
theorem dX3_numberAt_6 : decode cX3_numberAt 6 = .ok (.istore_n 3, 1) := by decide +kernel
theorem dX3_numberAt_7 : decode cX3_numberAt 7 = .ok (.iload_n 3, 1) := by decide +kernel
theorem dX3_numberAt_8 : decode cX3_numberAt 8 = .ok (.aload_n 0, 1) := by decide +kernel
theorem dX3_numberAt_9 : decode cX3_numberAt 9 = .ok (.getfield 9, 3) := by decide +kernel
theorem dX3_numberAt_12 : decode cX3_numberAt 12 = .ok (.if_icmp .lt 12, 3) := by decide +kernel
theorem dX3_numberAt_15 : decode cX3_numberAt 15 = .ok (.iload_n 3, 1) := by decide +kernel
theorem dX3_numberAt_16 : decode cX3_numberAt 16 = .ok (.aload_n 0, 1) := by decide +kernel
theorem dX3_numberAt_17 : decode cX3_numberAt 17 = .ok (.getfield 9, 3) := by decide +kernel
theorem dX3_numberAt_20 : decode cX3_numberAt 20 = .ok (.isub, 1) := by decide +kernel
theorem dX3_numberAt_21 : decode cX3_numberAt 21 = .ok (.goto 4, 3) := by decide +kernel
theorem dX3_numberAt_24 : decode cX3_numberAt 24 = .ok (.iload_n 3, 1) := by decide +kernel
theorem dX3_numberAt_25 : decode cX3_numberAt 25 = .ok (.ireturn, 1) := by decide +kernel
theorem dX3_stationAt_0 : decode cX3_stationAt 0 = .ok (.aload_n 0, 1) := by decide +kernel
theorem dX3_stationAt_1 : decode cX3_stationAt 1 = .ok (.getfield 15, 3) := by decide +kernel
theorem dX3_stationAt_4 : decode cX3_stationAt 4 = .ok (.aload_n 0, 1) := by decide +kernel
theorem dX3_stationAt_5 : decode cX3_stationAt 5 = .ok (.aload_n 1, 1) := by decide +kernel
theorem dX3_stationAt_6 : decode cX3_stationAt 6 = .ok (.iload_n 2, 1) := by decide +kernel
theorem dX3_stationAt_7 : decode cX3_stationAt 7 = .ok (.invokevirtual 87, 3) := by decide +kernel
theorem dX3_stationAt_10 : decode cX3_stationAt 10 = .ok (.aaload, 1) := by decide +kernel
theorem dX3_stationAt_11 : decode cX3_stationAt 11 = .ok (.areturn, 1) := by decide +kernel
theorem dX3_findRings_0 : decode cX3_findRings 0 = .ok (.aload_n 0, 1) := by decide +kernel
theorem dX3_findRings_1 : decode cX3_findRings 1 = .ok (.invokevirtual 147, 3) := by decide +kernel
theorem dX3_findRings_4 : decode cX3_findRings 4 = .ok (.istore_n 1, 1) := by decide +kernel
theorem dX3_findRings_5 : decode cX3_findRings 5 = .ok (.iconst 0, 1) := by decide +kernel
theorem dX3_findRings_6 : decode cX3_findRings 6 = .ok (.istore_n 2, 1) := by decide +kernel
theorem dX3_findRings_7 : decode cX3_findRings 7 = .ok (.iload_n 2, 1) := by decide +kernel
theorem dX3_findRings_8 : decode cX3_findRings 8 = .ok (.aload_n 0, 1) := by decide +kernel
theorem dX3_findRings_9 : decode cX3_findRings 9 = .ok (.getfield 9, 3) := by decide +kernel
theorem dX3_findRings_12 : decode cX3_findRings 12 = .ok (.if_icmp .ge 85, 3) := by decide +kernel
theorem dX3_findRings_15 : decode cX3_findRings 15 = .ok (.aload_n 0, 1) := by decide +kernel
theorem dX3_findRings_16 : decode cX3_findRings 16 = .ok (.getfield 25, 3) := by decide +kernel
theorem dX3_findRings_19 : decode cX3_findRings 19 = .ok (.iload_n 2, 1) := by decide +kernel
theorem dX3_findRings_20 : decode cX3_findRings 20 = .ok (.aaload, 1) := by decide +kernel
theorem dX3_findRings_21 : decode cX3_findRings 21 = .ok (.astore_n 3, 1) := by decide +kernel
theorem dX3_findRings_22 : decode cX3_findRings 22 = .ok (.iload_n 1, 1) := by decide +kernel
theorem dX3_findRings_23 : decode cX3_findRings 23 = .ok (.ifCond .eq 11, 3) := by decide +kernel
theorem dX3_findRings_26 : decode cX3_findRings 26 = .ok (.iload_n 2, 1) := by decide +kernel
theorem dX3_findRings_27 : decode cX3_findRings 27 = .ok (.ifCond .ne 7, 3) := by decide +kernel
theorem dX3_findRings_30 : decode cX3_findRings 30 = .ok (.iconst 1, 1) := by decide +kernel
theorem dX3_findRings_31 : decode cX3_findRings 31 = .ok (.goto 4, 3) := by decide +kernel
theorem dX3_findRings_34 : decode cX3_findRings 34 = .ok (.iconst 0, 1) := by decide +kernel
theorem dX3_findRings_35 : decode cX3_findRings 35 = .ok (.istore 4, 2) := by decide +kernel
theorem dX3_findRings_37 : decode cX3_findRings 37 = .ok (.iload_n 1, 1) := by decide +kernel
theorem dX3_findRings_38 : decode cX3_findRings 38 = .ok (.ifCond .eq 19, 3) := by decide +kernel
theorem dX3_findRings_41 : decode cX3_findRings 41 = .ok (.iload 4, 2) := by decide +kernel
theorem dX3_findRings_43 : decode cX3_findRings 43 = .ok (.ifCond .eq 10, 3) := by decide +kernel
theorem dX3_findRings_46 : decode cX3_findRings 46 = .ok (.aload_n 0, 1) := by decide +kernel
theorem dX3_findRings_47 : decode cX3_findRings 47 = .ok (.getfield 9, 3) := by decide +kernel
theorem dX3_findRings_50 : decode cX3_findRings 50 = .ok (.goto 12, 3) := by decide +kernel
theorem dX3_findRings_53 : decode cX3_findRings 53 = .ok (.iconst 0, 1) := by decide +kernel
theorem dX3_findRings_54 : decode cX3_findRings 54 = .ok (.goto 8, 3) := by decide +kernel
theorem dX3_findRings_57 : decode cX3_findRings 57 = .ok (.aload_n 0, 1) := by decide +kernel
theorem dX3_findRings_58 : decode cX3_findRings 58 = .ok (.iload_n 2, 1) := by decide +kernel
theorem dX3_findRings_59 : decode cX3_findRings 59 = .ok (.invokevirtual 150, 3) := by decide +kernel
theorem dX3_findRings_62 : decode cX3_findRings 62 = .ok (.istore 5, 2) := by decide +kernel
theorem dX3_findRings_64 : decode cX3_findRings 64 = .ok (.iload 5, 2) := by decide +kernel
theorem dX3_findRings_66 : decode cX3_findRings 66 = .ok (.aload_n 3, 1) := by decide +kernel
theorem dX3_findRings_67 : decode cX3_findRings 67 = .ok (.getfield 153, 3) := by decide +kernel
theorem dX3_findRings_70 : decode cX3_findRings 70 = .ok (.if_icmp .ne 12, 3) := by decide +kernel
theorem dX3_findRings_73 : decode cX3_findRings 73 = .ok (.iload 4, 2) := by decide +kernel
theorem dX3_findRings_75 : decode cX3_findRings 75 = .ok (.aload_n 3, 1) := by decide +kernel
theorem dX3_findRings_76 : decode cX3_findRings 76 = .ok (.getfield 156, 3) := by decide +kernel
theorem dX3_findRings_79 : decode cX3_findRings 79 = .ok (.if_icmp .eq 12, 3) := by decide +kernel
theorem dX3_findRings_82 : decode cX3_findRings 82 = .ok (.aload_n 0, 1) := by decide +kernel
theorem dX3_findRings_83 : decode cX3_findRings 83 = .ok (.aload_n 3, 1) := by decide +kernel
theorem dX3_findRings_84 : decode cX3_findRings 84 = .ok (.iload 5, 2) := by decide +kernel
theorem dX3_findRings_86 : decode cX3_findRings 86 = .ok (.iload 4, 2) := by decide +kernel
theorem dX3_findRings_88 : decode cX3_findRings 88 = .ok (.invokevirtual 159, 3) := by decide +kernel
theorem dX3_findRings_91 : decode cX3_findRings 91 = .ok (.iinc 2 1, 3) := by decide +kernel
theorem dX3_findRings_94 : decode cX3_findRings 94 = .ok (.goto (-87), 3) := by decide +kernel
theorem dX3_findRings_97 : decode cX3_findRings 97 = .ok (.return_, 1) := by decide +kernel
theorem dX3_isUnbroken_0 : decode cX3_isUnbroken 0 = .ok (.iconst 0, 1) := by decide +kernel
theorem dX3_isUnbroken_1 : decode cX3_isUnbroken 1 = .ok (.istore_n 1, 1) := by decide +kernel
theorem dX3_isUnbroken_2 : decode cX3_isUnbroken 2 = .ok (.iload_n 1, 1) := by decide +kernel
theorem dX3_isUnbroken_3 : decode cX3_isUnbroken 3 = .ok (.aload_n 0, 1) := by decide +kernel
theorem dX3_isUnbroken_4 : decode cX3_isUnbroken 4 = .ok (.getfield 9, 3) := by decide +kernel
theorem dX3_isUnbroken_7 : decode cX3_isUnbroken 7 = .ok (.if_icmp .ge 19, 3) := by decide +kernel
theorem dX3_isUnbroken_10 : decode cX3_isUnbroken 10 = .ok (.aload_n 0, 1) := by decide +kernel
theorem dX3_isUnbroken_11 : decode cX3_isUnbroken 11 = .ok (.iload_n 1, 1) := by decide +kernel
theorem dX3_isUnbroken_12 : decode cX3_isUnbroken 12 = .ok (.invokevirtual 163, 3) := by decide +kernel
theorem dX3_isUnbroken_15 : decode cX3_isUnbroken 15 = .ok (.ifCond .ne 5, 3) := by decide +kernel
theorem dX3_isUnbroken_18 : decode cX3_isUnbroken 18 = .ok (.iconst 0, 1) := by decide +kernel
theorem dX3_isUnbroken_19 : decode cX3_isUnbroken 19 = .ok (.ireturn, 1) := by decide +kernel
theorem dX3_isUnbroken_20 : decode cX3_isUnbroken 20 = .ok (.iinc 1 1, 3) := by decide +kernel
theorem dX3_isUnbroken_23 : decode cX3_isUnbroken 23 = .ok (.goto (-21), 3) := by decide +kernel
theorem dX3_isUnbroken_26 : decode cX3_isUnbroken 26 = .ok (.iconst 1, 1) := by decide +kernel
theorem dX3_isUnbroken_27 : decode cX3_isUnbroken 27 = .ok (.ireturn, 1) := by decide +kernel
theorem dX3_isJoinedToNext_0 : decode cX3_isJoinedToNext 0 = .ok (.aload_n 0, 1) := by decide +kernel
theorem dX3_isJoinedToNext_1 : decode cX3_isJoinedToNext 1 = .ok (.getfield 15, 3) := by decide +kernel
theorem dX3_isJoinedToNext_4 : decode cX3_isJoinedToNext 4 = .ok (.iload_n 1, 1) := by decide +kernel
theorem dX3_isJoinedToNext_5 : decode cX3_isJoinedToNext 5 = .ok (.aaload, 1) := by decide +kernel
theorem dX3_isJoinedToNext_6 : decode cX3_isJoinedToNext 6 = .ok (.getfield 56, 3) := by decide +kernel
theorem dX3_isJoinedToNext_9 : decode cX3_isJoinedToNext 9 = .ok (.ifCond .eq 32, 3) := by decide +kernel
theorem dX3_isJoinedToNext_12 : decode cX3_isJoinedToNext 12 = .ok (.aload_n 0, 1) := by decide +kernel
theorem dX3_isJoinedToNext_13 : decode cX3_isJoinedToNext 13 = .ok (.getfield 19, 3) := by decide +kernel
theorem dX3_isJoinedToNext_16 : decode cX3_isJoinedToNext 16 = .ok (.iload_n 1, 1) := by decide +kernel
theorem dX3_isJoinedToNext_17 : decode cX3_isJoinedToNext 17 = .ok (.baload, 1) := by decide +kernel
theorem dX3_isJoinedToNext_18 : decode cX3_isJoinedToNext 18 = .ok (.ifCond .eq 23, 3) := by decide +kernel
theorem dX3_isJoinedToNext_21 : decode cX3_isJoinedToNext 21 = .ok (.aload_n 0, 1) := by decide +kernel
theorem dX3_isJoinedToNext_22 : decode cX3_isJoinedToNext 22 = .ok (.getfield 15, 3) := by decide +kernel
theorem dX3_isJoinedToNext_25 : decode cX3_isJoinedToNext 25 = .ok (.aload_n 0, 1) := by decide +kernel
theorem dX3_isJoinedToNext_26 : decode cX3_isJoinedToNext 26 = .ok (.iload_n 1, 1) := by decide +kernel
theorem dX3_isJoinedToNext_27 : decode cX3_isJoinedToNext 27 = .ok (.invokevirtual 166, 3) := by decide +kernel
theorem dX3_isJoinedToNext_30 : decode cX3_isJoinedToNext 30 = .ok (.aaload, 1) := by decide +kernel
theorem dX3_isJoinedToNext_31 : decode cX3_isJoinedToNext 31 = .ok (.getfield 56, 3) := by decide +kernel
theorem dX3_isJoinedToNext_34 : decode cX3_isJoinedToNext 34 = .ok (.ifCond .eq 7, 3) := by decide +kernel
theorem dX3_isJoinedToNext_37 : decode cX3_isJoinedToNext 37 = .ok (.iconst 1, 1) := by decide +kernel
theorem dX3_isJoinedToNext_38 : decode cX3_isJoinedToNext 38 = .ok (.goto 4, 3) := by decide +kernel
theorem dX3_isJoinedToNext_41 : decode cX3_isJoinedToNext 41 = .ok (.iconst 0, 1) := by decide +kernel
theorem dX3_isJoinedToNext_42 : decode cX3_isJoinedToNext 42 = .ok (.ireturn, 1) := by decide +kernel
theorem dX3_rowLength_0 : decode cX3_rowLength 0 = .ok (.aload_n 0, 1) := by decide +kernel
theorem dX3_rowLength_1 : decode cX3_rowLength 1 = .ok (.getfield 15, 3) := by decide +kernel
theorem dX3_rowLength_4 : decode cX3_rowLength 4 = .ok (.iload_n 1, 1) := by decide +kernel
theorem dX3_rowLength_5 : decode cX3_rowLength 5 = .ok (.aaload, 1) := by decide +kernel
theorem dX3_rowLength_6 : decode cX3_rowLength 6 = .ok (.getfield 56, 3) := by decide +kernel
theorem dX3_rowLength_9 : decode cX3_rowLength 9 = .ok (.ifCond .eq 15, 3) := by decide +kernel
theorem dX3_rowLength_12 : decode cX3_rowLength 12 = .ok (.aload_n 0, 1) := by decide +kernel
theorem dX3_rowLength_13 : decode cX3_rowLength 13 = .ok (.aload_n 0, 1) := by decide +kernel
theorem dX3_rowLength_14 : decode cX3_rowLength 14 = .ok (.iload_n 1, 1) := by decide +kernel
theorem dX3_rowLength_15 : decode cX3_rowLength 15 = .ok (.invokevirtual 169, 3) := by decide +kernel
theorem dX3_rowLength_18 : decode cX3_rowLength 18 = .ok (.invokevirtual 163, 3) := by decide +kernel
theorem dX3_rowLength_21 : decode cX3_rowLength 21 = .ok (.ifCond .eq 5, 3) := by decide +kernel
theorem dX3_rowLength_24 : decode cX3_rowLength 24 = .ok (.iconst 0, 1) := by decide +kernel
theorem dX3_rowLength_25 : decode cX3_rowLength 25 = .ok (.ireturn, 1) := by decide +kernel
theorem dX3_rowLength_26 : decode cX3_rowLength 26 = .ok (.iconst 1, 1) := by decide +kernel
theorem dX3_rowLength_27 : decode cX3_rowLength 27 = .ok (.istore_n 2, 1) := by decide +kernel
theorem dX3_rowLength_28 : decode cX3_rowLength 28 = .ok (.iload_n 1, 1) := by decide +kernel
theorem dX3_rowLength_29 : decode cX3_rowLength 29 = .ok (.istore_n 3, 1) := by decide +kernel
theorem dX3_rowLength_30 : decode cX3_rowLength 30 = .ok (.iload_n 2, 1) := by decide +kernel
theorem dX3_rowLength_31 : decode cX3_rowLength 31 = .ok (.aload_n 0, 1) := by decide +kernel
theorem dX3_rowLength_32 : decode cX3_rowLength 32 = .ok (.getfield 9, 3) := by decide +kernel
theorem dX3_rowLength_35 : decode cX3_rowLength 35 = .ok (.if_icmp .ge 23, 3) := by decide +kernel
theorem dX3_rowLength_38 : decode cX3_rowLength 38 = .ok (.aload_n 0, 1) := by decide +kernel
theorem dX3_rowLength_39 : decode cX3_rowLength 39 = .ok (.iload_n 3, 1) := by decide +kernel
theorem dX3_rowLength_40 : decode cX3_rowLength 40 = .ok (.invokevirtual 163, 3) := by decide +kernel
theorem dX3_rowLength_43 : decode cX3_rowLength 43 = .ok (.ifCond .eq 15, 3) := by decide +kernel
theorem dX3_rowLength_46 : decode cX3_rowLength 46 = .ok (.aload_n 0, 1) := by decide +kernel
theorem dX3_rowLength_47 : decode cX3_rowLength 47 = .ok (.iload_n 3, 1) := by decide +kernel
theorem dX3_rowLength_48 : decode cX3_rowLength 48 = .ok (.invokevirtual 166, 3) := by decide +kernel
theorem dX3_rowLength_51 : decode cX3_rowLength 51 = .ok (.istore_n 3, 1) := by decide +kernel
theorem dX3_rowLength_52 : decode cX3_rowLength 52 = .ok (.iinc 2 1, 3) := by decide +kernel
theorem dX3_rowLength_55 : decode cX3_rowLength 55 = .ok (.goto (-25), 3) := by decide +kernel
theorem dX3_rowLength_58 : decode cX3_rowLength 58 = .ok (.iload_n 2, 1) := by decide +kernel
theorem dX3_rowLength_59 : decode cX3_rowLength 59 = .ok (.ireturn, 1) := by decide +kernel
theorem dX3_reform_0 : decode cX3_reform 0 = .ok (.aload_n 0, 1) := by decide +kernel
theorem dX3_reform_1 : decode cX3_reform 1 = .ok (.aload_n 1, 1) := by decide +kernel
theorem dX3_reform_2 : decode cX3_reform 2 = .ok (.invokevirtual 172, 3) := by decide +kernel
theorem dX3_reform_5 : decode cX3_reform 5 = .ok (.aload_n 1, 1) := by decide +kernel
theorem dX3_reform_6 : decode cX3_reform 6 = .ok (.iload_n 2, 1) := by decide +kernel
theorem dX3_reform_7 : decode cX3_reform 7 = .ok (.putfield 153, 3) := by decide +kernel
theorem dX3_reform_10 : decode cX3_reform 10 = .ok (.aload_n 1, 1) := by decide +kernel
theorem dX3_reform_11 : decode cX3_reform 11 = .ok (.iload_n 3, 1) := by decide +kernel
theorem dX3_reform_12 : decode cX3_reform 12 = .ok (.putfield 156, 3) := by decide +kernel
theorem dX3_reform_15 : decode cX3_reform 15 = .ok (.aload_n 1, 1) := by decide +kernel
theorem dX3_reform_16 : decode cX3_reform 16 = .ok (.iconst 2, 1) := by decide +kernel
theorem dX3_reform_17 : decode cX3_reform 17 = .ok (.iload_n 2, 1) := by decide +kernel
theorem dX3_reform_18 : decode cX3_reform 18 = .ok (.imul, 1) := by decide +kernel
theorem dX3_reform_19 : decode cX3_reform 19 = .ok (.putfield 175, 3) := by decide +kernel
theorem dX3_reform_22 : decode cX3_reform 22 = .ok (.iconst 0, 1) := by decide +kernel
theorem dX3_reform_23 : decode cX3_reform 23 = .ok (.istore 4, 2) := by decide +kernel
theorem dX3_reform_25 : decode cX3_reform 25 = .ok (.iload 4, 2) := by decide +kernel
theorem dX3_reform_27 : decode cX3_reform 27 = .ok (.iload_n 2, 1) := by decide +kernel
theorem dX3_reform_28 : decode cX3_reform 28 = .ok (.if_icmp .ge 23, 3) := by decide +kernel
theorem dX3_reform_31 : decode cX3_reform 31 = .ok (.aload_n 0, 1) := by decide +kernel
theorem dX3_reform_32 : decode cX3_reform 32 = .ok (.aload_n 1, 1) := by decide +kernel
theorem dX3_reform_33 : decode cX3_reform 33 = .ok (.iload 4, 2) := by decide +kernel
theorem dX3_reform_35 : decode cX3_reform 35 = .ok (.invokevirtual 178, 3) := by decide +kernel
theorem dX3_reform_38 : decode cX3_reform 38 = .ok (.aload_n 1, 1) := by decide +kernel
theorem dX3_reform_39 : decode cX3_reform 39 = .ok (.getfield 144, 3) := by decide +kernel
theorem dX3_reform_42 : decode cX3_reform 42 = .ok (.putfield 70, 3) := by decide +kernel
theorem dX3_reform_45 : decode cX3_reform 45 = .ok (.iinc 4 1, 3) := by decide +kernel
theorem dX3_reform_48 : decode cX3_reform 48 = .ok (.goto (-23), 3) := by decide +kernel
theorem dX3_reform_51 : decode cX3_reform 51 = .ok (.return_, 1) := by decide +kernel
theorem dX3_claim_0 : decode cX3_claim 0 = .ok (.aload_n 0, 1) := by decide +kernel
theorem dX3_claim_1 : decode cX3_claim 1 = .ok (.aload_n 1, 1) := by decide +kernel
theorem dX3_claim_2 : decode cX3_claim 2 = .ok (.invokevirtual 172, 3) := by decide +kernel
theorem dX3_claim_5 : decode cX3_claim 5 = .ok (.aload_n 1, 1) := by decide +kernel
theorem dX3_claim_6 : decode cX3_claim 6 = .ok (.iconst 2, 1) := by decide +kernel
theorem dX3_claim_7 : decode cX3_claim 7 = .ok (.aload_n 1, 1) := by decide +kernel
theorem dX3_claim_8 : decode cX3_claim 8 = .ok (.getfield 153, 3) := by decide +kernel
theorem dX3_claim_11 : decode cX3_claim 11 = .ok (.imul, 1) := by decide +kernel
theorem dX3_claim_12 : decode cX3_claim 12 = .ok (.putfield 175, 3) := by decide +kernel
theorem dX3_claim_15 : decode cX3_claim 15 = .ok (.return_, 1) := by decide +kernel
theorem dX3_loseFrameBeingSent_0 : decode cX3_loseFrameBeingSent 0 = .ok (.aload_n 1, 1) := by decide +kernel
theorem dX3_loseFrameBeingSent_1 : decode cX3_loseFrameBeingSent 1 = .ok (.getfield 91, 3) := by decide +kernel
theorem dX3_loseFrameBeingSent_4 : decode cX3_loseFrameBeingSent 4 = .ok (.ifCond .le 39, 3) := by decide +kernel
theorem dX3_loseFrameBeingSent_7 : decode cX3_loseFrameBeingSent 7 = .ok (.aload_n 0, 1) := by decide +kernel
theorem dX3_loseFrameBeingSent_8 : decode cX3_loseFrameBeingSent 8 = .ok (.aload_n 1, 1) := by decide +kernel
theorem dX3_loseFrameBeingSent_9 : decode cX3_loseFrameBeingSent 9 = .ok (.aload_n 1, 1) := by decide +kernel
theorem dX3_loseFrameBeingSent_10 : decode cX3_loseFrameBeingSent 10 = .ok (.getfield 84, 3) := by decide +kernel
theorem dX3_loseFrameBeingSent_13 : decode cX3_loseFrameBeingSent 13 = .ok (.invokevirtual 178, 3) := by decide +kernel
theorem dX3_loseFrameBeingSent_16 : decode cX3_loseFrameBeingSent 16 = .ok (.astore_n 2, 1) := by decide +kernel
theorem dX3_loseFrameBeingSent_17 : decode cX3_loseFrameBeingSent 17 = .ok (.aload_n 2, 1) := by decide +kernel
theorem dX3_loseFrameBeingSent_18 : decode cX3_loseFrameBeingSent 18 = .ok (.aload_n 1, 1) := by decide +kernel
theorem dX3_loseFrameBeingSent_19 : decode cX3_loseFrameBeingSent 19 = .ok (.getfield 182, 3) := by decide +kernel
theorem dX3_loseFrameBeingSent_22 : decode cX3_loseFrameBeingSent 22 = .ok (.invokevirtual 46, 3) := by decide +kernel
theorem dX3_loseFrameBeingSent_25 : decode cX3_loseFrameBeingSent 25 = .ok (.invokevirtual 185, 3) := by decide +kernel
theorem dX3_loseFrameBeingSent_28 : decode cX3_loseFrameBeingSent 28 = .ok (.aload_n 2, 1) := by decide +kernel
theorem dX3_loseFrameBeingSent_29 : decode cX3_loseFrameBeingSent 29 = .ok (.dup, 1) := by decide +kernel
theorem dX3_loseFrameBeingSent_30 : decode cX3_loseFrameBeingSent 30 = .ok (.getfield 134, 3) := by decide +kernel
theorem dX3_loseFrameBeingSent_33 : decode cX3_loseFrameBeingSent 33 = .ok (.iconst 1, 1) := by decide +kernel
theorem dX3_loseFrameBeingSent_34 : decode cX3_loseFrameBeingSent 34 = .ok (.iadd, 1) := by decide +kernel
theorem dX3_loseFrameBeingSent_35 : decode cX3_loseFrameBeingSent 35 = .ok (.putfield 134, 3) := by decide +kernel
theorem dX3_loseFrameBeingSent_38 : decode cX3_loseFrameBeingSent 38 = .ok (.aload_n 1, 1) := by decide +kernel
theorem dX3_loseFrameBeingSent_39 : decode cX3_loseFrameBeingSent 39 = .ok (.iconst 0, 1) := by decide +kernel
theorem dX3_loseFrameBeingSent_40 : decode cX3_loseFrameBeingSent 40 = .ok (.putfield 91, 3) := by decide +kernel
theorem dX3_loseFrameBeingSent_43 : decode cX3_loseFrameBeingSent 43 = .ok (.return_, 1) := by decide +kernel
theorem dX3_passTick_0 : decode cX3_passTick 0 = .ok (.aload_n 1, 1) := by decide +kernel
theorem dX3_passTick_1 : decode cX3_passTick 1 = .ok (.invokevirtual 77, 3) := by decide +kernel
theorem dX3_passTick_4 : decode cX3_passTick 4 = .ok (.ifCond .eq 11, 3) := by decide +kernel
theorem dX3_passTick_7 : decode cX3_passTick 7 = .ok (.aload_n 0, 1) := by decide +kernel
theorem dX3_passTick_8 : decode cX3_passTick 8 = .ok (.aload_n 1, 1) := by decide +kernel
theorem dX3_passTick_9 : decode cX3_passTick 9 = .ok (.invokevirtual 188, 3) := by decide +kernel
theorem dX3_passTick_12 : decode cX3_passTick 12 = .ok (.goto 31, 3) := by decide +kernel
theorem dX3_passTick_15 : decode cX3_passTick 15 = .ok (.aload_n 1, 1) := by decide +kernel
theorem dX3_passTick_16 : decode cX3_passTick 16 = .ok (.getfield 153, 3) := by decide +kernel
theorem dX3_passTick_19 : decode cX3_passTick 19 = .ok (.ifCond .le 24, 3) := by decide +kernel
theorem dX3_passTick_22 : decode cX3_passTick 22 = .ok (.aload_n 0, 1) := by decide +kernel
theorem dX3_passTick_23 : decode cX3_passTick 23 = .ok (.aload_n 1, 1) := by decide +kernel
theorem dX3_passTick_24 : decode cX3_passTick 24 = .ok (.invokevirtual 191, 3) := by decide +kernel
theorem dX3_passTick_27 : decode cX3_passTick 27 = .ok (.ifCond .eq 11, 3) := by decide +kernel
theorem dX3_passTick_30 : decode cX3_passTick 30 = .ok (.aload_n 0, 1) := by decide +kernel
theorem dX3_passTick_31 : decode cX3_passTick 31 = .ok (.aload_n 1, 1) := by decide +kernel
theorem dX3_passTick_32 : decode cX3_passTick 32 = .ok (.invokevirtual 195, 3) := by decide +kernel
theorem dX3_passTick_35 : decode cX3_passTick 35 = .ok (.goto 8, 3) := by decide +kernel
theorem dX3_passTick_38 : decode cX3_passTick 38 = .ok (.aload_n 0, 1) := by decide +kernel
theorem dX3_passTick_39 : decode cX3_passTick 39 = .ok (.aload_n 1, 1) := by decide +kernel
theorem dX3_passTick_40 : decode cX3_passTick 40 = .ok (.invokevirtual 198, 3) := by decide +kernel
theorem dX3_passTick_43 : decode cX3_passTick 43 = .ok (.return_, 1) := by decide +kernel
theorem dX3_passClaim_0 : decode cX3_passClaim 0 = .ok (.aload_n 1, 1) := by decide +kernel
theorem dX3_passClaim_1 : decode cX3_passClaim 1 = .ok (.dup, 1) := by decide +kernel
theorem dX3_passClaim_2 : decode cX3_passClaim 2 = .ok (.getfield 175, 3) := by decide +kernel
theorem dX3_passClaim_5 : decode cX3_passClaim 5 = .ok (.iconst 1, 1) := by decide +kernel
theorem dX3_passClaim_6 : decode cX3_passClaim 6 = .ok (.isub, 1) := by decide +kernel
theorem dX3_passClaim_7 : decode cX3_passClaim 7 = .ok (.putfield 175, 3) := by decide +kernel
theorem dX3_passClaim_10 : decode cX3_passClaim 10 = .ok (.aload_n 1, 1) := by decide +kernel
theorem dX3_passClaim_11 : decode cX3_passClaim 11 = .ok (.getfield 175, 3) := by decide +kernel
theorem dX3_passClaim_14 : decode cX3_passClaim 14 = .ok (.ifCond .ne 8, 3) := by decide +kernel
theorem dX3_passClaim_17 : decode cX3_passClaim 17 = .ok (.aload_n 0, 1) := by decide +kernel
theorem dX3_passClaim_18 : decode cX3_passClaim 18 = .ok (.aload_n 1, 1) := by decide +kernel
theorem dX3_passClaim_19 : decode cX3_passClaim 19 = .ok (.invokevirtual 201, 3) := by decide +kernel
theorem dX3_passClaim_22 : decode cX3_passClaim 22 = .ok (.return_, 1) := by decide +kernel
theorem dX3_operate_0 : decode cX3_operate 0 = .ok (.aload_n 0, 1) := by decide +kernel
theorem dX3_operate_1 : decode cX3_operate 1 = .ok (.aload_n 1, 1) := by decide +kernel
theorem dX3_operate_2 : decode cX3_operate 2 = .ok (.invokevirtual 204, 3) := by decide +kernel
theorem dX3_operate_5 : decode cX3_operate 5 = .ok (.istore_n 2, 1) := by decide +kernel
theorem dX3_operate_6 : decode cX3_operate 6 = .ok (.iconst 0, 1) := by decide +kernel
theorem dX3_operate_7 : decode cX3_operate 7 = .ok (.istore_n 3, 1) := by decide +kernel
theorem dX3_operate_8 : decode cX3_operate 8 = .ok (.iload_n 3, 1) := by decide +kernel
theorem dX3_operate_9 : decode cX3_operate 9 = .ok (.aload_n 1, 1) := by decide +kernel
theorem dX3_operate_10 : decode cX3_operate 10 = .ok (.getfield 153, 3) := by decide +kernel
theorem dX3_operate_13 : decode cX3_operate 13 = .ok (.if_icmp .ge 18, 3) := by decide +kernel
theorem dX3_operate_16 : decode cX3_operate 16 = .ok (.aload_n 0, 1) := by decide +kernel
theorem dX3_operate_17 : decode cX3_operate 17 = .ok (.aload_n 1, 1) := by decide +kernel
theorem dX3_operate_18 : decode cX3_operate 18 = .ok (.iload_n 3, 1) := by decide +kernel
theorem dX3_operate_19 : decode cX3_operate 19 = .ok (.invokevirtual 178, 3) := by decide +kernel
theorem dX3_operate_22 : decode cX3_operate 22 = .ok (.invokevirtual 208, 3) := by decide +kernel
theorem dX3_operate_25 : decode cX3_operate 25 = .ok (.iinc 3 1, 3) := by decide +kernel
theorem dX3_operate_28 : decode cX3_operate 28 = .ok (.goto (-20), 3) := by decide +kernel
theorem dX3_operate_31 : decode cX3_operate 31 = .ok (.aload_n 1, 1) := by decide +kernel
theorem dX3_operate_32 : decode cX3_operate 32 = .ok (.aload_n 0, 1) := by decide +kernel
theorem dX3_operate_33 : decode cX3_operate 33 = .ok (.aload_n 1, 1) := by decide +kernel
theorem dX3_operate_34 : decode cX3_operate 34 = .ok (.iload_n 2, 1) := by decide +kernel
theorem dX3_operate_35 : decode cX3_operate 35 = .ok (.invokevirtual 178, 3) := by decide +kernel
theorem dX3_operate_38 : decode cX3_operate 38 = .ok (.getfield 40, 3) := by decide +kernel
theorem dX3_operate_41 : decode cX3_operate 41 = .ok (.putfield 94, 3) := by decide +kernel
theorem dX3_operate_44 : decode cX3_operate 44 = .ok (.aload_n 1, 1) := by decide +kernel
theorem dX3_operate_45 : decode cX3_operate 45 = .ok (.iload_n 2, 1) := by decide +kernel
theorem dX3_operate_46 : decode cX3_operate 46 = .ok (.putfield 84, 3) := by decide +kernel
theorem dX3_operate_49 : decode cX3_operate 49 = .ok (.aload_n 0, 1) := by decide +kernel
theorem dX3_operate_50 : decode cX3_operate 50 = .ok (.aload_n 1, 1) := by decide +kernel
theorem dX3_operate_51 : decode cX3_operate 51 = .ok (.invokevirtual 211, 3) := by decide +kernel
theorem dX3_operate_54 : decode cX3_operate 54 = .ok (.return_, 1) := by decide +kernel
theorem dX3_winningPlace_0 : decode cX3_winningPlace 0 = .ok (.iconst 0, 1) := by decide +kernel
theorem dX3_winningPlace_1 : decode cX3_winningPlace 1 = .ok (.istore_n 2, 1) := by decide +kernel
theorem dX3_winningPlace_2 : decode cX3_winningPlace 2 = .ok (.iconst 1, 1) := by decide +kernel
theorem dX3_winningPlace_3 : decode cX3_winningPlace 3 = .ok (.istore_n 3, 1) := by decide +kernel
theorem dX3_winningPlace_4 : decode cX3_winningPlace 4 = .ok (.iload_n 3, 1) := by decide +kernel
theorem dX3_winningPlace_5 : decode cX3_winningPlace 5 = .ok (.aload_n 1, 1) := by decide +kernel
theorem dX3_winningPlace_6 : decode cX3_winningPlace 6 = .ok (.getfield 153, 3) := by decide +kernel
theorem dX3_winningPlace_9 : decode cX3_winningPlace 9 = .ok (.if_icmp .ge 74, 3) := by decide +kernel
theorem dX3_winningPlace_12 : decode cX3_winningPlace 12 = .ok (.aload_n 0, 1) := by decide +kernel
theorem dX3_winningPlace_13 : decode cX3_winningPlace 13 = .ok (.aload_n 1, 1) := by decide +kernel
theorem dX3_winningPlace_14 : decode cX3_winningPlace 14 = .ok (.iload_n 3, 1) := by decide +kernel
theorem dX3_winningPlace_15 : decode cX3_winningPlace 15 = .ok (.invokevirtual 178, 3) := by decide +kernel
theorem dX3_winningPlace_18 : decode cX3_winningPlace 18 = .ok (.getfield 40, 3) := by decide +kernel
theorem dX3_winningPlace_21 : decode cX3_winningPlace 21 = .ok (.istore 4, 2) := by decide +kernel
theorem dX3_winningPlace_23 : decode cX3_winningPlace 23 = .ok (.aload_n 0, 1) := by decide +kernel
theorem dX3_winningPlace_24 : decode cX3_winningPlace 24 = .ok (.aload_n 1, 1) := by decide +kernel
theorem dX3_winningPlace_25 : decode cX3_winningPlace 25 = .ok (.iload_n 2, 1) := by decide +kernel
theorem dX3_winningPlace_26 : decode cX3_winningPlace 26 = .ok (.invokevirtual 178, 3) := by decide +kernel
theorem dX3_winningPlace_29 : decode cX3_winningPlace 29 = .ok (.getfield 40, 3) := by decide +kernel
theorem dX3_winningPlace_32 : decode cX3_winningPlace 32 = .ok (.istore 5, 2) := by decide +kernel
theorem dX3_winningPlace_34 : decode cX3_winningPlace 34 = .ok (.aload_n 0, 1) := by decide +kernel
theorem dX3_winningPlace_35 : decode cX3_winningPlace 35 = .ok (.aload_n 1, 1) := by decide +kernel
theorem dX3_winningPlace_36 : decode cX3_winningPlace 36 = .ok (.iload_n 3, 1) := by decide +kernel
theorem dX3_winningPlace_37 : decode cX3_winningPlace 37 = .ok (.invokevirtual 87, 3) := by decide +kernel
theorem dX3_winningPlace_40 : decode cX3_winningPlace 40 = .ok (.aload_n 0, 1) := by decide +kernel
theorem dX3_winningPlace_41 : decode cX3_winningPlace 41 = .ok (.aload_n 1, 1) := by decide +kernel
theorem dX3_winningPlace_42 : decode cX3_winningPlace 42 = .ok (.iload_n 2, 1) := by decide +kernel
theorem dX3_winningPlace_43 : decode cX3_winningPlace 43 = .ok (.invokevirtual 87, 3) := by decide +kernel
theorem dX3_winningPlace_46 : decode cX3_winningPlace 46 = .ok (.if_icmp .le 7, 3) := by decide +kernel
theorem dX3_winningPlace_49 : decode cX3_winningPlace 49 = .ok (.iconst 1, 1) := by decide +kernel
theorem dX3_winningPlace_50 : decode cX3_winningPlace 50 = .ok (.goto 4, 3) := by decide +kernel
theorem dX3_winningPlace_53 : decode cX3_winningPlace 53 = .ok (.iconst 0, 1) := by decide +kernel
theorem dX3_winningPlace_54 : decode cX3_winningPlace 54 = .ok (.istore 6, 2) := by decide +kernel
theorem dX3_winningPlace_56 : decode cX3_winningPlace 56 = .ok (.iload 4, 2) := by decide +kernel
theorem dX3_winningPlace_58 : decode cX3_winningPlace 58 = .ok (.iload 5, 2) := by decide +kernel
theorem dX3_winningPlace_60 : decode cX3_winningPlace 60 = .ok (.if_icmp .lt 15, 3) := by decide +kernel
theorem dX3_winningPlace_63 : decode cX3_winningPlace 63 = .ok (.iload 4, 2) := by decide +kernel
theorem dX3_winningPlace_65 : decode cX3_winningPlace 65 = .ok (.iload 5, 2) := by decide +kernel
theorem dX3_winningPlace_67 : decode cX3_winningPlace 67 = .ok (.if_icmp .ne 10, 3) := by decide +kernel
theorem dX3_winningPlace_70 : decode cX3_winningPlace 70 = .ok (.iload 6, 2) := by decide +kernel
theorem dX3_winningPlace_72 : decode cX3_winningPlace 72 = .ok (.ifCond .eq 5, 3) := by decide +kernel
theorem dX3_winningPlace_75 : decode cX3_winningPlace 75 = .ok (.iload_n 3, 1) := by decide +kernel
theorem dX3_winningPlace_76 : decode cX3_winningPlace 76 = .ok (.istore_n 2, 1) := by decide +kernel
theorem dX3_winningPlace_77 : decode cX3_winningPlace 77 = .ok (.iinc 3 1, 3) := by decide +kernel
theorem dX3_winningPlace_80 : decode cX3_winningPlace 80 = .ok (.goto (-76), 3) := by decide +kernel
theorem dX3_winningPlace_83 : decode cX3_winningPlace 83 = .ok (.iload_n 2, 1) := by decide +kernel
theorem dX3_winningPlace_84 : decode cX3_winningPlace 84 = .ok (.ireturn, 1) := by decide +kernel
theorem dX3_runTimers_0 : decode cX3_runTimers 0 = .ok (.iconst 0, 1) := by decide +kernel
theorem dX3_runTimers_1 : decode cX3_runTimers 1 = .ok (.istore_n 2, 1) := by decide +kernel
theorem dX3_runTimers_2 : decode cX3_runTimers 2 = .ok (.iload_n 2, 1) := by decide +kernel
theorem dX3_runTimers_3 : decode cX3_runTimers 3 = .ok (.aload_n 1, 1) := by decide +kernel
theorem dX3_runTimers_4 : decode cX3_runTimers 4 = .ok (.getfield 153, 3) := by decide +kernel
theorem dX3_runTimers_7 : decode cX3_runTimers 7 = .ok (.if_icmp .ge 34, 3) := by decide +kernel
theorem dX3_runTimers_10 : decode cX3_runTimers 10 = .ok (.aload_n 0, 1) := by decide +kernel
theorem dX3_runTimers_11 : decode cX3_runTimers 11 = .ok (.aload_n 1, 1) := by decide +kernel
theorem dX3_runTimers_12 : decode cX3_runTimers 12 = .ok (.iload_n 2, 1) := by decide +kernel
theorem dX3_runTimers_13 : decode cX3_runTimers 13 = .ok (.invokevirtual 178, 3) := by decide +kernel
theorem dX3_runTimers_16 : decode cX3_runTimers 16 = .ok (.astore_n 3, 1) := by decide +kernel
theorem dX3_runTimers_17 : decode cX3_runTimers 17 = .ok (.aload_n 3, 1) := by decide +kernel
theorem dX3_runTimers_18 : decode cX3_runTimers 18 = .ok (.aload_n 1, 1) := by decide +kernel
theorem dX3_runTimers_19 : decode cX3_runTimers 19 = .ok (.getfield 94, 3) := by decide +kernel
theorem dX3_runTimers_22 : decode cX3_runTimers 22 = .ok (.invokevirtual 214, 3) := by decide +kernel
theorem dX3_runTimers_25 : decode cX3_runTimers 25 = .ok (.aload_n 3, 1) := by decide +kernel
theorem dX3_runTimers_26 : decode cX3_runTimers 26 = .ok (.getfield 100, 3) := by decide +kernel
theorem dX3_runTimers_29 : decode cX3_runTimers 29 = .ok (.iconst 2, 1) := by decide +kernel
theorem dX3_runTimers_30 : decode cX3_runTimers 30 = .ok (.if_icmp .lt 5, 3) := by decide +kernel
theorem dX3_runTimers_33 : decode cX3_runTimers 33 = .ok (.iconst 0, 1) := by decide +kernel
theorem dX3_runTimers_34 : decode cX3_runTimers 34 = .ok (.ireturn, 1) := by decide +kernel
theorem dX3_runTimers_35 : decode cX3_runTimers 35 = .ok (.iinc 2 1, 3) := by decide +kernel
theorem dX3_runTimers_38 : decode cX3_runTimers 38 = .ok (.goto (-36), 3) := by decide +kernel
theorem dX3_runTimers_41 : decode cX3_runTimers 41 = .ok (.iconst 1, 1) := by decide +kernel
theorem dX3_runTimers_42 : decode cX3_runTimers 42 = .ok (.ireturn, 1) := by decide +kernel
theorem dX3_passToken_0 : decode cX3_passToken 0 = .ok (.aload_n 1, 1) := by decide +kernel
theorem dX3_passToken_1 : decode cX3_passToken 1 = .ok (.getfield 81, 3) := by decide +kernel
theorem dX3_passToken_4 : decode cX3_passToken 4 = .ok (.ifCond .le 26, 3) := by decide +kernel
theorem dX3_passToken_7 : decode cX3_passToken 7 = .ok (.aload_n 1, 1) := by decide +kernel
theorem dX3_passToken_8 : decode cX3_passToken 8 = .ok (.dup, 1) := by decide +kernel
theorem dX3_passToken_9 : decode cX3_passToken 9 = .ok (.getfield 81, 3) := by decide +kernel
theorem dX3_passToken_12 : decode cX3_passToken 12 = .ok (.iconst 1, 1) := by decide +kernel
theorem dX3_passToken_13 : decode cX3_passToken 13 = .ok (.isub, 1) := by decide +kernel
theorem dX3_passToken_14 : decode cX3_passToken 14 = .ok (.putfield 81, 3) := by decide +kernel
theorem dX3_passToken_17 : decode cX3_passToken 17 = .ok (.aload_n 1, 1) := by decide +kernel
theorem dX3_passToken_18 : decode cX3_passToken 18 = .ok (.getfield 81, 3) := by decide +kernel
theorem dX3_passToken_21 : decode cX3_passToken 21 = .ok (.ifCond .ne 8, 3) := by decide +kernel
theorem dX3_passToken_24 : decode cX3_passToken 24 = .ok (.aload_n 0, 1) := by decide +kernel
theorem dX3_passToken_25 : decode cX3_passToken 25 = .ok (.aload_n 1, 1) := by decide +kernel
theorem dX3_passToken_26 : decode cX3_passToken 26 = .ok (.invokevirtual 217, 3) := by decide +kernel
theorem dX3_passToken_29 : decode cX3_passToken 29 = .ok (.return_, 1) := by decide +kernel
theorem dX3_passToken_30 : decode cX3_passToken 30 = .ok (.aload_n 1, 1) := by decide +kernel
theorem dX3_passToken_31 : decode cX3_passToken 31 = .ok (.getfield 91, 3) := by decide +kernel
theorem dX3_passToken_34 : decode cX3_passToken 34 = .ok (.ifCond .le 8, 3) := by decide +kernel
theorem dX3_passToken_37 : decode cX3_passToken 37 = .ok (.aload_n 0, 1) := by decide +kernel
theorem dX3_passToken_38 : decode cX3_passToken 38 = .ok (.aload_n 1, 1) := by decide +kernel
theorem dX3_passToken_39 : decode cX3_passToken 39 = .ok (.invokevirtual 220, 3) := by decide +kernel
theorem dX3_passToken_42 : decode cX3_passToken 42 = .ok (.aload_n 1, 1) := by decide +kernel
theorem dX3_passToken_43 : decode cX3_passToken 43 = .ok (.getfield 91, 3) := by decide +kernel
theorem dX3_passToken_46 : decode cX3_passToken 46 = .ok (.ifCond .ne 8, 3) := by decide +kernel
theorem dX3_passToken_49 : decode cX3_passToken 49 = .ok (.aload_n 0, 1) := by decide +kernel
theorem dX3_passToken_50 : decode cX3_passToken 50 = .ok (.aload_n 1, 1) := by decide +kernel
theorem dX3_passToken_51 : decode cX3_passToken 51 = .ok (.invokevirtual 223, 3) := by decide +kernel
theorem dX3_passToken_54 : decode cX3_passToken 54 = .ok (.return_, 1) := by decide +kernel
theorem dX3_arrive_0 : decode cX3_arrive 0 = .ok (.aload_n 0, 1) := by decide +kernel
theorem dX3_arrive_1 : decode cX3_arrive 1 = .ok (.aload_n 1, 1) := by decide +kernel
theorem dX3_arrive_2 : decode cX3_arrive 2 = .ok (.aload_n 1, 1) := by decide +kernel
theorem dX3_arrive_3 : decode cX3_arrive 3 = .ok (.getfield 84, 3) := by decide +kernel
theorem dX3_arrive_6 : decode cX3_arrive 6 = .ok (.invokevirtual 178, 3) := by decide +kernel
theorem dX3_arrive_9 : decode cX3_arrive 9 = .ok (.astore_n 2, 1) := by decide +kernel
theorem dX3_arrive_10 : decode cX3_arrive 10 = .ok (.aload_n 2, 1) := by decide +kernel
theorem dX3_arrive_11 : decode cX3_arrive 11 = .ok (.getfield 226, 3) := by decide +kernel
theorem dX3_arrive_14 : decode cX3_arrive 14 = .ok (.ifCond .eq 22, 3) := by decide +kernel
theorem dX3_arrive_17 : decode cX3_arrive 17 = .ok (.aload_n 2, 1) := by decide +kernel
theorem dX3_arrive_18 : decode cX3_arrive 18 = .ok (.getfield 229, 3) := by decide +kernel
theorem dX3_arrive_21 : decode cX3_arrive 21 = .ok (.aload_n 0, 1) := by decide +kernel
theorem dX3_arrive_22 : decode cX3_arrive 22 = .ok (.getfield 141, 3) := by decide +kernel
theorem dX3_arrive_25 : decode cX3_arrive 25 = .ok (.if_icmp .le 11, 3) := by decide +kernel
theorem dX3_arrive_28 : decode cX3_arrive 28 = .ok (.aload_n 0, 1) := by decide +kernel
theorem dX3_arrive_29 : decode cX3_arrive 29 = .ok (.aload_n 2, 1) := by decide +kernel
theorem dX3_arrive_30 : decode cX3_arrive 30 = .ok (.getfield 229, 3) := by decide +kernel
theorem dX3_arrive_33 : decode cX3_arrive 33 = .ok (.putfield 141, 3) := by decide +kernel
theorem dX3_arrive_36 : decode cX3_arrive 36 = .ok (.aload_n 1, 1) := by decide +kernel
theorem dX3_arrive_37 : decode cX3_arrive 37 = .ok (.getfield 84, 3) := by decide +kernel
theorem dX3_arrive_40 : decode cX3_arrive 40 = .ok (.ifCond .ne 12, 3) := by decide +kernel
theorem dX3_arrive_43 : decode cX3_arrive 43 = .ok (.aload_n 1, 1) := by decide +kernel
theorem dX3_arrive_44 : decode cX3_arrive 44 = .ok (.getfield 153, 3) := by decide +kernel
theorem dX3_arrive_47 : decode cX3_arrive 47 = .ok (.iconst 1, 1) := by decide +kernel
theorem dX3_arrive_48 : decode cX3_arrive 48 = .ok (.isub, 1) := by decide +kernel
theorem dX3_arrive_49 : decode cX3_arrive 49 = .ok (.goto 9, 3) := by decide +kernel
theorem dX3_arrive_52 : decode cX3_arrive 52 = .ok (.aload_n 1, 1) := by decide +kernel
theorem dX3_arrive_53 : decode cX3_arrive 53 = .ok (.getfield 84, 3) := by decide +kernel
theorem dX3_arrive_56 : decode cX3_arrive 56 = .ok (.iconst 1, 1) := by decide +kernel
theorem dX3_arrive_57 : decode cX3_arrive 57 = .ok (.isub, 1) := by decide +kernel
theorem dX3_arrive_58 : decode cX3_arrive 58 = .ok (.istore_n 3, 1) := by decide +kernel
theorem dX3_arrive_59 : decode cX3_arrive 59 = .ok (.aload_n 2, 1) := by decide +kernel
theorem dX3_arrive_60 : decode cX3_arrive 60 = .ok (.aload_n 0, 1) := by decide +kernel
theorem dX3_arrive_61 : decode cX3_arrive 61 = .ok (.aload_n 1, 1) := by decide +kernel
theorem dX3_arrive_62 : decode cX3_arrive 62 = .ok (.iload_n 3, 1) := by decide +kernel
theorem dX3_arrive_63 : decode cX3_arrive 63 = .ok (.invokevirtual 87, 3) := by decide +kernel
theorem dX3_arrive_66 : decode cX3_arrive 66 = .ok (.aload_n 1, 1) := by decide +kernel
theorem dX3_arrive_67 : decode cX3_arrive 67 = .ok (.getfield 94, 3) := by decide +kernel
theorem dX3_arrive_70 : decode cX3_arrive 70 = .ok (.invokevirtual 232, 3) := by decide +kernel
theorem dX3_arrive_73 : decode cX3_arrive 73 = .ok (.aload_n 1, 1) := by decide +kernel
theorem dX3_arrive_74 : decode cX3_arrive 74 = .ok (.iconst 0, 1) := by decide +kernel
theorem dX3_arrive_75 : decode cX3_arrive 75 = .ok (.putfield 236, 3) := by decide +kernel
theorem dX3_arrive_78 : decode cX3_arrive 78 = .ok (.return_, 1) := by decide +kernel
theorem dX3_leave_0 : decode cX3_leave 0 = .ok (.aload_n 1, 1) := by decide +kernel
theorem dX3_leave_1 : decode cX3_leave 1 = .ok (.getfield 84, 3) := by decide +kernel
theorem dX3_leave_4 : decode cX3_leave 4 = .ok (.aload_n 1, 1) := by decide +kernel
theorem dX3_leave_5 : decode cX3_leave 5 = .ok (.getfield 153, 3) := by decide +kernel
theorem dX3_leave_8 : decode cX3_leave 8 = .ok (.iconst 1, 1) := by decide +kernel
theorem dX3_leave_9 : decode cX3_leave 9 = .ok (.isub, 1) := by decide +kernel
theorem dX3_leave_10 : decode cX3_leave 10 = .ok (.if_icmp .ne 7, 3) := by decide +kernel
theorem dX3_leave_13 : decode cX3_leave 13 = .ok (.iconst 1, 1) := by decide +kernel
theorem dX3_leave_14 : decode cX3_leave 14 = .ok (.goto 4, 3) := by decide +kernel
theorem dX3_leave_17 : decode cX3_leave 17 = .ok (.iconst 0, 1) := by decide +kernel
theorem dX3_leave_18 : decode cX3_leave 18 = .ok (.istore_n 2, 1) := by decide +kernel
theorem dX3_leave_19 : decode cX3_leave 19 = .ok (.aload_n 1, 1) := by decide +kernel
theorem dX3_leave_20 : decode cX3_leave 20 = .ok (.iload_n 2, 1) := by decide +kernel
theorem dX3_leave_21 : decode cX3_leave 21 = .ok (.ifCond .eq 17, 3) := by decide +kernel
theorem dX3_leave_24 : decode cX3_leave 24 = .ok (.aload_n 1, 1) := by decide +kernel
theorem dX3_leave_25 : decode cX3_leave 25 = .ok (.getfield 156, 3) := by decide +kernel
theorem dX3_leave_28 : decode cX3_leave 28 = .ok (.ifCond .ne 10, 3) := by decide +kernel
theorem dX3_leave_31 : decode cX3_leave 31 = .ok (.aload_n 1, 1) := by decide +kernel
theorem dX3_leave_32 : decode cX3_leave 32 = .ok (.getfield 153, 3) := by decide +kernel
theorem dX3_leave_35 : decode cX3_leave 35 = .ok (.goto 4, 3) := by decide +kernel
theorem dX3_leave_38 : decode cX3_leave 38 = .ok (.iconst 1, 1) := by decide +kernel
theorem dX3_leave_39 : decode cX3_leave 39 = .ok (.putfield 81, 3) := by decide +kernel
theorem dX3_leave_42 : decode cX3_leave 42 = .ok (.aload_n 1, 1) := by decide +kernel
theorem dX3_leave_43 : decode cX3_leave 43 = .ok (.iload_n 2, 1) := by decide +kernel
theorem dX3_leave_44 : decode cX3_leave 44 = .ok (.ifCond .eq 7, 3) := by decide +kernel
theorem dX3_leave_47 : decode cX3_leave 47 = .ok (.iconst 0, 1) := by decide +kernel
theorem dX3_leave_48 : decode cX3_leave 48 = .ok (.goto 9, 3) := by decide +kernel
theorem dX3_leave_51 : decode cX3_leave 51 = .ok (.aload_n 1, 1) := by decide +kernel
theorem dX3_leave_52 : decode cX3_leave 52 = .ok (.getfield 84, 3) := by decide +kernel
theorem dX3_leave_55 : decode cX3_leave 55 = .ok (.iconst 1, 1) := by decide +kernel
theorem dX3_leave_56 : decode cX3_leave 56 = .ok (.iadd, 1) := by decide +kernel
theorem dX3_leave_57 : decode cX3_leave 57 = .ok (.putfield 84, 3) := by decide +kernel
theorem dX3_leave_60 : decode cX3_leave 60 = .ok (.return_, 1) := by decide +kernel
theorem dX3_passFrame_0 : decode cX3_passFrame 0 = .ok (.aload_n 0, 1) := by decide +kernel
theorem dX3_passFrame_1 : decode cX3_passFrame 1 = .ok (.aload_n 1, 1) := by decide +kernel
theorem dX3_passFrame_2 : decode cX3_passFrame 2 = .ok (.aload_n 1, 1) := by decide +kernel
theorem dX3_passFrame_3 : decode cX3_passFrame 3 = .ok (.getfield 84, 3) := by decide +kernel
theorem dX3_passFrame_6 : decode cX3_passFrame 6 = .ok (.invokevirtual 178, 3) := by decide +kernel
theorem dX3_passFrame_9 : decode cX3_passFrame 9 = .ok (.astore_n 2, 1) := by decide +kernel
theorem dX3_passFrame_10 : decode cX3_passFrame 10 = .ok (.aload_n 1, 1) := by decide +kernel
theorem dX3_passFrame_11 : decode cX3_passFrame 11 = .ok (.dup, 1) := by decide +kernel
theorem dX3_passFrame_12 : decode cX3_passFrame 12 = .ok (.getfield 91, 3) := by decide +kernel
theorem dX3_passFrame_15 : decode cX3_passFrame 15 = .ok (.iconst 1, 1) := by decide +kernel
theorem dX3_passFrame_16 : decode cX3_passFrame 16 = .ok (.isub, 1) := by decide +kernel
theorem dX3_passFrame_17 : decode cX3_passFrame 17 = .ok (.putfield 91, 3) := by decide +kernel
theorem dX3_passFrame_20 : decode cX3_passFrame 20 = .ok (.aload_n 1, 1) := by decide +kernel
theorem dX3_passFrame_21 : decode cX3_passFrame 21 = .ok (.getfield 182, 3) := by decide +kernel
theorem dX3_passFrame_24 : decode cX3_passFrame 24 = .ok (.ifCond .ne 20, 3) := by decide +kernel
theorem dX3_passFrame_27 : decode cX3_passFrame 27 = .ok (.aload_n 2, 1) := by decide +kernel
theorem dX3_passFrame_28 : decode cX3_passFrame 28 = .ok (.getfield 103, 3) := by decide +kernel
theorem dX3_passFrame_31 : decode cX3_passFrame 31 = .ok (.ifCond .le 13, 3) := by decide +kernel
theorem dX3_passFrame_34 : decode cX3_passFrame 34 = .ok (.aload_n 2, 1) := by decide +kernel
theorem dX3_passFrame_35 : decode cX3_passFrame 35 = .ok (.dup, 1) := by decide +kernel
theorem dX3_passFrame_36 : decode cX3_passFrame 36 = .ok (.getfield 103, 3) := by decide +kernel
theorem dX3_passFrame_39 : decode cX3_passFrame 39 = .ok (.iconst 1, 1) := by decide +kernel
theorem dX3_passFrame_40 : decode cX3_passFrame 40 = .ok (.isub, 1) := by decide +kernel
theorem dX3_passFrame_41 : decode cX3_passFrame 41 = .ok (.putfield 103, 3) := by decide +kernel
theorem dX3_passFrame_44 : decode cX3_passFrame 44 = .ok (.aload_n 1, 1) := by decide +kernel
theorem dX3_passFrame_45 : decode cX3_passFrame 45 = .ok (.getfield 91, 3) := by decide +kernel
theorem dX3_passFrame_48 : decode cX3_passFrame 48 = .ok (.ifCond .ne 9, 3) := by decide +kernel
theorem dX3_passFrame_51 : decode cX3_passFrame 51 = .ok (.aload_n 0, 1) := by decide +kernel
theorem dX3_passFrame_52 : decode cX3_passFrame 52 = .ok (.aload_n 1, 1) := by decide +kernel
theorem dX3_passFrame_53 : decode cX3_passFrame 53 = .ok (.aload_n 2, 1) := by decide +kernel
theorem dX3_passFrame_54 : decode cX3_passFrame 54 = .ok (.invokevirtual 239, 3) := by decide +kernel
theorem dX3_passFrame_57 : decode cX3_passFrame 57 = .ok (.return_, 1) := by decide +kernel
theorem dX3_finishFrame_0 : decode cX3_finishFrame 0 = .ok (.aload_n 2, 1) := by decide +kernel
theorem dX3_finishFrame_1 : decode cX3_finishFrame 1 = .ok (.aload_n 1, 1) := by decide +kernel
theorem dX3_finishFrame_2 : decode cX3_finishFrame 2 = .ok (.getfield 182, 3) := by decide +kernel
theorem dX3_finishFrame_5 : decode cX3_finishFrame 5 = .ok (.invokevirtual 46, 3) := by decide +kernel
theorem dX3_finishFrame_8 : decode cX3_finishFrame 8 = .ok (.astore_n 3, 1) := by decide +kernel
theorem dX3_finishFrame_9 : decode cX3_finishFrame 9 = .ok (.aload_n 3, 1) := by decide +kernel
theorem dX3_finishFrame_10 : decode cX3_finishFrame 10 = .ok (.getfield 243, 3) := by decide +kernel
theorem dX3_finishFrame_13 : decode cX3_finishFrame 13 = .ok (.iconst 0, 1) := by decide +kernel
theorem dX3_finishFrame_14 : decode cX3_finishFrame 14 = .ok (.iaload, 1) := by decide +kernel
theorem dX3_finishFrame_15 : decode cX3_finishFrame 15 = .ok (.istore 4, 2) := by decide +kernel
theorem dX3_finishFrame_17 : decode cX3_finishFrame 17 = .ok (.aload_n 0, 1) := by decide +kernel
theorem dX3_finishFrame_18 : decode cX3_finishFrame 18 = .ok (.getfield 15, 3) := by decide +kernel
theorem dX3_finishFrame_21 : decode cX3_finishFrame 21 = .ok (.aload_n 3, 1) := by decide +kernel
theorem dX3_finishFrame_22 : decode cX3_finishFrame 22 = .ok (.getfield 247, 3) := by decide +kernel
theorem dX3_finishFrame_25 : decode cX3_finishFrame 25 = .ok (.iconst 0, 1) := by decide +kernel
theorem dX3_finishFrame_26 : decode cX3_finishFrame 26 = .ok (.iaload, 1) := by decide +kernel
theorem dX3_finishFrame_27 : decode cX3_finishFrame 27 = .ok (.aaload, 1) := by decide +kernel
theorem dX3_finishFrame_28 : decode cX3_finishFrame 28 = .ok (.astore 5, 2) := by decide +kernel
theorem dX3_finishFrame_30 : decode cX3_finishFrame 30 = .ok (.aload 5, 2) := by decide +kernel
theorem dX3_finishFrame_32 : decode cX3_finishFrame 32 = .ok (.getfield 70, 3) := by decide +kernel
theorem dX3_finishFrame_35 : decode cX3_finishFrame 35 = .ok (.aload_n 1, 1) := by decide +kernel
theorem dX3_finishFrame_36 : decode cX3_finishFrame 36 = .ok (.getfield 144, 3) := by decide +kernel
theorem dX3_finishFrame_39 : decode cX3_finishFrame 39 = .ok (.if_icmp .ne 22, 3) := by decide +kernel
theorem dX3_finishFrame_42 : decode cX3_finishFrame 42 = .ok (.aload 5, 2) := by decide +kernel
theorem dX3_finishFrame_44 : decode cX3_finishFrame 44 = .ok (.iload 4, 2) := by decide +kernel
theorem dX3_finishFrame_46 : decode cX3_finishFrame 46 = .ok (.aload_n 0, 1) := by decide +kernel
theorem dX3_finishFrame_47 : decode cX3_finishFrame 47 = .ok (.aload_n 1, 1) := by decide +kernel
theorem dX3_finishFrame_48 : decode cX3_finishFrame 48 = .ok (.aload_n 1, 1) := by decide +kernel
theorem dX3_finishFrame_49 : decode cX3_finishFrame 49 = .ok (.getfield 84, 3) := by decide +kernel
theorem dX3_finishFrame_52 : decode cX3_finishFrame 52 = .ok (.invokevirtual 87, 3) := by decide +kernel
theorem dX3_finishFrame_55 : decode cX3_finishFrame 55 = .ok (.invokevirtual 250, 3) := by decide +kernel
theorem dX3_finishFrame_58 : decode cX3_finishFrame 58 = .ok (.goto 13, 3) := by decide +kernel
theorem dX3_finishFrame_61 : decode cX3_finishFrame 61 = .ok (.aload_n 2, 1) := by decide +kernel
theorem dX3_finishFrame_62 : decode cX3_finishFrame 62 = .ok (.dup, 1) := by decide +kernel
theorem dX3_finishFrame_63 : decode cX3_finishFrame 63 = .ok (.getfield 134, 3) := by decide +kernel
theorem dX3_finishFrame_66 : decode cX3_finishFrame 66 = .ok (.iconst 1, 1) := by decide +kernel
theorem dX3_finishFrame_67 : decode cX3_finishFrame 67 = .ok (.iadd, 1) := by decide +kernel
theorem dX3_finishFrame_68 : decode cX3_finishFrame 68 = .ok (.putfield 134, 3) := by decide +kernel
theorem dX3_finishFrame_71 : decode cX3_finishFrame 71 = .ok (.aload_n 2, 1) := by decide +kernel
theorem dX3_finishFrame_72 : decode cX3_finishFrame 72 = .ok (.dup, 1) := by decide +kernel
theorem dX3_finishFrame_73 : decode cX3_finishFrame 73 = .ok (.getfield 131, 3) := by decide +kernel
theorem dX3_finishFrame_76 : decode cX3_finishFrame 76 = .ok (.iload 4, 2) := by decide +kernel
theorem dX3_finishFrame_78 : decode cX3_finishFrame 78 = .ok (.iadd, 1) := by decide +kernel
theorem dX3_finishFrame_79 : decode cX3_finishFrame 79 = .ok (.putfield 131, 3) := by decide +kernel
theorem dX3_finishFrame_82 : decode cX3_finishFrame 82 = .ok (.aload_n 3, 1) := by decide +kernel
theorem dX3_finishFrame_83 : decode cX3_finishFrame 83 = .ok (.invokevirtual 185, 3) := by decide +kernel
theorem dX3_finishFrame_86 : decode cX3_finishFrame 86 = .ok (.return_, 1) := by decide +kernel
theorem dX3_beginFrameOrLeave_0 : decode cX3_beginFrameOrLeave 0 = .ok (.aload_n 0, 1) := by decide +kernel
theorem dX3_beginFrameOrLeave_1 : decode cX3_beginFrameOrLeave 1 = .ok (.aload_n 1, 1) := by decide +kernel
theorem dX3_beginFrameOrLeave_2 : decode cX3_beginFrameOrLeave 2 = .ok (.aload_n 1, 1) := by decide +kernel
theorem dX3_beginFrameOrLeave_3 : decode cX3_beginFrameOrLeave 3 = .ok (.getfield 84, 3) := by decide +kernel
theorem dX3_beginFrameOrLeave_6 : decode cX3_beginFrameOrLeave 6 = .ok (.invokevirtual 178, 3) := by decide +kernel
theorem dX3_beginFrameOrLeave_9 : decode cX3_beginFrameOrLeave 9 = .ok (.astore_n 2, 1) := by decide +kernel
theorem dX3_beginFrameOrLeave_10 : decode cX3_beginFrameOrLeave 10 = .ok (.aload_n 1, 1) := by decide +kernel
theorem dX3_beginFrameOrLeave_11 : decode cX3_beginFrameOrLeave 11 = .ok (.getfield 236, 3) := by decide +kernel
theorem dX3_beginFrameOrLeave_14 : decode cX3_beginFrameOrLeave 14 = .ok (.ifCond .ne 44, 3) := by decide +kernel
theorem dX3_beginFrameOrLeave_17 : decode cX3_beginFrameOrLeave 17 = .ok (.aload_n 2, 1) := by decide +kernel
theorem dX3_beginFrameOrLeave_18 : decode cX3_beginFrameOrLeave 18 = .ok (.invokevirtual 253, 3) := by decide +kernel
theorem dX3_beginFrameOrLeave_21 : decode cX3_beginFrameOrLeave 21 = .ok (.ifCond .eq 37, 3) := by decide +kernel
theorem dX3_beginFrameOrLeave_24 : decode cX3_beginFrameOrLeave 24 = .ok (.aload_n 1, 1) := by decide +kernel
theorem dX3_beginFrameOrLeave_25 : decode cX3_beginFrameOrLeave 25 = .ok (.iconst 1, 1) := by decide +kernel
theorem dX3_beginFrameOrLeave_26 : decode cX3_beginFrameOrLeave 26 = .ok (.putfield 182, 3) := by decide +kernel
theorem dX3_beginFrameOrLeave_29 : decode cX3_beginFrameOrLeave 29 = .ok (.aload_n 1, 1) := by decide +kernel
theorem dX3_beginFrameOrLeave_30 : decode cX3_beginFrameOrLeave 30 = .ok (.aload_n 2, 1) := by decide +kernel
theorem dX3_beginFrameOrLeave_31 : decode cX3_beginFrameOrLeave 31 = .ok (.getfield 109, 3) := by decide +kernel
theorem dX3_beginFrameOrLeave_34 : decode cX3_beginFrameOrLeave 34 = .ok (.getfield 243, 3) := by decide +kernel
theorem dX3_beginFrameOrLeave_37 : decode cX3_beginFrameOrLeave 37 = .ok (.iconst 0, 1) := by decide +kernel
theorem dX3_beginFrameOrLeave_38 : decode cX3_beginFrameOrLeave 38 = .ok (.iaload, 1) := by decide +kernel
theorem dX3_beginFrameOrLeave_39 : decode cX3_beginFrameOrLeave 39 = .ok (.putfield 91, 3) := by decide +kernel
theorem dX3_beginFrameOrLeave_42 : decode cX3_beginFrameOrLeave 42 = .ok (.aload_n 2, 1) := by decide +kernel
theorem dX3_beginFrameOrLeave_43 : decode cX3_beginFrameOrLeave 43 = .ok (.dup, 1) := by decide +kernel
theorem dX3_beginFrameOrLeave_44 : decode cX3_beginFrameOrLeave 44 = .ok (.getfield 106, 3) := by decide +kernel
theorem dX3_beginFrameOrLeave_47 : decode cX3_beginFrameOrLeave 47 = .ok (.aload_n 1, 1) := by decide +kernel
theorem dX3_beginFrameOrLeave_48 : decode cX3_beginFrameOrLeave 48 = .ok (.getfield 91, 3) := by decide +kernel
theorem dX3_beginFrameOrLeave_51 : decode cX3_beginFrameOrLeave 51 = .ok (.isub, 1) := by decide +kernel
theorem dX3_beginFrameOrLeave_52 : decode cX3_beginFrameOrLeave 52 = .ok (.putfield 106, 3) := by decide +kernel
theorem dX3_beginFrameOrLeave_55 : decode cX3_beginFrameOrLeave 55 = .ok (.goto 45, 3) := by decide +kernel
theorem dX3_beginFrameOrLeave_58 : decode cX3_beginFrameOrLeave 58 = .ok (.aload_n 2, 1) := by decide +kernel
theorem dX3_beginFrameOrLeave_59 : decode cX3_beginFrameOrLeave 59 = .ok (.aload_n 1, 1) := by decide +kernel
theorem dX3_beginFrameOrLeave_60 : decode cX3_beginFrameOrLeave 60 = .ok (.getfield 94, 3) := by decide +kernel
theorem dX3_beginFrameOrLeave_63 : decode cX3_beginFrameOrLeave 63 = .ok (.invokevirtual 256, 3) := by decide +kernel
theorem dX3_beginFrameOrLeave_66 : decode cX3_beginFrameOrLeave 66 = .ok (.ifCond .eq 29, 3) := by decide +kernel
theorem dX3_beginFrameOrLeave_69 : decode cX3_beginFrameOrLeave 69 = .ok (.aload_n 1, 1) := by decide +kernel
theorem dX3_beginFrameOrLeave_70 : decode cX3_beginFrameOrLeave 70 = .ok (.iconst 0, 1) := by decide +kernel
theorem dX3_beginFrameOrLeave_71 : decode cX3_beginFrameOrLeave 71 = .ok (.putfield 182, 3) := by decide +kernel
theorem dX3_beginFrameOrLeave_74 : decode cX3_beginFrameOrLeave 74 = .ok (.aload_n 1, 1) := by decide +kernel
theorem dX3_beginFrameOrLeave_75 : decode cX3_beginFrameOrLeave 75 = .ok (.iconst 1, 1) := by decide +kernel
theorem dX3_beginFrameOrLeave_76 : decode cX3_beginFrameOrLeave 76 = .ok (.putfield 236, 3) := by decide +kernel
theorem dX3_beginFrameOrLeave_79 : decode cX3_beginFrameOrLeave 79 = .ok (.aload_n 1, 1) := by decide +kernel
theorem dX3_beginFrameOrLeave_80 : decode cX3_beginFrameOrLeave 80 = .ok (.aload_n 2, 1) := by decide +kernel
theorem dX3_beginFrameOrLeave_81 : decode cX3_beginFrameOrLeave 81 = .ok (.getfield 116, 3) := by decide +kernel
theorem dX3_beginFrameOrLeave_84 : decode cX3_beginFrameOrLeave 84 = .ok (.getfield 243, 3) := by decide +kernel
theorem dX3_beginFrameOrLeave_87 : decode cX3_beginFrameOrLeave 87 = .ok (.iconst 0, 1) := by decide +kernel
theorem dX3_beginFrameOrLeave_88 : decode cX3_beginFrameOrLeave 88 = .ok (.iaload, 1) := by decide +kernel
theorem dX3_beginFrameOrLeave_89 : decode cX3_beginFrameOrLeave 89 = .ok (.putfield 91, 3) := by decide +kernel
theorem dX3_beginFrameOrLeave_92 : decode cX3_beginFrameOrLeave 92 = .ok (.goto 8, 3) := by decide +kernel
theorem dX3_beginFrameOrLeave_95 : decode cX3_beginFrameOrLeave 95 = .ok (.aload_n 0, 1) := by decide +kernel
theorem dX3_beginFrameOrLeave_96 : decode cX3_beginFrameOrLeave 96 = .ok (.aload_n 1, 1) := by decide +kernel
theorem dX3_beginFrameOrLeave_97 : decode cX3_beginFrameOrLeave 97 = .ok (.invokevirtual 211, 3) := by decide +kernel
theorem dX3_beginFrameOrLeave_100 : decode cX3_beginFrameOrLeave 100 = .ok (.return_, 1) := by decide +kernel
end
section
theorem dX4_init_0 : decode cX4_init 0 = .ok (.aload_n 0, 1) := by decide +kernel
theorem dX4_init_1 : decode cX4_init 1 = .ok (.invokespecial 1, 3) := by decide +kernel
theorem dX4_init_4 : decode cX4_init 4 = .ok (.aload_n 0, 1) := by decide +kernel
theorem dX4_init_5 : decode cX4_init 5 = .ok (.bipush 6, 2) := by decide +kernel
theorem dX4_init_7 : decode cX4_init 7 = .ok (.newarray .boolean, 2) := by decide +kernel
theorem dX4_init_9 : decode cX4_init 9 = .ok (.putfield 7, 3) := by decide +kernel
theorem dX4_init_12 : decode cX4_init 12 = .ok (.aload_n 0, 1) := by decide +kernel
theorem dX4_init_13 : decode cX4_init 13 = .ok (.bipush 6, 2) := by decide +kernel
theorem dX4_init_15 : decode cX4_init 15 = .ok (.newarray .boolean, 2) := by decide +kernel
theorem dX4_init_17 : decode cX4_init 17 = .ok (.putfield 13, 3) := by decide +kernel
theorem dX4_init_20 : decode cX4_init 20 = .ok (.aload_n 0, 1) := by decide +kernel
theorem dX4_init_21 : decode cX4_init 21 = .ok (.bipush 6, 2) := by decide +kernel
theorem dX4_init_23 : decode cX4_init 23 = .ok (.newarray .int, 2) := by decide +kernel
theorem dX4_init_25 : decode cX4_init 25 = .ok (.putfield 16, 3) := by decide +kernel
theorem dX4_init_28 : decode cX4_init 28 = .ok (.aload_n 0, 1) := by decide +kernel
theorem dX4_init_29 : decode cX4_init 29 = .ok (.bipush 6, 2) := by decide +kernel
theorem dX4_init_31 : decode cX4_init 31 = .ok (.newarray .int, 2) := by decide +kernel
theorem dX4_init_33 : decode cX4_init 33 = .ok (.putfield 20, 3) := by decide +kernel
theorem dX4_init_36 : decode cX4_init 36 = .ok (.aload_n 0, 1) := by decide +kernel
theorem dX4_init_37 : decode cX4_init 37 = .ok (.bipush 6, 2) := by decide +kernel
theorem dX4_init_39 : decode cX4_init 39 = .ok (.newarray .int, 2) := by decide +kernel
theorem dX4_init_41 : decode cX4_init 41 = .ok (.putfield 23, 3) := by decide +kernel
theorem dX4_init_44 : decode cX4_init 44 = .ok (.aload_n 0, 1) := by decide +kernel
theorem dX4_init_45 : decode cX4_init 45 = .ok (.bipush 6, 2) := by decide +kernel
theorem dX4_init_47 : decode cX4_init 47 = .ok (.newarray .int, 2) := by decide +kernel
theorem dX4_init_49 : decode cX4_init 49 = .ok (.putfield 26, 3) := by decide +kernel
theorem dX4_init_52 : decode cX4_init 52 = .ok (.aload_n 0, 1) := by decide +kernel
theorem dX4_init_53 : decode cX4_init 53 = .ok (.bipush 6, 2) := by decide +kernel
theorem dX4_init_55 : decode cX4_init 55 = .ok (.newarray .int, 2) := by decide +kernel
theorem dX4_init_57 : decode cX4_init 57 = .ok (.putfield 29, 3) := by decide +kernel
theorem dX4_init_60 : decode cX4_init 60 = .ok (.aload_n 0, 1) := by decide +kernel
theorem dX4_init_61 : decode cX4_init 61 = .ok (.bipush 6, 2) := by decide +kernel
theorem dX4_init_63 : decode cX4_init 63 = .ok (.newarray .int, 2) := by decide +kernel
theorem dX4_init_65 : decode cX4_init 65 = .ok (.putfield 32, 3) := by decide +kernel
theorem dX4_init_68 : decode cX4_init 68 = .ok (.aload_n 0, 1) := by decide +kernel
theorem dX4_init_69 : decode cX4_init 69 = .ok (.bipush 6, 2) := by decide +kernel
theorem dX4_init_71 : decode cX4_init 71 = .ok (.newarray .int, 2) := by decide +kernel
theorem dX4_init_73 : decode cX4_init 73 = .ok (.putfield 35, 3) := by decide +kernel
theorem dX4_init_76 : decode cX4_init 76 = .ok (.aload_n 0, 1) := by decide +kernel
theorem dX4_init_77 : decode cX4_init 77 = .ok (.bipush 6, 2) := by decide +kernel
theorem dX4_init_79 : decode cX4_init 79 = .ok (.newarray .boolean, 2) := by decide +kernel
theorem dX4_init_81 : decode cX4_init 81 = .ok (.putfield 38, 3) := by decide +kernel
theorem dX4_init_84 : decode cX4_init 84 = .ok (.aload_n 0, 1) := by decide +kernel
theorem dX4_init_85 : decode cX4_init 85 = .ok (.bipush 6, 2) := by decide +kernel
theorem dX4_init_87 : decode cX4_init 87 = .ok (.newarray .boolean, 2) := by decide +kernel
theorem dX4_init_89 : decode cX4_init 89 = .ok (.putfield 41, 3) := by decide +kernel
theorem dX4_init_92 : decode cX4_init 92 = .ok (.aload_n 0, 1) := by decide +kernel
theorem dX4_init_93 : decode cX4_init 93 = .ok (.bipush 6, 2) := by decide +kernel
theorem dX4_init_95 : decode cX4_init 95 = .ok (.newarray .int, 2) := by decide +kernel
theorem dX4_init_97 : decode cX4_init 97 = .ok (.putfield 44, 3) := by decide +kernel
theorem dX4_init_100 : decode cX4_init 100 = .ok (.aload_n 0, 1) := by decide +kernel
theorem dX4_init_101 : decode cX4_init 101 = .ok (.bipush 6, 2) := by decide +kernel
theorem dX4_init_103 : decode cX4_init 103 = .ok (.newarray .int, 2) := by decide +kernel
theorem dX4_init_105 : decode cX4_init 105 = .ok (.putfield 47, 3) := by decide +kernel
theorem dX4_init_108 : decode cX4_init 108 = .ok (.aload_n 0, 1) := by decide +kernel
theorem dX4_init_109 : decode cX4_init 109 = .ok (.bipush 6, 2) := by decide +kernel
theorem dX4_init_111 : decode cX4_init 111 = .ok (.newarray .int, 2) := by decide +kernel
theorem dX4_init_113 : decode cX4_init 113 = .ok (.putfield 50, 3) := by decide +kernel
theorem dX4_init_116 : decode cX4_init 116 = .ok (.aload_n 0, 1) := by decide +kernel
theorem dX4_init_117 : decode cX4_init 117 = .ok (.bipush 6, 2) := by decide +kernel
theorem dX4_init_119 : decode cX4_init 119 = .ok (.newarray .int, 2) := by decide +kernel
theorem dX4_init_121 : decode cX4_init 121 = .ok (.putfield 53, 3) := by decide +kernel
theorem dX4_init_124 : decode cX4_init 124 = .ok (.aload_n 0, 1) := by decide +kernel
theorem dX4_init_125 : decode cX4_init 125 = .ok (.bipush 6, 2) := by decide +kernel
theorem dX4_init_127 : decode cX4_init 127 = .ok (.newarray .int, 2) := by decide +kernel
theorem dX4_init_129 : decode cX4_init 129 = .ok (.putfield 56, 3) := by decide +kernel
theorem dX4_init_132 : decode cX4_init 132 = .ok (.aload_n 0, 1) := by decide +kernel
theorem dX4_init_133 : decode cX4_init 133 = .ok (.bipush 6, 2) := by decide +kernel
theorem dX4_init_135 : decode cX4_init 135 = .ok (.newarray .int, 2) := by decide +kernel
theorem dX4_init_137 : decode cX4_init 137 = .ok (.putfield 59, 3) := by decide +kernel
theorem dX4_init_140 : decode cX4_init 140 = .ok (.aload_n 0, 1) := by decide +kernel
theorem dX4_init_141 : decode cX4_init 141 = .ok (.bipush 6, 2) := by decide +kernel
theorem dX4_init_143 : decode cX4_init 143 = .ok (.newarray .float, 2) := by decide +kernel
theorem dX4_init_145 : decode cX4_init 145 = .ok (.putfield 62, 3) := by decide +kernel
theorem dX4_init_148 : decode cX4_init 148 = .ok (.aload_n 0, 1) := by decide +kernel
theorem dX4_init_149 : decode cX4_init 149 = .ok (.bipush 12, 2) := by decide +kernel
theorem dX4_init_151 : decode cX4_init 151 = .ok (.newarray .int, 2) := by decide +kernel
theorem dX4_init_153 : decode cX4_init 153 = .ok (.putfield 66, 3) := by decide +kernel
theorem dX4_init_156 : decode cX4_init 156 = .ok (.aload_n 0, 1) := by decide +kernel
theorem dX4_init_157 : decode cX4_init 157 = .ok (.bipush 60, 2) := by decide +kernel
theorem dX4_init_159 : decode cX4_init 159 = .ok (.newarray .int, 2) := by decide +kernel
theorem dX4_init_161 : decode cX4_init 161 = .ok (.putfield 69, 3) := by decide +kernel
theorem dX4_init_164 : decode cX4_init 164 = .ok (.aload_n 0, 1) := by decide +kernel
theorem dX4_init_165 : decode cX4_init 165 = .ok (.bipush 60, 2) := by decide +kernel
theorem dX4_init_167 : decode cX4_init 167 = .ok (.newarray .int, 2) := by decide +kernel
theorem dX4_init_169 : decode cX4_init 169 = .ok (.putfield 72, 3) := by decide +kernel
theorem dX4_init_172 : decode cX4_init 172 = .ok (.aload_n 0, 1) := by decide +kernel
theorem dX4_init_173 : decode cX4_init 173 = .ok (.bipush 60, 2) := by decide +kernel
theorem dX4_init_175 : decode cX4_init 175 = .ok (.newarray .int, 2) := by decide +kernel
theorem dX4_init_177 : decode cX4_init 177 = .ok (.putfield 75, 3) := by decide +kernel
theorem dX4_init_180 : decode cX4_init 180 = .ok (.aload_n 0, 1) := by decide +kernel
theorem dX4_init_181 : decode cX4_init 181 = .ok (.bipush 6, 2) := by decide +kernel
theorem dX4_init_183 : decode cX4_init 183 = .ok (.newarray .int, 2) := by decide +kernel
theorem dX4_init_185 : decode cX4_init 185 = .ok (.putfield 78, 3) := by decide +kernel
theorem dX4_init_188 : decode cX4_init 188 = .ok (.aload_n 0, 1) := by decide +kernel
theorem dX4_init_189 : decode cX4_init 189 = .ok (.bipush 36, 2) := by decide +kernel
theorem dX4_init_191 : decode cX4_init 191 = .ok (.newarray .int, 2) := by decide +kernel
theorem dX4_init_193 : decode cX4_init 193 = .ok (.putfield 81, 3) := by decide +kernel
theorem dX4_init_196 : decode cX4_init 196 = .ok (.aload_n 0, 1) := by decide +kernel
theorem dX4_init_197 : decode cX4_init 197 = .ok (.bipush 6, 2) := by decide +kernel
theorem dX4_init_199 : decode cX4_init 199 = .ok (.newarray .boolean, 2) := by decide +kernel
theorem dX4_init_201 : decode cX4_init 201 = .ok (.putfield 84, 3) := by decide +kernel
theorem dX4_init_204 : decode cX4_init 204 = .ok (.aload_n 0, 1) := by decide +kernel
theorem dX4_init_205 : decode cX4_init 205 = .ok (.bipush 6, 2) := by decide +kernel
theorem dX4_init_207 : decode cX4_init 207 = .ok (.newarray .int, 2) := by decide +kernel
theorem dX4_init_209 : decode cX4_init 209 = .ok (.putfield 87, 3) := by decide +kernel
theorem dX4_init_212 : decode cX4_init 212 = .ok (.aload_n 0, 1) := by decide +kernel
theorem dX4_init_213 : decode cX4_init 213 = .ok (.bipush 6, 2) := by decide +kernel
theorem dX4_init_215 : decode cX4_init 215 = .ok (.newarray .int, 2) := by decide +kernel
theorem dX4_init_217 : decode cX4_init 217 = .ok (.putfield 90, 3) := by decide +kernel
theorem dX4_init_220 : decode cX4_init 220 = .ok (.aload_n 0, 1) := by decide +kernel
theorem dX4_init_221 : decode cX4_init 221 = .ok (.bipush 6, 2) := by decide +kernel
theorem dX4_init_223 : decode cX4_init 223 = .ok (.newarray .int, 2) := by decide +kernel
theorem dX4_init_225 : decode cX4_init 225 = .ok (.putfield 93, 3) := by decide +kernel
theorem dX4_init_228 : decode cX4_init 228 = .ok (.aload_n 0, 1) := by decide +kernel
theorem dX4_init_229 : decode cX4_init 229 = .ok (.bipush 6, 2) := by decide +kernel
theorem dX4_init_231 : decode cX4_init 231 = .ok (.newarray .int, 2) := by decide +kernel
theorem dX4_init_233 : decode cX4_init 233 = .ok (.putfield 96, 3) := by decide +kernel
theorem dX4_init_236 : decode cX4_init 236 = .ok (.aload_n 0, 1) := by decide +kernel
theorem dX4_init_237 : decode cX4_init 237 = .ok (.bipush 6, 2) := by decide +kernel
theorem dX4_init_239 : decode cX4_init 239 = .ok (.newarray .int, 2) := by decide +kernel
theorem dX4_init_241 : decode cX4_init 241 = .ok (.putfield 99, 3) := by decide +kernel
theorem dX4_init_244 : decode cX4_init 244 = .ok (.aload_n 0, 1) := by decide +kernel
theorem dX4_init_245 : decode cX4_init 245 = .ok (.bipush 6, 2) := by decide +kernel
theorem dX4_init_247 : decode cX4_init 247 = .ok (.newarray .int, 2) := by decide +kernel
theorem dX4_init_249 : decode cX4_init 249 = .ok (.putfield 102, 3) := by decide +kernel
theorem dX4_init_252 : decode cX4_init 252 = .ok (.aload_n 0, 1) := by decide +kernel
theorem dX4_init_253 : decode cX4_init 253 = .ok (.bipush 6, 2) := by decide +kernel
theorem dX4_init_255 : decode cX4_init 255 = .ok (.newarray .int, 2) := by decide +kernel
theorem dX4_init_257 : decode cX4_init 257 = .ok (.putfield 105, 3) := by decide +kernel
theorem dX4_init_260 : decode cX4_init 260 = .ok (.aload_n 0, 1) := by decide +kernel
theorem dX4_init_261 : decode cX4_init 261 = .ok (.bipush 6, 2) := by decide +kernel
theorem dX4_init_263 : decode cX4_init 263 = .ok (.newarray .int, 2) := by decide +kernel
theorem dX4_init_265 : decode cX4_init 265 = .ok (.putfield 108, 3) := by decide +kernel
theorem dX4_init_268 : decode cX4_init 268 = .ok (.aload_n 0, 1) := by decide +kernel
theorem dX4_init_269 : decode cX4_init 269 = .ok (.iload_n 1, 1) := by decide +kernel
theorem dX4_init_270 : decode cX4_init 270 = .ok (.iconst 2, 1) := by decide +kernel
theorem dX4_init_271 : decode cX4_init 271 = .ok (.if_icmp .lt 13, 3) := by decide +kernel
theorem dX4_init_274 : decode cX4_init 274 = .ok (.iload_n 1, 1) := by decide +kernel
theorem dX4_init_275 : decode cX4_init 275 = .ok (.bipush 6, 2) := by decide +kernel
theorem dX4_init_277 : decode cX4_init 277 = .ok (.if_icmp .gt 7, 3) := by decide +kernel
theorem dX4_init_280 : decode cX4_init 280 = .ok (.iload_n 1, 1) := by decide +kernel
theorem dX4_init_281 : decode cX4_init 281 = .ok (.goto 4, 3) := by decide +kernel
theorem dX4_init_284 : decode cX4_init 284 = .ok (.iconst 4, 1) := by decide +kernel
theorem dX4_init_285 : decode cX4_init 285 = .ok (.putfield 111, 3) := by decide +kernel
theorem dX4_init_288 : decode cX4_init 288 = .ok (.iconst 0, 1) := by decide +kernel
theorem dX4_init_289 : decode cX4_init 289 = .ok (.istore_n 2, 1) := by decide +kernel
theorem dX4_init_290 : decode cX4_init 290 = .ok (.iload_n 2, 1) := by decide +kernel
theorem dX4_init_291 : decode cX4_init 291 = .ok (.bipush 6, 2) := by decide +kernel
theorem dX4_init_293 : decode cX4_init 293 = .ok (.if_icmp .ge 76, 3) := by decide +kernel
theorem dX4_init_296 : decode cX4_init 296 = .ok (.aload_n 0, 1) := by decide +kernel
theorem dX4_init_297 : decode cX4_init 297 = .ok (.getfield 7, 3) := by decide +kernel
theorem dX4_init_300 : decode cX4_init 300 = .ok (.iload_n 2, 1) := by decide +kernel
theorem dX4_init_301 : decode cX4_init 301 = .ok (.iload_n 2, 1) := by decide +kernel
theorem dX4_init_302 : decode cX4_init 302 = .ok (.aload_n 0, 1) := by decide +kernel
theorem dX4_init_303 : decode cX4_init 303 = .ok (.getfield 111, 3) := by decide +kernel
theorem dX4_init_306 : decode cX4_init 306 = .ok (.if_icmp .ge 7, 3) := by decide +kernel
theorem dX4_init_309 : decode cX4_init 309 = .ok (.iconst 1, 1) := by decide +kernel
theorem dX4_init_310 : decode cX4_init 310 = .ok (.goto 4, 3) := by decide +kernel
theorem dX4_init_313 : decode cX4_init 313 = .ok (.iconst 0, 1) := by decide +kernel
theorem dX4_init_314 : decode cX4_init 314 = .ok (.bastore, 1) := by decide +kernel
theorem dX4_init_315 : decode cX4_init 315 = .ok (.aload_n 0, 1) := by decide +kernel
theorem dX4_init_316 : decode cX4_init 316 = .ok (.getfield 13, 3) := by decide +kernel
theorem dX4_init_319 : decode cX4_init 319 = .ok (.iload_n 2, 1) := by decide +kernel
theorem dX4_init_320 : decode cX4_init 320 = .ok (.iload_n 2, 1) := by decide +kernel
theorem dX4_init_321 : decode cX4_init 321 = .ok (.aload_n 0, 1) := by decide +kernel
theorem dX4_init_322 : decode cX4_init 322 = .ok (.getfield 111, 3) := by decide +kernel
theorem dX4_init_325 : decode cX4_init 325 = .ok (.if_icmp .ge 7, 3) := by decide +kernel
theorem dX4_init_328 : decode cX4_init 328 = .ok (.iconst 1, 1) := by decide +kernel
theorem dX4_init_329 : decode cX4_init 329 = .ok (.goto 4, 3) := by decide +kernel
theorem dX4_init_332 : decode cX4_init 332 = .ok (.iconst 0, 1) := by decide +kernel
theorem dX4_init_333 : decode cX4_init 333 = .ok (.bastore, 1) := by decide +kernel
theorem dX4_init_334 : decode cX4_init 334 = .ok (.aload_n 0, 1) := by decide +kernel
theorem dX4_init_335 : decode cX4_init 335 = .ok (.getfield 16, 3) := by decide +kernel
theorem dX4_init_338 : decode cX4_init 338 = .ok (.iload_n 2, 1) := by decide +kernel
theorem dX4_init_339 : decode cX4_init 339 = .ok (.bipush 20, 2) := by decide +kernel
theorem dX4_init_341 : decode cX4_init 341 = .ok (.iastore, 1) := by decide +kernel
theorem dX4_init_342 : decode cX4_init 342 = .ok (.aload_n 0, 1) := by decide +kernel
theorem dX4_init_343 : decode cX4_init 343 = .ok (.getfield 44, 3) := by decide +kernel
theorem dX4_init_346 : decode cX4_init 346 = .ok (.iload_n 2, 1) := by decide +kernel
theorem dX4_init_347 : decode cX4_init 347 = .ok (.iconst (-1), 1) := by decide +kernel
theorem dX4_init_348 : decode cX4_init 348 = .ok (.iastore, 1) := by decide +kernel
theorem dX4_init_349 : decode cX4_init 349 = .ok (.aload_n 0, 1) := by decide +kernel
theorem dX4_init_350 : decode cX4_init 350 = .ok (.getfield 53, 3) := by decide +kernel
theorem dX4_init_353 : decode cX4_init 353 = .ok (.iload_n 2, 1) := by decide +kernel
theorem dX4_init_354 : decode cX4_init 354 = .ok (.iconst (-1), 1) := by decide +kernel
theorem dX4_init_355 : decode cX4_init 355 = .ok (.iastore, 1) := by decide +kernel
theorem dX4_init_356 : decode cX4_init 356 = .ok (.aload_n 0, 1) := by decide +kernel
theorem dX4_init_357 : decode cX4_init 357 = .ok (.getfield 99, 3) := by decide +kernel
theorem dX4_init_360 : decode cX4_init 360 = .ok (.iload_n 2, 1) := by decide +kernel
theorem dX4_init_361 : decode cX4_init 361 = .ok (.iconst (-1), 1) := by decide +kernel
theorem dX4_init_362 : decode cX4_init 362 = .ok (.iastore, 1) := by decide +kernel
theorem dX4_init_363 : decode cX4_init 363 = .ok (.iinc 2 1, 3) := by decide +kernel
theorem dX4_init_366 : decode cX4_init 366 = .ok (.goto (-76), 3) := by decide +kernel
theorem dX4_init_369 : decode cX4_init 369 = .ok (.aload_n 0, 1) := by decide +kernel
theorem dX4_init_370 : decode cX4_init 370 = .ok (.invokevirtual 115, 3) := by decide +kernel
theorem dX4_init_373 : decode cX4_init 373 = .ok (.return_, 1) := by decide +kernel
theorem dX4_isStation_0 : decode cX4_isStation 0 = .ok (.iload_n 1, 1) := by decide +kernel
theorem dX4_isStation_1 : decode cX4_isStation 1 = .ok (.ifCond .lt 15, 3) := by decide +kernel
theorem dX4_isStation_4 : decode cX4_isStation 4 = .ok (.iload_n 1, 1) := by decide +kernel
theorem dX4_isStation_5 : decode cX4_isStation 5 = .ok (.aload_n 0, 1) := by decide +kernel
theorem dX4_isStation_6 : decode cX4_isStation 6 = .ok (.getfield 111, 3) := by decide +kernel
theorem dX4_isStation_9 : decode cX4_isStation 9 = .ok (.if_icmp .ge 7, 3) := by decide +kernel
theorem dX4_isStation_12 : decode cX4_isStation 12 = .ok (.iconst 1, 1) := by decide +kernel
theorem dX4_isStation_13 : decode cX4_isStation 13 = .ok (.goto 4, 3) := by decide +kernel
theorem dX4_isStation_16 : decode cX4_isStation 16 = .ok (.iconst 0, 1) := by decide +kernel
theorem dX4_isStation_17 : decode cX4_isStation 17 = .ok (.ireturn, 1) := by decide +kernel
theorem dX4_next_0 : decode cX4_next 0 = .ok (.iload_n 1, 1) := by decide +kernel
theorem dX4_next_1 : decode cX4_next 1 = .ok (.iconst 1, 1) := by decide +kernel
theorem dX4_next_2 : decode cX4_next 2 = .ok (.iadd, 1) := by decide +kernel
theorem dX4_next_3 : decode cX4_next 3 = .ok (.aload_n 0, 1) := by decide +kernel
theorem dX4_next_4 : decode cX4_next 4 = .ok (.getfield 111, 3) := by decide +kernel
theorem dX4_next_7 : decode cX4_next 7 = .ok (.irem, 1) := by decide +kernel
theorem dX4_next_8 : decode cX4_next 8 = .ok (.ireturn, 1) := by decide +kernel
theorem dX4_previous_0 : decode cX4_previous 0 = .ok (.iload_n 1, 1) := by decide +kernel
theorem dX4_previous_1 : decode cX4_previous 1 = .ok (.aload_n 0, 1) := by decide +kernel
theorem dX4_previous_2 : decode cX4_previous 2 = .ok (.getfield 111, 3) := by decide +kernel
theorem dX4_previous_5 : decode cX4_previous 5 = .ok (.iadd, 1) := by decide +kernel
theorem dX4_previous_6 : decode cX4_previous 6 = .ok (.iconst 1, 1) := by decide +kernel
theorem dX4_previous_7 : decode cX4_previous 7 = .ok (.isub, 1) := by decide +kernel
theorem dX4_previous_8 : decode cX4_previous 8 = .ok (.aload_n 0, 1) := by decide +kernel
theorem dX4_previous_9 : decode cX4_previous 9 = .ok (.getfield 111, 3) := by decide +kernel
theorem dX4_previous_12 : decode cX4_previous 12 = .ok (.irem, 1) := by decide +kernel
theorem dX4_previous_13 : decode cX4_previous 13 = .ok (.ireturn, 1) := by decide +kernel
theorem dX4_isJoined_0 : decode cX4_isJoined 0 = .ok (.aload_n 0, 1) := by decide +kernel
theorem dX4_isJoined_1 : decode cX4_isJoined 1 = .ok (.getfield 7, 3) := by decide +kernel
theorem dX4_isJoined_4 : decode cX4_isJoined 4 = .ok (.iload_n 1, 1) := by decide +kernel
theorem dX4_isJoined_5 : decode cX4_isJoined 5 = .ok (.baload, 1) := by decide +kernel
theorem dX4_isJoined_6 : decode cX4_isJoined 6 = .ok (.ifCond .eq 29, 3) := by decide +kernel
theorem dX4_isJoined_9 : decode cX4_isJoined 9 = .ok (.aload_n 0, 1) := by decide +kernel
theorem dX4_isJoined_10 : decode cX4_isJoined 10 = .ok (.getfield 13, 3) := by decide +kernel
theorem dX4_isJoined_13 : decode cX4_isJoined 13 = .ok (.iload_n 1, 1) := by decide +kernel
theorem dX4_isJoined_14 : decode cX4_isJoined 14 = .ok (.baload, 1) := by decide +kernel
theorem dX4_isJoined_15 : decode cX4_isJoined 15 = .ok (.ifCond .eq 20, 3) := by decide +kernel
theorem dX4_isJoined_18 : decode cX4_isJoined 18 = .ok (.aload_n 0, 1) := by decide +kernel
theorem dX4_isJoined_19 : decode cX4_isJoined 19 = .ok (.getfield 7, 3) := by decide +kernel
theorem dX4_isJoined_22 : decode cX4_isJoined 22 = .ok (.aload_n 0, 1) := by decide +kernel
theorem dX4_isJoined_23 : decode cX4_isJoined 23 = .ok (.iload_n 1, 1) := by decide +kernel
theorem dX4_isJoined_24 : decode cX4_isJoined 24 = .ok (.invokevirtual 118, 3) := by decide +kernel
theorem dX4_isJoined_27 : decode cX4_isJoined 27 = .ok (.baload, 1) := by decide +kernel
theorem dX4_isJoined_28 : decode cX4_isJoined 28 = .ok (.ifCond .eq 7, 3) := by decide +kernel
theorem dX4_isJoined_31 : decode cX4_isJoined 31 = .ok (.iconst 1, 1) := by decide +kernel
theorem dX4_isJoined_32 : decode cX4_isJoined 32 = .ok (.goto 4, 3) := by decide +kernel
theorem dX4_isJoined_35 : decode cX4_isJoined 35 = .ok (.iconst 0, 1) := by decide +kernel
theorem dX4_isJoined_36 : decode cX4_isJoined 36 = .ok (.ireturn, 1) := by decide +kernel
theorem dX4_follow_0 : decode cX4_follow 0 = .ok (.iconst 1, 1) := by decide +kernel
theorem dX4_follow_1 : decode cX4_follow 1 = .ok (.istore_n 2, 1) := by decide +kernel
theorem dX4_follow_2 : decode cX4_follow 2 = .ok (.aload_n 0, 1) := by decide +kernel
theorem dX4_follow_3 : decode cX4_follow 3 = .ok (.getfield 108, 3) := by decide +kernel
theorem dX4_follow_6 : decode cX4_follow 6 = .ok (.iconst 0, 1) := by decide +kernel
theorem dX4_follow_7 : decode cX4_follow 7 = .ok (.iload_n 1, 1) := by decide +kernel
theorem dX4_follow_8 : decode cX4_follow 8 = .ok (.iastore, 1) := by decide +kernel
theorem dX4_follow_9 : decode cX4_follow 9 = .ok (.iload_n 2, 1) := by decide +kernel
theorem dX4_follow_10 : decode cX4_follow 10 = .ok (.aload_n 0, 1) := by decide +kernel
theorem dX4_follow_11 : decode cX4_follow 11 = .ok (.getfield 111, 3) := by decide +kernel
theorem dX4_follow_14 : decode cX4_follow 14 = .ok (.if_icmp .ge 43, 3) := by decide +kernel
theorem dX4_follow_17 : decode cX4_follow 17 = .ok (.aload_n 0, 1) := by decide +kernel
theorem dX4_follow_18 : decode cX4_follow 18 = .ok (.aload_n 0, 1) := by decide +kernel
theorem dX4_follow_19 : decode cX4_follow 19 = .ok (.getfield 108, 3) := by decide +kernel
theorem dX4_follow_22 : decode cX4_follow 22 = .ok (.iload_n 2, 1) := by decide +kernel
theorem dX4_follow_23 : decode cX4_follow 23 = .ok (.iconst 1, 1) := by decide +kernel
theorem dX4_follow_24 : decode cX4_follow 24 = .ok (.isub, 1) := by decide +kernel
theorem dX4_follow_25 : decode cX4_follow 25 = .ok (.iaload, 1) := by decide +kernel
theorem dX4_follow_26 : decode cX4_follow 26 = .ok (.invokevirtual 122, 3) := by decide +kernel
theorem dX4_follow_29 : decode cX4_follow 29 = .ok (.ifCond .eq 28, 3) := by decide +kernel
theorem dX4_follow_32 : decode cX4_follow 32 = .ok (.aload_n 0, 1) := by decide +kernel
theorem dX4_follow_33 : decode cX4_follow 33 = .ok (.getfield 108, 3) := by decide +kernel
theorem dX4_follow_36 : decode cX4_follow 36 = .ok (.iload_n 2, 1) := by decide +kernel
theorem dX4_follow_37 : decode cX4_follow 37 = .ok (.aload_n 0, 1) := by decide +kernel
theorem dX4_follow_38 : decode cX4_follow 38 = .ok (.aload_n 0, 1) := by decide +kernel
theorem dX4_follow_39 : decode cX4_follow 39 = .ok (.getfield 108, 3) := by decide +kernel
theorem dX4_follow_42 : decode cX4_follow 42 = .ok (.iload_n 2, 1) := by decide +kernel
theorem dX4_follow_43 : decode cX4_follow 43 = .ok (.iconst 1, 1) := by decide +kernel
theorem dX4_follow_44 : decode cX4_follow 44 = .ok (.isub, 1) := by decide +kernel
theorem dX4_follow_45 : decode cX4_follow 45 = .ok (.iaload, 1) := by decide +kernel
theorem dX4_follow_46 : decode cX4_follow 46 = .ok (.invokevirtual 118, 3) := by decide +kernel
theorem dX4_follow_49 : decode cX4_follow 49 = .ok (.iastore, 1) := by decide +kernel
theorem dX4_follow_50 : decode cX4_follow 50 = .ok (.iload_n 2, 1) := by decide +kernel
theorem dX4_follow_51 : decode cX4_follow 51 = .ok (.iconst 1, 1) := by decide +kernel
theorem dX4_follow_52 : decode cX4_follow 52 = .ok (.iadd, 1) := by decide +kernel
theorem dX4_follow_53 : decode cX4_follow 53 = .ok (.istore_n 2, 1) := by decide +kernel
theorem dX4_follow_54 : decode cX4_follow 54 = .ok (.goto (-45), 3) := by decide +kernel
theorem dX4_follow_57 : decode cX4_follow 57 = .ok (.iload_n 2, 1) := by decide +kernel
theorem dX4_follow_58 : decode cX4_follow 58 = .ok (.ireturn, 1) := by decide +kernel
theorem dX4_isAsBefore_0 : decode cX4_isAsBefore 0 = .ok (.aload_n 0, 1) := by decide +kernel
theorem dX4_isAsBefore_1 : decode cX4_isAsBefore 1 = .ok (.getfield 78, 3) := by decide +kernel
theorem dX4_isAsBefore_4 : decode cX4_isAsBefore 4 = .ok (.iload_n 1, 1) := by decide +kernel
theorem dX4_isAsBefore_5 : decode cX4_isAsBefore 5 = .ok (.iaload, 1) := by decide +kernel
theorem dX4_isAsBefore_6 : decode cX4_isAsBefore 6 = .ok (.iload_n 2, 1) := by decide +kernel
theorem dX4_isAsBefore_7 : decode cX4_isAsBefore 7 = .ok (.if_icmp .ne 17, 3) := by decide +kernel
theorem dX4_isAsBefore_10 : decode cX4_isAsBefore 10 = .ok (.aload_n 0, 1) := by decide +kernel
theorem dX4_isAsBefore_11 : decode cX4_isAsBefore 11 = .ok (.getfield 84, 3) := by decide +kernel
theorem dX4_isAsBefore_14 : decode cX4_isAsBefore 14 = .ok (.iload_n 1, 1) := by decide +kernel
theorem dX4_isAsBefore_15 : decode cX4_isAsBefore 15 = .ok (.baload, 1) := by decide +kernel
theorem dX4_isAsBefore_16 : decode cX4_isAsBefore 16 = .ok (.iload_n 3, 1) := by decide +kernel
theorem dX4_isAsBefore_17 : decode cX4_isAsBefore 17 = .ok (.if_icmp .ne 7, 3) := by decide +kernel
theorem dX4_isAsBefore_20 : decode cX4_isAsBefore 20 = .ok (.iconst 1, 1) := by decide +kernel
theorem dX4_isAsBefore_21 : decode cX4_isAsBefore 21 = .ok (.goto 4, 3) := by decide +kernel
theorem dX4_isAsBefore_24 : decode cX4_isAsBefore 24 = .ok (.iconst 0, 1) := by decide +kernel
theorem dX4_isAsBefore_25 : decode cX4_isAsBefore 25 = .ok (.istore 4, 2) := by decide +kernel
theorem dX4_isAsBefore_27 : decode cX4_isAsBefore 27 = .ok (.iconst 0, 1) := by decide +kernel
theorem dX4_isAsBefore_28 : decode cX4_isAsBefore 28 = .ok (.istore 5, 2) := by decide +kernel
theorem dX4_isAsBefore_30 : decode cX4_isAsBefore 30 = .ok (.iload 5, 2) := by decide +kernel
theorem dX4_isAsBefore_32 : decode cX4_isAsBefore 32 = .ok (.iload_n 2, 1) := by decide +kernel
theorem dX4_isAsBefore_33 : decode cX4_isAsBefore 33 = .ok (.if_icmp .ge 43, 3) := by decide +kernel
theorem dX4_isAsBefore_36 : decode cX4_isAsBefore 36 = .ok (.iload 4, 2) := by decide +kernel
theorem dX4_isAsBefore_38 : decode cX4_isAsBefore 38 = .ok (.ifCond .eq 38, 3) := by decide +kernel
theorem dX4_isAsBefore_41 : decode cX4_isAsBefore 41 = .ok (.aload_n 0, 1) := by decide +kernel
theorem dX4_isAsBefore_42 : decode cX4_isAsBefore 42 = .ok (.getfield 81, 3) := by decide +kernel
theorem dX4_isAsBefore_45 : decode cX4_isAsBefore 45 = .ok (.bipush 6, 2) := by decide +kernel
theorem dX4_isAsBefore_47 : decode cX4_isAsBefore 47 = .ok (.iload_n 1, 1) := by decide +kernel
theorem dX4_isAsBefore_48 : decode cX4_isAsBefore 48 = .ok (.imul, 1) := by decide +kernel
theorem dX4_isAsBefore_49 : decode cX4_isAsBefore 49 = .ok (.iload 5, 2) := by decide +kernel
theorem dX4_isAsBefore_51 : decode cX4_isAsBefore 51 = .ok (.iadd, 1) := by decide +kernel
theorem dX4_isAsBefore_52 : decode cX4_isAsBefore 52 = .ok (.iaload, 1) := by decide +kernel
theorem dX4_isAsBefore_53 : decode cX4_isAsBefore 53 = .ok (.aload_n 0, 1) := by decide +kernel
theorem dX4_isAsBefore_54 : decode cX4_isAsBefore 54 = .ok (.getfield 108, 3) := by decide +kernel
theorem dX4_isAsBefore_57 : decode cX4_isAsBefore 57 = .ok (.iload 5, 2) := by decide +kernel
theorem dX4_isAsBefore_59 : decode cX4_isAsBefore 59 = .ok (.iaload, 1) := by decide +kernel
theorem dX4_isAsBefore_60 : decode cX4_isAsBefore 60 = .ok (.if_icmp .ne 7, 3) := by decide +kernel
theorem dX4_isAsBefore_63 : decode cX4_isAsBefore 63 = .ok (.iconst 1, 1) := by decide +kernel
theorem dX4_isAsBefore_64 : decode cX4_isAsBefore 64 = .ok (.goto 4, 3) := by decide +kernel
theorem dX4_isAsBefore_67 : decode cX4_isAsBefore 67 = .ok (.iconst 0, 1) := by decide +kernel
theorem dX4_isAsBefore_68 : decode cX4_isAsBefore 68 = .ok (.istore 4, 2) := by decide +kernel
theorem dX4_isAsBefore_70 : decode cX4_isAsBefore 70 = .ok (.iinc 5 1, 3) := by decide +kernel
theorem dX4_isAsBefore_73 : decode cX4_isAsBefore 73 = .ok (.goto (-43), 3) := by decide +kernel
theorem dX4_isAsBefore_76 : decode cX4_isAsBefore 76 = .ok (.iload 4, 2) := by decide +kernel
theorem dX4_isAsBefore_78 : decode cX4_isAsBefore 78 = .ok (.ireturn, 1) := by decide +kernel
theorem dX4_takeOut_0 : decode cX4_takeOut 0 = .ok (.aload_n 0, 1) := by decide +kernel
theorem dX4_takeOut_1 : decode cX4_takeOut 1 = .ok (.getfield 99, 3) := by decide +kernel
theorem dX4_takeOut_4 : decode cX4_takeOut 4 = .ok (.iload_n 1, 1) := by decide +kernel
theorem dX4_takeOut_5 : decode cX4_takeOut 5 = .ok (.iaload, 1) := by decide +kernel
theorem dX4_takeOut_6 : decode cX4_takeOut 6 = .ok (.istore_n 2, 1) := by decide +kernel
theorem dX4_takeOut_7 : decode cX4_takeOut 7 = .ok (.aload_n 0, 1) := by decide +kernel
theorem dX4_takeOut_8 : decode cX4_takeOut 8 = .ok (.getfield 66, 3) := by decide +kernel
theorem dX4_takeOut_11 : decode cX4_takeOut 11 = .ok (.iload_n 2, 1) := by decide +kernel
theorem dX4_takeOut_12 : decode cX4_takeOut 12 = .ok (.aload_n 0, 1) := by decide +kernel
theorem dX4_takeOut_13 : decode cX4_takeOut 13 = .ok (.getfield 66, 3) := by decide +kernel
theorem dX4_takeOut_16 : decode cX4_takeOut 16 = .ok (.iload_n 2, 1) := by decide +kernel
theorem dX4_takeOut_17 : decode cX4_takeOut 17 = .ok (.iaload, 1) := by decide +kernel
theorem dX4_takeOut_18 : decode cX4_takeOut 18 = .ok (.iconst 1, 1) := by decide +kernel
theorem dX4_takeOut_19 : decode cX4_takeOut 19 = .ok (.isub, 1) := by decide +kernel
theorem dX4_takeOut_20 : decode cX4_takeOut 20 = .ok (.iastore, 1) := by decide +kernel
theorem dX4_takeOut_21 : decode cX4_takeOut 21 = .ok (.iconst 5, 1) := by decide +kernel
theorem dX4_takeOut_22 : decode cX4_takeOut 22 = .ok (.iload_n 2, 1) := by decide +kernel
theorem dX4_takeOut_23 : decode cX4_takeOut 23 = .ok (.imul, 1) := by decide +kernel
theorem dX4_takeOut_24 : decode cX4_takeOut 24 = .ok (.istore_n 3, 1) := by decide +kernel
theorem dX4_takeOut_25 : decode cX4_takeOut 25 = .ok (.iload_n 3, 1) := by decide +kernel
theorem dX4_takeOut_26 : decode cX4_takeOut 26 = .ok (.iconst 5, 1) := by decide +kernel
theorem dX4_takeOut_27 : decode cX4_takeOut 27 = .ok (.iload_n 2, 1) := by decide +kernel
theorem dX4_takeOut_28 : decode cX4_takeOut 28 = .ok (.imul, 1) := by decide +kernel
theorem dX4_takeOut_29 : decode cX4_takeOut 29 = .ok (.aload_n 0, 1) := by decide +kernel
theorem dX4_takeOut_30 : decode cX4_takeOut 30 = .ok (.getfield 66, 3) := by decide +kernel
theorem dX4_takeOut_33 : decode cX4_takeOut 33 = .ok (.iload_n 2, 1) := by decide +kernel
theorem dX4_takeOut_34 : decode cX4_takeOut 34 = .ok (.iaload, 1) := by decide +kernel
theorem dX4_takeOut_35 : decode cX4_takeOut 35 = .ok (.iadd, 1) := by decide +kernel
theorem dX4_takeOut_36 : decode cX4_takeOut 36 = .ok (.if_icmp .ge 51, 3) := by decide +kernel
theorem dX4_takeOut_39 : decode cX4_takeOut 39 = .ok (.aload_n 0, 1) := by decide +kernel
theorem dX4_takeOut_40 : decode cX4_takeOut 40 = .ok (.getfield 69, 3) := by decide +kernel
theorem dX4_takeOut_43 : decode cX4_takeOut 43 = .ok (.iload_n 3, 1) := by decide +kernel
theorem dX4_takeOut_44 : decode cX4_takeOut 44 = .ok (.aload_n 0, 1) := by decide +kernel
theorem dX4_takeOut_45 : decode cX4_takeOut 45 = .ok (.getfield 69, 3) := by decide +kernel
theorem dX4_takeOut_48 : decode cX4_takeOut 48 = .ok (.iload_n 3, 1) := by decide +kernel
theorem dX4_takeOut_49 : decode cX4_takeOut 49 = .ok (.iconst 1, 1) := by decide +kernel
theorem dX4_takeOut_50 : decode cX4_takeOut 50 = .ok (.iadd, 1) := by decide +kernel
theorem dX4_takeOut_51 : decode cX4_takeOut 51 = .ok (.iaload, 1) := by decide +kernel
theorem dX4_takeOut_52 : decode cX4_takeOut 52 = .ok (.iastore, 1) := by decide +kernel
theorem dX4_takeOut_53 : decode cX4_takeOut 53 = .ok (.aload_n 0, 1) := by decide +kernel
theorem dX4_takeOut_54 : decode cX4_takeOut 54 = .ok (.getfield 72, 3) := by decide +kernel
theorem dX4_takeOut_57 : decode cX4_takeOut 57 = .ok (.iload_n 3, 1) := by decide +kernel
theorem dX4_takeOut_58 : decode cX4_takeOut 58 = .ok (.aload_n 0, 1) := by decide +kernel
theorem dX4_takeOut_59 : decode cX4_takeOut 59 = .ok (.getfield 72, 3) := by decide +kernel
theorem dX4_takeOut_62 : decode cX4_takeOut 62 = .ok (.iload_n 3, 1) := by decide +kernel
theorem dX4_takeOut_63 : decode cX4_takeOut 63 = .ok (.iconst 1, 1) := by decide +kernel
theorem dX4_takeOut_64 : decode cX4_takeOut 64 = .ok (.iadd, 1) := by decide +kernel
theorem dX4_takeOut_65 : decode cX4_takeOut 65 = .ok (.iaload, 1) := by decide +kernel
theorem dX4_takeOut_66 : decode cX4_takeOut 66 = .ok (.iastore, 1) := by decide +kernel
theorem dX4_takeOut_67 : decode cX4_takeOut 67 = .ok (.aload_n 0, 1) := by decide +kernel
theorem dX4_takeOut_68 : decode cX4_takeOut 68 = .ok (.getfield 75, 3) := by decide +kernel
theorem dX4_takeOut_71 : decode cX4_takeOut 71 = .ok (.iload_n 3, 1) := by decide +kernel
theorem dX4_takeOut_72 : decode cX4_takeOut 72 = .ok (.aload_n 0, 1) := by decide +kernel
theorem dX4_takeOut_73 : decode cX4_takeOut 73 = .ok (.getfield 75, 3) := by decide +kernel
theorem dX4_takeOut_76 : decode cX4_takeOut 76 = .ok (.iload_n 3, 1) := by decide +kernel
theorem dX4_takeOut_77 : decode cX4_takeOut 77 = .ok (.iconst 1, 1) := by decide +kernel
theorem dX4_takeOut_78 : decode cX4_takeOut 78 = .ok (.iadd, 1) := by decide +kernel
theorem dX4_takeOut_79 : decode cX4_takeOut 79 = .ok (.iaload, 1) := by decide +kernel
theorem dX4_takeOut_80 : decode cX4_takeOut 80 = .ok (.iastore, 1) := by decide +kernel
theorem dX4_takeOut_81 : decode cX4_takeOut 81 = .ok (.iinc 3 1, 3) := by decide +kernel
theorem dX4_takeOut_84 : decode cX4_takeOut 84 = .ok (.goto (-59), 3) := by decide +kernel
theorem dX4_takeOut_87 : decode cX4_takeOut 87 = .ok (.aload_n 0, 1) := by decide +kernel
theorem dX4_takeOut_88 : decode cX4_takeOut 88 = .ok (.getfield 99, 3) := by decide +kernel
theorem dX4_takeOut_91 : decode cX4_takeOut 91 = .ok (.iload_n 1, 1) := by decide +kernel
theorem dX4_takeOut_92 : decode cX4_takeOut 92 = .ok (.iconst (-1), 1) := by decide +kernel
theorem dX4_takeOut_93 : decode cX4_takeOut 93 = .ok (.iastore, 1) := by decide +kernel
theorem dX4_takeOut_94 : decode cX4_takeOut 94 = .ok (.return_, 1) := by decide +kernel
theorem dX4_claim_0 : decode cX4_claim 0 = .ok (.aload_n 0, 1) := by decide +kernel
theorem dX4_claim_1 : decode cX4_claim 1 = .ok (.getfield 99, 3) := by decide +kernel
theorem dX4_claim_4 : decode cX4_claim 4 = .ok (.iload_n 1, 1) := by decide +kernel
theorem dX4_claim_5 : decode cX4_claim 5 = .ok (.iaload, 1) := by decide +kernel
theorem dX4_claim_6 : decode cX4_claim 6 = .ok (.ifCond .lt 31, 3) := by decide +kernel
theorem dX4_claim_9 : decode cX4_claim 9 = .ok (.aload_n 0, 1) := by decide +kernel
theorem dX4_claim_10 : decode cX4_claim 10 = .ok (.getfield 99, 3) := by decide +kernel
theorem dX4_claim_13 : decode cX4_claim 13 = .ok (.iload_n 1, 1) := by decide +kernel
theorem dX4_claim_14 : decode cX4_claim 14 = .ok (.iaload, 1) := by decide +kernel
theorem dX4_claim_15 : decode cX4_claim 15 = .ok (.iconst 2, 1) := by decide +kernel
theorem dX4_claim_16 : decode cX4_claim 16 = .ok (.idiv, 1) := by decide +kernel
theorem dX4_claim_17 : decode cX4_claim 17 = .ok (.istore_n 2, 1) := by decide +kernel
theorem dX4_claim_18 : decode cX4_claim 18 = .ok (.aload_n 0, 1) := by decide +kernel
theorem dX4_claim_19 : decode cX4_claim 19 = .ok (.getfield 59, 3) := by decide +kernel
theorem dX4_claim_22 : decode cX4_claim 22 = .ok (.iload_n 2, 1) := by decide +kernel
theorem dX4_claim_23 : decode cX4_claim 23 = .ok (.aload_n 0, 1) := by decide +kernel
theorem dX4_claim_24 : decode cX4_claim 24 = .ok (.getfield 59, 3) := by decide +kernel
theorem dX4_claim_27 : decode cX4_claim 27 = .ok (.iload_n 2, 1) := by decide +kernel
theorem dX4_claim_28 : decode cX4_claim 28 = .ok (.iaload, 1) := by decide +kernel
theorem dX4_claim_29 : decode cX4_claim 29 = .ok (.iconst 1, 1) := by decide +kernel
theorem dX4_claim_30 : decode cX4_claim 30 = .ok (.iadd, 1) := by decide +kernel
theorem dX4_claim_31 : decode cX4_claim 31 = .ok (.iastore, 1) := by decide +kernel
theorem dX4_claim_32 : decode cX4_claim 32 = .ok (.aload_n 0, 1) := by decide +kernel
theorem dX4_claim_33 : decode cX4_claim 33 = .ok (.iload_n 1, 1) := by decide +kernel
theorem dX4_claim_34 : decode cX4_claim 34 = .ok (.invokevirtual 126, 3) := by decide +kernel
theorem dX4_claim_37 : decode cX4_claim 37 = .ok (.aload_n 0, 1) := by decide +kernel
theorem dX4_claim_38 : decode cX4_claim 38 = .ok (.getfield 87, 3) := by decide +kernel
theorem dX4_claim_41 : decode cX4_claim 41 = .ok (.iload_n 1, 1) := by decide +kernel
theorem dX4_claim_42 : decode cX4_claim 42 = .ok (.iconst 2, 1) := by decide +kernel
theorem dX4_claim_43 : decode cX4_claim 43 = .ok (.aload_n 0, 1) := by decide +kernel
theorem dX4_claim_44 : decode cX4_claim 44 = .ok (.getfield 78, 3) := by decide +kernel
theorem dX4_claim_47 : decode cX4_claim 47 = .ok (.iload_n 1, 1) := by decide +kernel
theorem dX4_claim_48 : decode cX4_claim 48 = .ok (.iaload, 1) := by decide +kernel
theorem dX4_claim_49 : decode cX4_claim 49 = .ok (.imul, 1) := by decide +kernel
theorem dX4_claim_50 : decode cX4_claim 50 = .ok (.iastore, 1) := by decide +kernel
theorem dX4_claim_51 : decode cX4_claim 51 = .ok (.aload_n 0, 1) := by decide +kernel
theorem dX4_claim_52 : decode cX4_claim 52 = .ok (.getfield 90, 3) := by decide +kernel
theorem dX4_claim_55 : decode cX4_claim 55 = .ok (.iload_n 1, 1) := by decide +kernel
theorem dX4_claim_56 : decode cX4_claim 56 = .ok (.iconst 0, 1) := by decide +kernel
theorem dX4_claim_57 : decode cX4_claim 57 = .ok (.iastore, 1) := by decide +kernel
theorem dX4_claim_58 : decode cX4_claim 58 = .ok (.aload_n 0, 1) := by decide +kernel
theorem dX4_claim_59 : decode cX4_claim 59 = .ok (.getfield 96, 3) := by decide +kernel
theorem dX4_claim_62 : decode cX4_claim 62 = .ok (.iload_n 1, 1) := by decide +kernel
theorem dX4_claim_63 : decode cX4_claim 63 = .ok (.iconst 0, 1) := by decide +kernel
theorem dX4_claim_64 : decode cX4_claim 64 = .ok (.iastore, 1) := by decide +kernel
theorem dX4_claim_65 : decode cX4_claim 65 = .ok (.return_, 1) := by decide +kernel
theorem dX4_arrange_0 : decode cX4_arrange 0 = .ok (.iconst 1, 1) := by decide +kernel
theorem dX4_arrange_1 : decode cX4_arrange 1 = .ok (.istore_n 1, 1) := by decide +kernel
theorem dX4_arrange_2 : decode cX4_arrange 2 = .ok (.iconst 0, 1) := by decide +kernel
theorem dX4_arrange_3 : decode cX4_arrange 3 = .ok (.istore_n 2, 1) := by decide +kernel
theorem dX4_arrange_4 : decode cX4_arrange 4 = .ok (.iload_n 2, 1) := by decide +kernel
theorem dX4_arrange_5 : decode cX4_arrange 5 = .ok (.aload_n 0, 1) := by decide +kernel
theorem dX4_arrange_6 : decode cX4_arrange 6 = .ok (.getfield 111, 3) := by decide +kernel
theorem dX4_arrange_9 : decode cX4_arrange 9 = .ok (.if_icmp .ge 27, 3) := by decide +kernel
theorem dX4_arrange_12 : decode cX4_arrange 12 = .ok (.iload_n 1, 1) := by decide +kernel
theorem dX4_arrange_13 : decode cX4_arrange 13 = .ok (.ifCond .eq 15, 3) := by decide +kernel
theorem dX4_arrange_16 : decode cX4_arrange 16 = .ok (.aload_n 0, 1) := by decide +kernel
theorem dX4_arrange_17 : decode cX4_arrange 17 = .ok (.iload_n 2, 1) := by decide +kernel
theorem dX4_arrange_18 : decode cX4_arrange 18 = .ok (.invokevirtual 122, 3) := by decide +kernel
theorem dX4_arrange_21 : decode cX4_arrange 21 = .ok (.ifCond .eq 7, 3) := by decide +kernel
theorem dX4_arrange_24 : decode cX4_arrange 24 = .ok (.iconst 1, 1) := by decide +kernel
theorem dX4_arrange_25 : decode cX4_arrange 25 = .ok (.goto 4, 3) := by decide +kernel
theorem dX4_arrange_28 : decode cX4_arrange 28 = .ok (.iconst 0, 1) := by decide +kernel
theorem dX4_arrange_29 : decode cX4_arrange 29 = .ok (.istore_n 1, 1) := by decide +kernel
theorem dX4_arrange_30 : decode cX4_arrange 30 = .ok (.iinc 2 1, 3) := by decide +kernel
theorem dX4_arrange_33 : decode cX4_arrange 33 = .ok (.goto (-29), 3) := by decide +kernel
theorem dX4_arrange_36 : decode cX4_arrange 36 = .ok (.iconst 0, 1) := by decide +kernel
theorem dX4_arrange_37 : decode cX4_arrange 37 = .ok (.istore_n 2, 1) := by decide +kernel
theorem dX4_arrange_38 : decode cX4_arrange 38 = .ok (.iload_n 2, 1) := by decide +kernel
theorem dX4_arrange_39 : decode cX4_arrange 39 = .ok (.aload_n 0, 1) := by decide +kernel
theorem dX4_arrange_40 : decode cX4_arrange 40 = .ok (.getfield 111, 3) := by decide +kernel
theorem dX4_arrange_43 : decode cX4_arrange 43 = .ok (.if_icmp .ge 16, 3) := by decide +kernel
theorem dX4_arrange_46 : decode cX4_arrange 46 = .ok (.aload_n 0, 1) := by decide +kernel
theorem dX4_arrange_47 : decode cX4_arrange 47 = .ok (.getfield 105, 3) := by decide +kernel
theorem dX4_arrange_50 : decode cX4_arrange 50 = .ok (.iload_n 2, 1) := by decide +kernel
theorem dX4_arrange_51 : decode cX4_arrange 51 = .ok (.iconst (-1), 1) := by decide +kernel
theorem dX4_arrange_52 : decode cX4_arrange 52 = .ok (.iastore, 1) := by decide +kernel
theorem dX4_arrange_53 : decode cX4_arrange 53 = .ok (.iinc 2 1, 3) := by decide +kernel
theorem dX4_arrange_56 : decode cX4_arrange 56 = .ok (.goto (-18), 3) := by decide +kernel
theorem dX4_arrange_59 : decode cX4_arrange 59 = .ok (.iconst 0, 1) := by decide +kernel
theorem dX4_arrange_60 : decode cX4_arrange 60 = .ok (.istore_n 2, 1) := by decide +kernel
theorem dX4_arrange_61 : decode cX4_arrange 61 = .ok (.iload_n 2, 1) := by decide +kernel
theorem dX4_arrange_62 : decode cX4_arrange 62 = .ok (.aload_n 0, 1) := by decide +kernel
theorem dX4_arrange_63 : decode cX4_arrange 63 = .ok (.getfield 111, 3) := by decide +kernel
theorem dX4_arrange_66 : decode cX4_arrange 66 = .ok (.if_icmp .ge 200, 3) := by decide +kernel
theorem dX4_arrange_69 : decode cX4_arrange 69 = .ok (.iload_n 1, 1) := by decide +kernel
theorem dX4_arrange_70 : decode cX4_arrange 70 = .ok (.ifCond .eq 15, 3) := by decide +kernel
theorem dX4_arrange_73 : decode cX4_arrange 73 = .ok (.iload_n 2, 1) := by decide +kernel
theorem dX4_arrange_74 : decode cX4_arrange 74 = .ok (.ifCond .ne 7, 3) := by decide +kernel
theorem dX4_arrange_77 : decode cX4_arrange 77 = .ok (.iconst 1, 1) := by decide +kernel
theorem dX4_arrange_78 : decode cX4_arrange 78 = .ok (.goto 33, 3) := by decide +kernel
theorem dX4_arrange_81 : decode cX4_arrange 81 = .ok (.iconst 0, 1) := by decide +kernel
theorem dX4_arrange_82 : decode cX4_arrange 82 = .ok (.goto 29, 3) := by decide +kernel
theorem dX4_arrange_85 : decode cX4_arrange 85 = .ok (.aload_n 0, 1) := by decide +kernel
theorem dX4_arrange_86 : decode cX4_arrange 86 = .ok (.getfield 7, 3) := by decide +kernel
theorem dX4_arrange_89 : decode cX4_arrange 89 = .ok (.iload_n 2, 1) := by decide +kernel
theorem dX4_arrange_90 : decode cX4_arrange 90 = .ok (.baload, 1) := by decide +kernel
theorem dX4_arrange_91 : decode cX4_arrange 91 = .ok (.ifCond .eq 19, 3) := by decide +kernel
theorem dX4_arrange_94 : decode cX4_arrange 94 = .ok (.aload_n 0, 1) := by decide +kernel
theorem dX4_arrange_95 : decode cX4_arrange 95 = .ok (.aload_n 0, 1) := by decide +kernel
theorem dX4_arrange_96 : decode cX4_arrange 96 = .ok (.iload_n 2, 1) := by decide +kernel
theorem dX4_arrange_97 : decode cX4_arrange 97 = .ok (.invokevirtual 130, 3) := by decide +kernel
theorem dX4_arrange_100 : decode cX4_arrange 100 = .ok (.invokevirtual 122, 3) := by decide +kernel
theorem dX4_arrange_103 : decode cX4_arrange 103 = .ok (.ifCond .ne 7, 3) := by decide +kernel
theorem dX4_arrange_106 : decode cX4_arrange 106 = .ok (.iconst 1, 1) := by decide +kernel
theorem dX4_arrange_107 : decode cX4_arrange 107 = .ok (.goto 4, 3) := by decide +kernel
theorem dX4_arrange_110 : decode cX4_arrange 110 = .ok (.iconst 0, 1) := by decide +kernel
theorem dX4_arrange_111 : decode cX4_arrange 111 = .ok (.istore_n 3, 1) := by decide +kernel
theorem dX4_arrange_112 : decode cX4_arrange 112 = .ok (.iload_n 3, 1) := by decide +kernel
theorem dX4_arrange_113 : decode cX4_arrange 113 = .ok (.ifCond .eq 11, 3) := by decide +kernel
theorem dX4_arrange_116 : decode cX4_arrange 116 = .ok (.aload_n 0, 1) := by decide +kernel
theorem dX4_arrange_117 : decode cX4_arrange 117 = .ok (.iload_n 2, 1) := by decide +kernel
theorem dX4_arrange_118 : decode cX4_arrange 118 = .ok (.invokevirtual 133, 3) := by decide +kernel
theorem dX4_arrange_121 : decode cX4_arrange 121 = .ok (.goto 4, 3) := by decide +kernel
theorem dX4_arrange_124 : decode cX4_arrange 124 = .ok (.iconst 0, 1) := by decide +kernel
theorem dX4_arrange_125 : decode cX4_arrange 125 = .ok (.istore 4, 2) := by decide +kernel
theorem dX4_arrange_127 : decode cX4_arrange 127 = .ok (.aload_n 0, 1) := by decide +kernel
theorem dX4_arrange_128 : decode cX4_arrange 128 = .ok (.iload_n 2, 1) := by decide +kernel
theorem dX4_arrange_129 : decode cX4_arrange 129 = .ok (.iload 4, 2) := by decide +kernel
theorem dX4_arrange_131 : decode cX4_arrange 131 = .ok (.iload_n 1, 1) := by decide +kernel
theorem dX4_arrange_132 : decode cX4_arrange 132 = .ok (.ifCond .eq 11, 3) := by decide +kernel
theorem dX4_arrange_135 : decode cX4_arrange 135 = .ok (.iload_n 3, 1) := by decide +kernel
theorem dX4_arrange_136 : decode cX4_arrange 136 = .ok (.ifCond .eq 7, 3) := by decide +kernel
theorem dX4_arrange_139 : decode cX4_arrange 139 = .ok (.iconst 1, 1) := by decide +kernel
theorem dX4_arrange_140 : decode cX4_arrange 140 = .ok (.goto 4, 3) := by decide +kernel
theorem dX4_arrange_143 : decode cX4_arrange 143 = .ok (.iconst 0, 1) := by decide +kernel
theorem dX4_arrange_144 : decode cX4_arrange 144 = .ok (.invokevirtual 136, 3) := by decide +kernel
theorem dX4_arrange_147 : decode cX4_arrange 147 = .ok (.istore 5, 2) := by decide +kernel
theorem dX4_arrange_149 : decode cX4_arrange 149 = .ok (.iload 5, 2) := by decide +kernel
theorem dX4_arrange_151 : decode cX4_arrange 151 = .ok (.ifCond .ne 80, 3) := by decide +kernel
theorem dX4_arrange_154 : decode cX4_arrange 154 = .ok (.aload_n 0, 1) := by decide +kernel
theorem dX4_arrange_155 : decode cX4_arrange 155 = .ok (.iload_n 2, 1) := by decide +kernel
theorem dX4_arrange_156 : decode cX4_arrange 156 = .ok (.invokevirtual 140, 3) := by decide +kernel
theorem dX4_arrange_159 : decode cX4_arrange 159 = .ok (.aload_n 0, 1) := by decide +kernel
theorem dX4_arrange_160 : decode cX4_arrange 160 = .ok (.getfield 78, 3) := by decide +kernel
theorem dX4_arrange_163 : decode cX4_arrange 163 = .ok (.iload_n 2, 1) := by decide +kernel
theorem dX4_arrange_164 : decode cX4_arrange 164 = .ok (.iload 4, 2) := by decide +kernel
theorem dX4_arrange_166 : decode cX4_arrange 166 = .ok (.iastore, 1) := by decide +kernel
theorem dX4_arrange_167 : decode cX4_arrange 167 = .ok (.aload_n 0, 1) := by decide +kernel
theorem dX4_arrange_168 : decode cX4_arrange 168 = .ok (.getfield 84, 3) := by decide +kernel
theorem dX4_arrange_171 : decode cX4_arrange 171 = .ok (.iload_n 2, 1) := by decide +kernel
theorem dX4_arrange_172 : decode cX4_arrange 172 = .ok (.iload_n 1, 1) := by decide +kernel
theorem dX4_arrange_173 : decode cX4_arrange 173 = .ok (.ifCond .eq 11, 3) := by decide +kernel
theorem dX4_arrange_176 : decode cX4_arrange 176 = .ok (.iload_n 3, 1) := by decide +kernel
theorem dX4_arrange_177 : decode cX4_arrange 177 = .ok (.ifCond .eq 7, 3) := by decide +kernel
theorem dX4_arrange_180 : decode cX4_arrange 180 = .ok (.iconst 1, 1) := by decide +kernel
theorem dX4_arrange_181 : decode cX4_arrange 181 = .ok (.goto 4, 3) := by decide +kernel
theorem dX4_arrange_184 : decode cX4_arrange 184 = .ok (.iconst 0, 1) := by decide +kernel
theorem dX4_arrange_185 : decode cX4_arrange 185 = .ok (.bastore, 1) := by decide +kernel
theorem dX4_arrange_186 : decode cX4_arrange 186 = .ok (.iconst 0, 1) := by decide +kernel
theorem dX4_arrange_187 : decode cX4_arrange 187 = .ok (.istore 6, 2) := by decide +kernel
theorem dX4_arrange_189 : decode cX4_arrange 189 = .ok (.iload 6, 2) := by decide +kernel
theorem dX4_arrange_191 : decode cX4_arrange 191 = .ok (.iload 4, 2) := by decide +kernel
theorem dX4_arrange_193 : decode cX4_arrange 193 = .ok (.if_icmp .ge 28, 3) := by decide +kernel
theorem dX4_arrange_196 : decode cX4_arrange 196 = .ok (.aload_n 0, 1) := by decide +kernel
theorem dX4_arrange_197 : decode cX4_arrange 197 = .ok (.getfield 81, 3) := by decide +kernel
theorem dX4_arrange_200 : decode cX4_arrange 200 = .ok (.bipush 6, 2) := by decide +kernel
theorem dX4_arrange_202 : decode cX4_arrange 202 = .ok (.iload_n 2, 1) := by decide +kernel
theorem dX4_arrange_203 : decode cX4_arrange 203 = .ok (.imul, 1) := by decide +kernel
theorem dX4_arrange_204 : decode cX4_arrange 204 = .ok (.iload 6, 2) := by decide +kernel
theorem dX4_arrange_206 : decode cX4_arrange 206 = .ok (.iadd, 1) := by decide +kernel
theorem dX4_arrange_207 : decode cX4_arrange 207 = .ok (.aload_n 0, 1) := by decide +kernel
theorem dX4_arrange_208 : decode cX4_arrange 208 = .ok (.getfield 108, 3) := by decide +kernel
theorem dX4_arrange_211 : decode cX4_arrange 211 = .ok (.iload 6, 2) := by decide +kernel
theorem dX4_arrange_213 : decode cX4_arrange 213 = .ok (.iaload, 1) := by decide +kernel
theorem dX4_arrange_214 : decode cX4_arrange 214 = .ok (.iastore, 1) := by decide +kernel
theorem dX4_arrange_215 : decode cX4_arrange 215 = .ok (.iinc 6 1, 3) := by decide +kernel
theorem dX4_arrange_218 : decode cX4_arrange 218 = .ok (.goto (-29), 3) := by decide +kernel
theorem dX4_arrange_221 : decode cX4_arrange 221 = .ok (.aload_n 0, 1) := by decide +kernel
theorem dX4_arrange_222 : decode cX4_arrange 222 = .ok (.getfield 87, 3) := by decide +kernel
theorem dX4_arrange_225 : decode cX4_arrange 225 = .ok (.iload_n 2, 1) := by decide +kernel
theorem dX4_arrange_226 : decode cX4_arrange 226 = .ok (.iconst 2, 1) := by decide +kernel
theorem dX4_arrange_227 : decode cX4_arrange 227 = .ok (.iload 4, 2) := by decide +kernel
theorem dX4_arrange_229 : decode cX4_arrange 229 = .ok (.imul, 1) := by decide +kernel
theorem dX4_arrange_230 : decode cX4_arrange 230 = .ok (.iastore, 1) := by decide +kernel
theorem dX4_arrange_231 : decode cX4_arrange 231 = .ok (.iconst 0, 1) := by decide +kernel
theorem dX4_arrange_232 : decode cX4_arrange 232 = .ok (.istore 6, 2) := by decide +kernel
theorem dX4_arrange_234 : decode cX4_arrange 234 = .ok (.iload 6, 2) := by decide +kernel
theorem dX4_arrange_236 : decode cX4_arrange 236 = .ok (.iload 4, 2) := by decide +kernel
theorem dX4_arrange_238 : decode cX4_arrange 238 = .ok (.if_icmp .ge 22, 3) := by decide +kernel
theorem dX4_arrange_241 : decode cX4_arrange 241 = .ok (.aload_n 0, 1) := by decide +kernel
theorem dX4_arrange_242 : decode cX4_arrange 242 = .ok (.getfield 105, 3) := by decide +kernel
theorem dX4_arrange_245 : decode cX4_arrange 245 = .ok (.aload_n 0, 1) := by decide +kernel
theorem dX4_arrange_246 : decode cX4_arrange 246 = .ok (.getfield 108, 3) := by decide +kernel
theorem dX4_arrange_249 : decode cX4_arrange 249 = .ok (.iload 6, 2) := by decide +kernel
theorem dX4_arrange_251 : decode cX4_arrange 251 = .ok (.iaload, 1) := by decide +kernel
theorem dX4_arrange_252 : decode cX4_arrange 252 = .ok (.iload_n 2, 1) := by decide +kernel
theorem dX4_arrange_253 : decode cX4_arrange 253 = .ok (.iastore, 1) := by decide +kernel
theorem dX4_arrange_254 : decode cX4_arrange 254 = .ok (.iinc 6 1, 3) := by decide +kernel
theorem dX4_arrange_257 : decode cX4_arrange 257 = .ok (.goto (-23), 3) := by decide +kernel
theorem dX4_arrange_260 : decode cX4_arrange 260 = .ok (.iinc 2 1, 3) := by decide +kernel
theorem dX4_arrange_263 : decode cX4_arrange 263 = .ok (.goto (-202), 3) := by decide +kernel
theorem dX4_arrange_266 : decode cX4_arrange 266 = .ok (.return_, 1) := by decide +kernel
theorem dX4_holder_0 : decode cX4_holder 0 = .ok (.aload_n 0, 1) := by decide +kernel
theorem dX4_holder_1 : decode cX4_holder 1 = .ok (.getfield 81, 3) := by decide +kernel
theorem dX4_holder_4 : decode cX4_holder 4 = .ok (.bipush 6, 2) := by decide +kernel
theorem dX4_holder_6 : decode cX4_holder 6 = .ok (.iload_n 1, 1) := by decide +kernel
theorem dX4_holder_7 : decode cX4_holder 7 = .ok (.imul, 1) := by decide +kernel
theorem dX4_holder_8 : decode cX4_holder 8 = .ok (.aload_n 0, 1) := by decide +kernel
theorem dX4_holder_9 : decode cX4_holder 9 = .ok (.getfield 93, 3) := by decide +kernel
theorem dX4_holder_12 : decode cX4_holder 12 = .ok (.iload_n 1, 1) := by decide +kernel
theorem dX4_holder_13 : decode cX4_holder 13 = .ok (.iaload, 1) := by decide +kernel
theorem dX4_holder_14 : decode cX4_holder 14 = .ok (.iadd, 1) := by decide +kernel
theorem dX4_holder_15 : decode cX4_holder 15 = .ok (.iaload, 1) := by decide +kernel
theorem dX4_holder_16 : decode cX4_holder 16 = .ok (.ireturn, 1) := by decide +kernel
theorem dX4_leave_0 : decode cX4_leave 0 = .ok (.aload_n 0, 1) := by decide +kernel
theorem dX4_leave_1 : decode cX4_leave 1 = .ok (.getfield 96, 3) := by decide +kernel
theorem dX4_leave_4 : decode cX4_leave 4 = .ok (.iload_n 1, 1) := by decide +kernel
theorem dX4_leave_5 : decode cX4_leave 5 = .ok (.aload_n 0, 1) := by decide +kernel
theorem dX4_leave_6 : decode cX4_leave 6 = .ok (.getfield 93, 3) := by decide +kernel
theorem dX4_leave_9 : decode cX4_leave 9 = .ok (.iload_n 1, 1) := by decide +kernel
theorem dX4_leave_10 : decode cX4_leave 10 = .ok (.iaload, 1) := by decide +kernel
theorem dX4_leave_11 : decode cX4_leave 11 = .ok (.aload_n 0, 1) := by decide +kernel
theorem dX4_leave_12 : decode cX4_leave 12 = .ok (.getfield 78, 3) := by decide +kernel
theorem dX4_leave_15 : decode cX4_leave 15 = .ok (.iload_n 1, 1) := by decide +kernel
theorem dX4_leave_16 : decode cX4_leave 16 = .ok (.iaload, 1) := by decide +kernel
theorem dX4_leave_17 : decode cX4_leave 17 = .ok (.iconst 1, 1) := by decide +kernel
theorem dX4_leave_18 : decode cX4_leave 18 = .ok (.isub, 1) := by decide +kernel
theorem dX4_leave_19 : decode cX4_leave 19 = .ok (.if_icmp .lt 12, 3) := by decide +kernel
theorem dX4_leave_22 : decode cX4_leave 22 = .ok (.aload_n 0, 1) := by decide +kernel
theorem dX4_leave_23 : decode cX4_leave 23 = .ok (.getfield 84, 3) := by decide +kernel
theorem dX4_leave_26 : decode cX4_leave 26 = .ok (.iload_n 1, 1) := by decide +kernel
theorem dX4_leave_27 : decode cX4_leave 27 = .ok (.baload, 1) := by decide +kernel
theorem dX4_leave_28 : decode cX4_leave 28 = .ok (.ifCond .eq 7, 3) := by decide +kernel
theorem dX4_leave_31 : decode cX4_leave 31 = .ok (.iconst 1, 1) := by decide +kernel
theorem dX4_leave_32 : decode cX4_leave 32 = .ok (.goto 9, 3) := by decide +kernel
theorem dX4_leave_35 : decode cX4_leave 35 = .ok (.aload_n 0, 1) := by decide +kernel
theorem dX4_leave_36 : decode cX4_leave 36 = .ok (.getfield 78, 3) := by decide +kernel
theorem dX4_leave_39 : decode cX4_leave 39 = .ok (.iload_n 1, 1) := by decide +kernel
theorem dX4_leave_40 : decode cX4_leave 40 = .ok (.iaload, 1) := by decide +kernel
theorem dX4_leave_41 : decode cX4_leave 41 = .ok (.iastore, 1) := by decide +kernel
theorem dX4_leave_42 : decode cX4_leave 42 = .ok (.return_, 1) := by decide +kernel
theorem dX4_operate_0 : decode cX4_operate 0 = .ok (.iconst (-1), 1) := by decide +kernel
theorem dX4_operate_1 : decode cX4_operate 1 = .ok (.istore_n 2, 1) := by decide +kernel
theorem dX4_operate_2 : decode cX4_operate 2 = .ok (.iconst 0, 1) := by decide +kernel
theorem dX4_operate_3 : decode cX4_operate 3 = .ok (.istore_n 3, 1) := by decide +kernel
theorem dX4_operate_4 : decode cX4_operate 4 = .ok (.iload_n 3, 1) := by decide +kernel
theorem dX4_operate_5 : decode cX4_operate 5 = .ok (.aload_n 0, 1) := by decide +kernel
theorem dX4_operate_6 : decode cX4_operate 6 = .ok (.getfield 78, 3) := by decide +kernel
theorem dX4_operate_9 : decode cX4_operate 9 = .ok (.iload_n 1, 1) := by decide +kernel
theorem dX4_operate_10 : decode cX4_operate 10 = .ok (.iaload, 1) := by decide +kernel
theorem dX4_operate_11 : decode cX4_operate 11 = .ok (.if_icmp .ge 160, 3) := by decide +kernel
theorem dX4_operate_14 : decode cX4_operate 14 = .ok (.aload_n 0, 1) := by decide +kernel
theorem dX4_operate_15 : decode cX4_operate 15 = .ok (.getfield 81, 3) := by decide +kernel
theorem dX4_operate_18 : decode cX4_operate 18 = .ok (.bipush 6, 2) := by decide +kernel
theorem dX4_operate_20 : decode cX4_operate 20 = .ok (.iload_n 1, 1) := by decide +kernel
theorem dX4_operate_21 : decode cX4_operate 21 = .ok (.imul, 1) := by decide +kernel
theorem dX4_operate_22 : decode cX4_operate 22 = .ok (.iload_n 3, 1) := by decide +kernel
theorem dX4_operate_23 : decode cX4_operate 23 = .ok (.iadd, 1) := by decide +kernel
theorem dX4_operate_24 : decode cX4_operate 24 = .ok (.iaload, 1) := by decide +kernel
theorem dX4_operate_25 : decode cX4_operate 25 = .ok (.istore 4, 2) := by decide +kernel
theorem dX4_operate_27 : decode cX4_operate 27 = .ok (.aload_n 0, 1) := by decide +kernel
theorem dX4_operate_28 : decode cX4_operate 28 = .ok (.getfield 23, 3) := by decide +kernel
theorem dX4_operate_31 : decode cX4_operate 31 = .ok (.iload 4, 2) := by decide +kernel
theorem dX4_operate_33 : decode cX4_operate 33 = .ok (.iconst 0, 1) := by decide +kernel
theorem dX4_operate_34 : decode cX4_operate 34 = .ok (.iastore, 1) := by decide +kernel
theorem dX4_operate_35 : decode cX4_operate 35 = .ok (.aload_n 0, 1) := by decide +kernel
theorem dX4_operate_36 : decode cX4_operate 36 = .ok (.getfield 26, 3) := by decide +kernel
theorem dX4_operate_39 : decode cX4_operate 39 = .ok (.iload 4, 2) := by decide +kernel
theorem dX4_operate_41 : decode cX4_operate 41 = .ok (.iconst 0, 1) := by decide +kernel
theorem dX4_operate_42 : decode cX4_operate 42 = .ok (.iastore, 1) := by decide +kernel
theorem dX4_operate_43 : decode cX4_operate 43 = .ok (.aload_n 0, 1) := by decide +kernel
theorem dX4_operate_44 : decode cX4_operate 44 = .ok (.getfield 29, 3) := by decide +kernel
theorem dX4_operate_47 : decode cX4_operate 47 = .ok (.iload 4, 2) := by decide +kernel
theorem dX4_operate_49 : decode cX4_operate 49 = .ok (.iconst 0, 1) := by decide +kernel
theorem dX4_operate_50 : decode cX4_operate 50 = .ok (.iastore, 1) := by decide +kernel
theorem dX4_operate_51 : decode cX4_operate 51 = .ok (.aload_n 0, 1) := by decide +kernel
theorem dX4_operate_52 : decode cX4_operate 52 = .ok (.getfield 32, 3) := by decide +kernel
theorem dX4_operate_55 : decode cX4_operate 55 = .ok (.iload 4, 2) := by decide +kernel
theorem dX4_operate_57 : decode cX4_operate 57 = .ok (.iconst 0, 1) := by decide +kernel
theorem dX4_operate_58 : decode cX4_operate 58 = .ok (.iastore, 1) := by decide +kernel
theorem dX4_operate_59 : decode cX4_operate 59 = .ok (.aload_n 0, 1) := by decide +kernel
theorem dX4_operate_60 : decode cX4_operate 60 = .ok (.getfield 35, 3) := by decide +kernel
theorem dX4_operate_63 : decode cX4_operate 63 = .ok (.iload 4, 2) := by decide +kernel
theorem dX4_operate_65 : decode cX4_operate 65 = .ok (.iconst 0, 1) := by decide +kernel
theorem dX4_operate_66 : decode cX4_operate 66 = .ok (.iastore, 1) := by decide +kernel
theorem dX4_operate_67 : decode cX4_operate 67 = .ok (.aload_n 0, 1) := by decide +kernel
theorem dX4_operate_68 : decode cX4_operate 68 = .ok (.getfield 38, 3) := by decide +kernel
theorem dX4_operate_71 : decode cX4_operate 71 = .ok (.iload 4, 2) := by decide +kernel
theorem dX4_operate_73 : decode cX4_operate 73 = .ok (.iconst 0, 1) := by decide +kernel
theorem dX4_operate_74 : decode cX4_operate 74 = .ok (.bastore, 1) := by decide +kernel
theorem dX4_operate_75 : decode cX4_operate 75 = .ok (.aload_n 0, 1) := by decide +kernel
theorem dX4_operate_76 : decode cX4_operate 76 = .ok (.getfield 41, 3) := by decide +kernel
theorem dX4_operate_79 : decode cX4_operate 79 = .ok (.iload 4, 2) := by decide +kernel
theorem dX4_operate_81 : decode cX4_operate 81 = .ok (.iconst 0, 1) := by decide +kernel
theorem dX4_operate_82 : decode cX4_operate 82 = .ok (.bastore, 1) := by decide +kernel
theorem dX4_operate_83 : decode cX4_operate 83 = .ok (.iload_n 2, 1) := by decide +kernel
theorem dX4_operate_84 : decode cX4_operate 84 = .ok (.ifCond .lt 41, 3) := by decide +kernel
theorem dX4_operate_87 : decode cX4_operate 87 = .ok (.aload_n 0, 1) := by decide +kernel
theorem dX4_operate_88 : decode cX4_operate 88 = .ok (.getfield 16, 3) := by decide +kernel
theorem dX4_operate_91 : decode cX4_operate 91 = .ok (.iload 4, 2) := by decide +kernel
theorem dX4_operate_93 : decode cX4_operate 93 = .ok (.iaload, 1) := by decide +kernel
theorem dX4_operate_94 : decode cX4_operate 94 = .ok (.aload_n 0, 1) := by decide +kernel
theorem dX4_operate_95 : decode cX4_operate 95 = .ok (.getfield 16, 3) := by decide +kernel
theorem dX4_operate_98 : decode cX4_operate 98 = .ok (.iload_n 2, 1) := by decide +kernel
theorem dX4_operate_99 : decode cX4_operate 99 = .ok (.iaload, 1) := by decide +kernel
theorem dX4_operate_100 : decode cX4_operate 100 = .ok (.if_icmp .lt 25, 3) := by decide +kernel
theorem dX4_operate_103 : decode cX4_operate 103 = .ok (.aload_n 0, 1) := by decide +kernel
theorem dX4_operate_104 : decode cX4_operate 104 = .ok (.getfield 16, 3) := by decide +kernel
theorem dX4_operate_107 : decode cX4_operate 107 = .ok (.iload 4, 2) := by decide +kernel
theorem dX4_operate_109 : decode cX4_operate 109 = .ok (.iaload, 1) := by decide +kernel
theorem dX4_operate_110 : decode cX4_operate 110 = .ok (.aload_n 0, 1) := by decide +kernel
theorem dX4_operate_111 : decode cX4_operate 111 = .ok (.getfield 16, 3) := by decide +kernel
theorem dX4_operate_114 : decode cX4_operate 114 = .ok (.iload_n 2, 1) := by decide +kernel
theorem dX4_operate_115 : decode cX4_operate 115 = .ok (.iaload, 1) := by decide +kernel
theorem dX4_operate_116 : decode cX4_operate 116 = .ok (.if_icmp .ne 13, 3) := by decide +kernel
theorem dX4_operate_119 : decode cX4_operate 119 = .ok (.iload 4, 2) := by decide +kernel
theorem dX4_operate_121 : decode cX4_operate 121 = .ok (.iload_n 2, 1) := by decide +kernel
theorem dX4_operate_122 : decode cX4_operate 122 = .ok (.if_icmp .le 7, 3) := by decide +kernel
theorem dX4_operate_125 : decode cX4_operate 125 = .ok (.iconst 1, 1) := by decide +kernel
theorem dX4_operate_126 : decode cX4_operate 126 = .ok (.goto 4, 3) := by decide +kernel
theorem dX4_operate_129 : decode cX4_operate 129 = .ok (.iconst 0, 1) := by decide +kernel
theorem dX4_operate_130 : decode cX4_operate 130 = .ok (.istore 5, 2) := by decide +kernel
theorem dX4_operate_132 : decode cX4_operate 132 = .ok (.aload_n 0, 1) := by decide +kernel
theorem dX4_operate_133 : decode cX4_operate 133 = .ok (.getfield 93, 3) := by decide +kernel
theorem dX4_operate_136 : decode cX4_operate 136 = .ok (.iload_n 1, 1) := by decide +kernel
theorem dX4_operate_137 : decode cX4_operate 137 = .ok (.iload 5, 2) := by decide +kernel
theorem dX4_operate_139 : decode cX4_operate 139 = .ok (.ifCond .eq 7, 3) := by decide +kernel
theorem dX4_operate_142 : decode cX4_operate 142 = .ok (.iload_n 3, 1) := by decide +kernel
theorem dX4_operate_143 : decode cX4_operate 143 = .ok (.goto 9, 3) := by decide +kernel
theorem dX4_operate_146 : decode cX4_operate 146 = .ok (.aload_n 0, 1) := by decide +kernel
theorem dX4_operate_147 : decode cX4_operate 147 = .ok (.getfield 93, 3) := by decide +kernel
theorem dX4_operate_150 : decode cX4_operate 150 = .ok (.iload_n 1, 1) := by decide +kernel
theorem dX4_operate_151 : decode cX4_operate 151 = .ok (.iaload, 1) := by decide +kernel
theorem dX4_operate_152 : decode cX4_operate 152 = .ok (.iastore, 1) := by decide +kernel
theorem dX4_operate_153 : decode cX4_operate 153 = .ok (.iload 5, 2) := by decide +kernel
theorem dX4_operate_155 : decode cX4_operate 155 = .ok (.ifCond .eq 8, 3) := by decide +kernel
theorem dX4_operate_158 : decode cX4_operate 158 = .ok (.iload 4, 2) := by decide +kernel
theorem dX4_operate_160 : decode cX4_operate 160 = .ok (.goto 4, 3) := by decide +kernel
theorem dX4_operate_163 : decode cX4_operate 163 = .ok (.iload_n 2, 1) := by decide +kernel
theorem dX4_operate_164 : decode cX4_operate 164 = .ok (.istore_n 2, 1) := by decide +kernel
theorem dX4_operate_165 : decode cX4_operate 165 = .ok (.iinc 3 1, 3) := by decide +kernel
theorem dX4_operate_168 : decode cX4_operate 168 = .ok (.goto (-164), 3) := by decide +kernel
theorem dX4_operate_171 : decode cX4_operate 171 = .ok (.aload_n 0, 1) := by decide +kernel
theorem dX4_operate_172 : decode cX4_operate 172 = .ok (.getfield 90, 3) := by decide +kernel
theorem dX4_operate_175 : decode cX4_operate 175 = .ok (.iload_n 1, 1) := by decide +kernel
theorem dX4_operate_176 : decode cX4_operate 176 = .ok (.aload_n 0, 1) := by decide +kernel
theorem dX4_operate_177 : decode cX4_operate 177 = .ok (.getfield 16, 3) := by decide +kernel
theorem dX4_operate_180 : decode cX4_operate 180 = .ok (.iload_n 2, 1) := by decide +kernel
theorem dX4_operate_181 : decode cX4_operate 181 = .ok (.iaload, 1) := by decide +kernel
theorem dX4_operate_182 : decode cX4_operate 182 = .ok (.iastore, 1) := by decide +kernel
theorem dX4_operate_183 : decode cX4_operate 183 = .ok (.aload_n 0, 1) := by decide +kernel
theorem dX4_operate_184 : decode cX4_operate 184 = .ok (.iload_n 1, 1) := by decide +kernel
theorem dX4_operate_185 : decode cX4_operate 185 = .ok (.invokevirtual 143, 3) := by decide +kernel
theorem dX4_operate_188 : decode cX4_operate 188 = .ok (.return_, 1) := by decide +kernel
theorem dX4_age_0 : decode cX4_age 0 = .ok (.iconst 0, 1) := by decide +kernel
theorem dX4_age_1 : decode cX4_age 1 = .ok (.istore_n 2, 1) := by decide +kernel
theorem dX4_age_2 : decode cX4_age 2 = .ok (.iload_n 2, 1) := by decide +kernel
theorem dX4_age_3 : decode cX4_age 3 = .ok (.aload_n 0, 1) := by decide +kernel
theorem dX4_age_4 : decode cX4_age 4 = .ok (.getfield 78, 3) := by decide +kernel
theorem dX4_age_7 : decode cX4_age 7 = .ok (.iload_n 1, 1) := by decide +kernel
theorem dX4_age_8 : decode cX4_age 8 = .ok (.iaload, 1) := by decide +kernel
theorem dX4_age_9 : decode cX4_age 9 = .ok (.if_icmp .ge 97, 3) := by decide +kernel
theorem dX4_age_12 : decode cX4_age 12 = .ok (.aload_n 0, 1) := by decide +kernel
theorem dX4_age_13 : decode cX4_age 13 = .ok (.getfield 81, 3) := by decide +kernel
theorem dX4_age_16 : decode cX4_age 16 = .ok (.bipush 6, 2) := by decide +kernel
theorem dX4_age_18 : decode cX4_age 18 = .ok (.iload_n 1, 1) := by decide +kernel
theorem dX4_age_19 : decode cX4_age 19 = .ok (.imul, 1) := by decide +kernel
theorem dX4_age_20 : decode cX4_age 20 = .ok (.iload_n 2, 1) := by decide +kernel
theorem dX4_age_21 : decode cX4_age 21 = .ok (.iadd, 1) := by decide +kernel
theorem dX4_age_22 : decode cX4_age 22 = .ok (.iaload, 1) := by decide +kernel
theorem dX4_age_23 : decode cX4_age 23 = .ok (.istore_n 3, 1) := by decide +kernel
theorem dX4_age_24 : decode cX4_age 24 = .ok (.aload_n 0, 1) := by decide +kernel
theorem dX4_age_25 : decode cX4_age 25 = .ok (.getfield 35, 3) := by decide +kernel
theorem dX4_age_28 : decode cX4_age 28 = .ok (.iload_n 3, 1) := by decide +kernel
theorem dX4_age_29 : decode cX4_age 29 = .ok (.aload_n 0, 1) := by decide +kernel
theorem dX4_age_30 : decode cX4_age 30 = .ok (.getfield 35, 3) := by decide +kernel
theorem dX4_age_33 : decode cX4_age 33 = .ok (.iload_n 3, 1) := by decide +kernel
theorem dX4_age_34 : decode cX4_age 34 = .ok (.iaload, 1) := by decide +kernel
theorem dX4_age_35 : decode cX4_age 35 = .ok (.iconst 1, 1) := by decide +kernel
theorem dX4_age_36 : decode cX4_age 36 = .ok (.iadd, 1) := by decide +kernel
theorem dX4_age_37 : decode cX4_age 37 = .ok (.iastore, 1) := by decide +kernel
theorem dX4_age_38 : decode cX4_age 38 = .ok (.aload_n 0, 1) := by decide +kernel
theorem dX4_age_39 : decode cX4_age 39 = .ok (.getfield 23, 3) := by decide +kernel
theorem dX4_age_42 : decode cX4_age 42 = .ok (.iload_n 3, 1) := by decide +kernel
theorem dX4_age_43 : decode cX4_age 43 = .ok (.aload_n 0, 1) := by decide +kernel
theorem dX4_age_44 : decode cX4_age 44 = .ok (.getfield 23, 3) := by decide +kernel
theorem dX4_age_47 : decode cX4_age 47 = .ok (.iload_n 3, 1) := by decide +kernel
theorem dX4_age_48 : decode cX4_age 48 = .ok (.iaload, 1) := by decide +kernel
theorem dX4_age_49 : decode cX4_age 49 = .ok (.iconst 1, 1) := by decide +kernel
theorem dX4_age_50 : decode cX4_age 50 = .ok (.iadd, 1) := by decide +kernel
theorem dX4_age_51 : decode cX4_age 51 = .ok (.iastore, 1) := by decide +kernel
theorem dX4_age_52 : decode cX4_age 52 = .ok (.aload_n 0, 1) := by decide +kernel
theorem dX4_age_53 : decode cX4_age 53 = .ok (.getfield 23, 3) := by decide +kernel
theorem dX4_age_56 : decode cX4_age 56 = .ok (.iload_n 3, 1) := by decide +kernel
theorem dX4_age_57 : decode cX4_age 57 = .ok (.iaload, 1) := by decide +kernel
theorem dX4_age_58 : decode cX4_age 58 = .ok (.aload_n 0, 1) := by decide +kernel
theorem dX4_age_59 : decode cX4_age 59 = .ok (.getfield 90, 3) := by decide +kernel
theorem dX4_age_62 : decode cX4_age 62 = .ok (.iload_n 1, 1) := by decide +kernel
theorem dX4_age_63 : decode cX4_age 63 = .ok (.iaload, 1) := by decide +kernel
theorem dX4_age_64 : decode cX4_age 64 = .ok (.if_icmp .ne 36, 3) := by decide +kernel
theorem dX4_age_67 : decode cX4_age 67 = .ok (.aload_n 0, 1) := by decide +kernel
theorem dX4_age_68 : decode cX4_age 68 = .ok (.getfield 23, 3) := by decide +kernel
theorem dX4_age_71 : decode cX4_age 71 = .ok (.iload_n 3, 1) := by decide +kernel
theorem dX4_age_72 : decode cX4_age 72 = .ok (.iconst 0, 1) := by decide +kernel
theorem dX4_age_73 : decode cX4_age 73 = .ok (.iastore, 1) := by decide +kernel
theorem dX4_age_74 : decode cX4_age 74 = .ok (.aload_n 0, 1) := by decide +kernel
theorem dX4_age_75 : decode cX4_age 75 = .ok (.getfield 26, 3) := by decide +kernel
theorem dX4_age_78 : decode cX4_age 78 = .ok (.iload_n 3, 1) := by decide +kernel
theorem dX4_age_79 : decode cX4_age 79 = .ok (.aload_n 0, 1) := by decide +kernel
theorem dX4_age_80 : decode cX4_age 80 = .ok (.getfield 26, 3) := by decide +kernel
theorem dX4_age_83 : decode cX4_age 83 = .ok (.iload_n 3, 1) := by decide +kernel
theorem dX4_age_84 : decode cX4_age 84 = .ok (.iaload, 1) := by decide +kernel
theorem dX4_age_85 : decode cX4_age 85 = .ok (.iconst 1, 1) := by decide +kernel
theorem dX4_age_86 : decode cX4_age 86 = .ok (.iadd, 1) := by decide +kernel
theorem dX4_age_87 : decode cX4_age 87 = .ok (.iastore, 1) := by decide +kernel
theorem dX4_age_88 : decode cX4_age 88 = .ok (.aload_n 0, 1) := by decide +kernel
theorem dX4_age_89 : decode cX4_age 89 = .ok (.getfield 26, 3) := by decide +kernel
theorem dX4_age_92 : decode cX4_age 92 = .ok (.iload_n 3, 1) := by decide +kernel
theorem dX4_age_93 : decode cX4_age 93 = .ok (.iaload, 1) := by decide +kernel
theorem dX4_age_94 : decode cX4_age 94 = .ok (.iconst 2, 1) := by decide +kernel
theorem dX4_age_95 : decode cX4_age 95 = .ok (.if_icmp .ne 5, 3) := by decide +kernel
theorem dX4_age_98 : decode cX4_age 98 = .ok (.iconst 1, 1) := by decide +kernel
theorem dX4_age_99 : decode cX4_age 99 = .ok (.ireturn, 1) := by decide +kernel
theorem dX4_age_100 : decode cX4_age 100 = .ok (.iinc 2 1, 3) := by decide +kernel
theorem dX4_age_103 : decode cX4_age 103 = .ok (.goto (-101), 3) := by decide +kernel
theorem dX4_age_106 : decode cX4_age 106 = .ok (.iconst 0, 1) := by decide +kernel
theorem dX4_age_107 : decode cX4_age 107 = .ok (.ireturn, 1) := by decide +kernel
theorem dX4_arrive_0 : decode cX4_arrive 0 = .ok (.aload_n 0, 1) := by decide +kernel
theorem dX4_arrive_1 : decode cX4_arrive 1 = .ok (.iload_n 1, 1) := by decide +kernel
theorem dX4_arrive_2 : decode cX4_arrive 2 = .ok (.invokevirtual 146, 3) := by decide +kernel
theorem dX4_arrive_5 : decode cX4_arrive 5 = .ok (.istore_n 2, 1) := by decide +kernel
theorem dX4_arrive_6 : decode cX4_arrive 6 = .ok (.aload_n 0, 1) := by decide +kernel
theorem dX4_arrive_7 : decode cX4_arrive 7 = .ok (.getfield 93, 3) := by decide +kernel
theorem dX4_arrive_10 : decode cX4_arrive 10 = .ok (.iload_n 1, 1) := by decide +kernel
theorem dX4_arrive_11 : decode cX4_arrive 11 = .ok (.aload_n 0, 1) := by decide +kernel
theorem dX4_arrive_12 : decode cX4_arrive 12 = .ok (.getfield 93, 3) := by decide +kernel
theorem dX4_arrive_15 : decode cX4_arrive 15 = .ok (.iload_n 1, 1) := by decide +kernel
theorem dX4_arrive_16 : decode cX4_arrive 16 = .ok (.iaload, 1) := by decide +kernel
theorem dX4_arrive_17 : decode cX4_arrive 17 = .ok (.iconst 1, 1) := by decide +kernel
theorem dX4_arrive_18 : decode cX4_arrive 18 = .ok (.iadd, 1) := by decide +kernel
theorem dX4_arrive_19 : decode cX4_arrive 19 = .ok (.aload_n 0, 1) := by decide +kernel
theorem dX4_arrive_20 : decode cX4_arrive 20 = .ok (.getfield 78, 3) := by decide +kernel
theorem dX4_arrive_23 : decode cX4_arrive 23 = .ok (.iload_n 1, 1) := by decide +kernel
theorem dX4_arrive_24 : decode cX4_arrive 24 = .ok (.iaload, 1) := by decide +kernel
theorem dX4_arrive_25 : decode cX4_arrive 25 = .ok (.irem, 1) := by decide +kernel
theorem dX4_arrive_26 : decode cX4_arrive 26 = .ok (.iastore, 1) := by decide +kernel
theorem dX4_arrive_27 : decode cX4_arrive 27 = .ok (.aload_n 0, 1) := by decide +kernel
theorem dX4_arrive_28 : decode cX4_arrive 28 = .ok (.iload_n 1, 1) := by decide +kernel
theorem dX4_arrive_29 : decode cX4_arrive 29 = .ok (.invokevirtual 146, 3) := by decide +kernel
theorem dX4_arrive_32 : decode cX4_arrive 32 = .ok (.istore_n 3, 1) := by decide +kernel
theorem dX4_arrive_33 : decode cX4_arrive 33 = .ok (.aload_n 0, 1) := by decide +kernel
theorem dX4_arrive_34 : decode cX4_arrive 34 = .ok (.getfield 44, 3) := by decide +kernel
theorem dX4_arrive_37 : decode cX4_arrive 37 = .ok (.iload_n 3, 1) := by decide +kernel
theorem dX4_arrive_38 : decode cX4_arrive 38 = .ok (.iload_n 2, 1) := by decide +kernel
theorem dX4_arrive_39 : decode cX4_arrive 39 = .ok (.iastore, 1) := by decide +kernel
theorem dX4_arrive_40 : decode cX4_arrive 40 = .ok (.aload_n 0, 1) := by decide +kernel
theorem dX4_arrive_41 : decode cX4_arrive 41 = .ok (.getfield 62, 3) := by decide +kernel
theorem dX4_arrive_44 : decode cX4_arrive 44 = .ok (.iload_n 3, 1) := by decide +kernel
theorem dX4_arrive_45 : decode cX4_arrive 45 = .ok (.aload_n 0, 1) := by decide +kernel
theorem dX4_arrive_46 : decode cX4_arrive 46 = .ok (.getfield 62, 3) := by decide +kernel
theorem dX4_arrive_49 : decode cX4_arrive 49 = .ok (.iload_n 3, 1) := by decide +kernel
theorem dX4_arrive_50 : decode cX4_arrive 50 = .ok (.faload, 1) := by decide +kernel
theorem dX4_arrive_51 : decode cX4_arrive 51 = .ok (.aload_n 0, 1) := by decide +kernel
theorem dX4_arrive_52 : decode cX4_arrive 52 = .ok (.getfield 35, 3) := by decide +kernel
theorem dX4_arrive_55 : decode cX4_arrive 55 = .ok (.iload_n 3, 1) := by decide +kernel
theorem dX4_arrive_56 : decode cX4_arrive 56 = .ok (.iaload, 1) := by decide +kernel
theorem dX4_arrive_57 : decode cX4_arrive 57 = .ok (.i2f, 1) := by decide +kernel
theorem dX4_arrive_58 : decode cX4_arrive 58 = .ok (.aload_n 0, 1) := by decide +kernel
theorem dX4_arrive_59 : decode cX4_arrive 59 = .ok (.getfield 62, 3) := by decide +kernel
theorem dX4_arrive_62 : decode cX4_arrive 62 = .ok (.iload_n 3, 1) := by decide +kernel
theorem dX4_arrive_63 : decode cX4_arrive 63 = .ok (.faload, 1) := by decide +kernel
theorem dX4_arrive_64 : decode cX4_arrive 64 = .ok (.fsub, 1) := by decide +kernel
theorem dX4_arrive_65 : decode cX4_arrive 65 = .ok (.ldc 149, 2) := by decide +kernel
theorem dX4_arrive_67 : decode cX4_arrive 67 = .ok (.fmul, 1) := by decide +kernel
theorem dX4_arrive_68 : decode cX4_arrive 68 = .ok (.fadd, 1) := by decide +kernel
theorem dX4_arrive_69 : decode cX4_arrive 69 = .ok (.fastore, 1) := by decide +kernel
theorem dX4_arrive_70 : decode cX4_arrive 70 = .ok (.aload_n 0, 1) := by decide +kernel
theorem dX4_arrive_71 : decode cX4_arrive 71 = .ok (.aload_n 0, 1) := by decide +kernel
theorem dX4_arrive_72 : decode cX4_arrive 72 = .ok (.getfield 41, 3) := by decide +kernel
theorem dX4_arrive_75 : decode cX4_arrive 75 = .ok (.iload_n 3, 1) := by decide +kernel
theorem dX4_arrive_76 : decode cX4_arrive 76 = .ok (.baload, 1) := by decide +kernel
theorem dX4_arrive_77 : decode cX4_arrive 77 = .ok (.ifCond .eq 25, 3) := by decide +kernel
theorem dX4_arrive_80 : decode cX4_arrive 80 = .ok (.aload_n 0, 1) := by decide +kernel
theorem dX4_arrive_81 : decode cX4_arrive 81 = .ok (.getfield 35, 3) := by decide +kernel
theorem dX4_arrive_84 : decode cX4_arrive 84 = .ok (.iload_n 3, 1) := by decide +kernel
theorem dX4_arrive_85 : decode cX4_arrive 85 = .ok (.iaload, 1) := by decide +kernel
theorem dX4_arrive_86 : decode cX4_arrive 86 = .ok (.aload_n 0, 1) := by decide +kernel
theorem dX4_arrive_87 : decode cX4_arrive 87 = .ok (.getfield 150, 3) := by decide +kernel
theorem dX4_arrive_90 : decode cX4_arrive 90 = .ok (.if_icmp .le 12, 3) := by decide +kernel
theorem dX4_arrive_93 : decode cX4_arrive 93 = .ok (.aload_n 0, 1) := by decide +kernel
theorem dX4_arrive_94 : decode cX4_arrive 94 = .ok (.getfield 35, 3) := by decide +kernel
theorem dX4_arrive_97 : decode cX4_arrive 97 = .ok (.iload_n 3, 1) := by decide +kernel
theorem dX4_arrive_98 : decode cX4_arrive 98 = .ok (.iaload, 1) := by decide +kernel
theorem dX4_arrive_99 : decode cX4_arrive 99 = .ok (.goto 7, 3) := by decide +kernel
theorem dX4_arrive_102 : decode cX4_arrive 102 = .ok (.aload_n 0, 1) := by decide +kernel
theorem dX4_arrive_103 : decode cX4_arrive 103 = .ok (.getfield 150, 3) := by decide +kernel
theorem dX4_arrive_106 : decode cX4_arrive 106 = .ok (.putfield 150, 3) := by decide +kernel
theorem dX4_arrive_109 : decode cX4_arrive 109 = .ok (.aload_n 0, 1) := by decide +kernel
theorem dX4_arrive_110 : decode cX4_arrive 110 = .ok (.getfield 41, 3) := by decide +kernel
theorem dX4_arrive_113 : decode cX4_arrive 113 = .ok (.iload_n 3, 1) := by decide +kernel
theorem dX4_arrive_114 : decode cX4_arrive 114 = .ok (.iconst 1, 1) := by decide +kernel
theorem dX4_arrive_115 : decode cX4_arrive 115 = .ok (.bastore, 1) := by decide +kernel
theorem dX4_arrive_116 : decode cX4_arrive 116 = .ok (.aload_n 0, 1) := by decide +kernel
theorem dX4_arrive_117 : decode cX4_arrive 117 = .ok (.getfield 35, 3) := by decide +kernel
theorem dX4_arrive_120 : decode cX4_arrive 120 = .ok (.iload_n 3, 1) := by decide +kernel
theorem dX4_arrive_121 : decode cX4_arrive 121 = .ok (.iconst 0, 1) := by decide +kernel
theorem dX4_arrive_122 : decode cX4_arrive 122 = .ok (.iastore, 1) := by decide +kernel
theorem dX4_arrive_123 : decode cX4_arrive 123 = .ok (.aload_n 0, 1) := by decide +kernel
theorem dX4_arrive_124 : decode cX4_arrive 124 = .ok (.getfield 29, 3) := by decide +kernel
theorem dX4_arrive_127 : decode cX4_arrive 127 = .ok (.iload_n 3, 1) := by decide +kernel
theorem dX4_arrive_128 : decode cX4_arrive 128 = .ok (.aload_n 0, 1) := by decide +kernel
theorem dX4_arrive_129 : decode cX4_arrive 129 = .ok (.getfield 26, 3) := by decide +kernel
theorem dX4_arrive_132 : decode cX4_arrive 132 = .ok (.iload_n 3, 1) := by decide +kernel
theorem dX4_arrive_133 : decode cX4_arrive 133 = .ok (.iaload, 1) := by decide +kernel
theorem dX4_arrive_134 : decode cX4_arrive 134 = .ok (.ifCond .ne 19, 3) := by decide +kernel
theorem dX4_arrive_137 : decode cX4_arrive 137 = .ok (.aload_n 0, 1) := by decide +kernel
theorem dX4_arrive_138 : decode cX4_arrive 138 = .ok (.getfield 90, 3) := by decide +kernel
theorem dX4_arrive_141 : decode cX4_arrive 141 = .ok (.iload_n 1, 1) := by decide +kernel
theorem dX4_arrive_142 : decode cX4_arrive 142 = .ok (.iaload, 1) := by decide +kernel
theorem dX4_arrive_143 : decode cX4_arrive 143 = .ok (.aload_n 0, 1) := by decide +kernel
theorem dX4_arrive_144 : decode cX4_arrive 144 = .ok (.getfield 23, 3) := by decide +kernel
theorem dX4_arrive_147 : decode cX4_arrive 147 = .ok (.iload_n 3, 1) := by decide +kernel
theorem dX4_arrive_148 : decode cX4_arrive 148 = .ok (.iaload, 1) := by decide +kernel
theorem dX4_arrive_149 : decode cX4_arrive 149 = .ok (.isub, 1) := by decide +kernel
theorem dX4_arrive_150 : decode cX4_arrive 150 = .ok (.goto 4, 3) := by decide +kernel
theorem dX4_arrive_153 : decode cX4_arrive 153 = .ok (.iconst 0, 1) := by decide +kernel
theorem dX4_arrive_154 : decode cX4_arrive 154 = .ok (.iastore, 1) := by decide +kernel
theorem dX4_arrive_155 : decode cX4_arrive 155 = .ok (.aload_n 0, 1) := by decide +kernel
theorem dX4_arrive_156 : decode cX4_arrive 156 = .ok (.getfield 23, 3) := by decide +kernel
theorem dX4_arrive_159 : decode cX4_arrive 159 = .ok (.iload_n 3, 1) := by decide +kernel
theorem dX4_arrive_160 : decode cX4_arrive 160 = .ok (.aload_n 0, 1) := by decide +kernel
theorem dX4_arrive_161 : decode cX4_arrive 161 = .ok (.getfield 26, 3) := by decide +kernel
theorem dX4_arrive_164 : decode cX4_arrive 164 = .ok (.iload_n 3, 1) := by decide +kernel
theorem dX4_arrive_165 : decode cX4_arrive 165 = .ok (.iaload, 1) := by decide +kernel
theorem dX4_arrive_166 : decode cX4_arrive 166 = .ok (.ifCond .ne 7, 3) := by decide +kernel
theorem dX4_arrive_169 : decode cX4_arrive 169 = .ok (.iconst 0, 1) := by decide +kernel
theorem dX4_arrive_170 : decode cX4_arrive 170 = .ok (.goto 9, 3) := by decide +kernel
theorem dX4_arrive_173 : decode cX4_arrive 173 = .ok (.aload_n 0, 1) := by decide +kernel
theorem dX4_arrive_174 : decode cX4_arrive 174 = .ok (.getfield 23, 3) := by decide +kernel
theorem dX4_arrive_177 : decode cX4_arrive 177 = .ok (.iload_n 3, 1) := by decide +kernel
theorem dX4_arrive_178 : decode cX4_arrive 178 = .ok (.iaload, 1) := by decide +kernel
theorem dX4_arrive_179 : decode cX4_arrive 179 = .ok (.iastore, 1) := by decide +kernel
theorem dX4_arrive_180 : decode cX4_arrive 180 = .ok (.aload_n 0, 1) := by decide +kernel
theorem dX4_arrive_181 : decode cX4_arrive 181 = .ok (.getfield 26, 3) := by decide +kernel
theorem dX4_arrive_184 : decode cX4_arrive 184 = .ok (.iload_n 3, 1) := by decide +kernel
theorem dX4_arrive_185 : decode cX4_arrive 185 = .ok (.iconst 0, 1) := by decide +kernel
theorem dX4_arrive_186 : decode cX4_arrive 186 = .ok (.iastore, 1) := by decide +kernel
theorem dX4_arrive_187 : decode cX4_arrive 187 = .ok (.aload_n 0, 1) := by decide +kernel
theorem dX4_arrive_188 : decode cX4_arrive 188 = .ok (.getfield 32, 3) := by decide +kernel
theorem dX4_arrive_191 : decode cX4_arrive 191 = .ok (.iload_n 3, 1) := by decide +kernel
theorem dX4_arrive_192 : decode cX4_arrive 192 = .ok (.aload_n 0, 1) := by decide +kernel
theorem dX4_arrive_193 : decode cX4_arrive 193 = .ok (.getfield 20, 3) := by decide +kernel
theorem dX4_arrive_196 : decode cX4_arrive 196 = .ok (.iload_n 3, 1) := by decide +kernel
theorem dX4_arrive_197 : decode cX4_arrive 197 = .ok (.iaload, 1) := by decide +kernel
theorem dX4_arrive_198 : decode cX4_arrive 198 = .ok (.iastore, 1) := by decide +kernel
theorem dX4_arrive_199 : decode cX4_arrive 199 = .ok (.aload_n 0, 1) := by decide +kernel
theorem dX4_arrive_200 : decode cX4_arrive 200 = .ok (.getfield 38, 3) := by decide +kernel
theorem dX4_arrive_203 : decode cX4_arrive 203 = .ok (.iload_n 3, 1) := by decide +kernel
theorem dX4_arrive_204 : decode cX4_arrive 204 = .ok (.iconst 0, 1) := by decide +kernel
theorem dX4_arrive_205 : decode cX4_arrive 205 = .ok (.bastore, 1) := by decide +kernel
theorem dX4_arrive_206 : decode cX4_arrive 206 = .ok (.return_, 1) := by decide +kernel
theorem dX4_finish_0 : decode cX4_finish 0 = .ok (.aload_n 0, 1) := by decide +kernel
theorem dX4_finish_1 : decode cX4_finish 1 = .ok (.iload_n 1, 1) := by decide +kernel
theorem dX4_finish_2 : decode cX4_finish 2 = .ok (.invokevirtual 146, 3) := by decide +kernel
theorem dX4_finish_5 : decode cX4_finish 5 = .ok (.istore_n 2, 1) := by decide +kernel
theorem dX4_finish_6 : decode cX4_finish 6 = .ok (.iconst 5, 1) := by decide +kernel
theorem dX4_finish_7 : decode cX4_finish 7 = .ok (.aload_n 0, 1) := by decide +kernel
theorem dX4_finish_8 : decode cX4_finish 8 = .ok (.getfield 99, 3) := by decide +kernel
theorem dX4_finish_11 : decode cX4_finish 11 = .ok (.iload_n 1, 1) := by decide +kernel
theorem dX4_finish_12 : decode cX4_finish 12 = .ok (.iaload, 1) := by decide +kernel
theorem dX4_finish_13 : decode cX4_finish 13 = .ok (.imul, 1) := by decide +kernel
theorem dX4_finish_14 : decode cX4_finish 14 = .ok (.istore_n 3, 1) := by decide +kernel
theorem dX4_finish_15 : decode cX4_finish 15 = .ok (.aload_n 0, 1) := by decide +kernel
theorem dX4_finish_16 : decode cX4_finish 16 = .ok (.getfield 69, 3) := by decide +kernel
theorem dX4_finish_19 : decode cX4_finish 19 = .ok (.iload_n 3, 1) := by decide +kernel
theorem dX4_finish_20 : decode cX4_finish 20 = .ok (.iaload, 1) := by decide +kernel
theorem dX4_finish_21 : decode cX4_finish 21 = .ok (.istore 4, 2) := by decide +kernel
theorem dX4_finish_23 : decode cX4_finish 23 = .ok (.aload_n 0, 1) := by decide +kernel
theorem dX4_finish_24 : decode cX4_finish 24 = .ok (.getfield 72, 3) := by decide +kernel
theorem dX4_finish_27 : decode cX4_finish 27 = .ok (.iload_n 3, 1) := by decide +kernel
theorem dX4_finish_28 : decode cX4_finish 28 = .ok (.iaload, 1) := by decide +kernel
theorem dX4_finish_29 : decode cX4_finish 29 = .ok (.istore 5, 2) := by decide +kernel
theorem dX4_finish_31 : decode cX4_finish 31 = .ok (.aload_n 0, 1) := by decide +kernel
theorem dX4_finish_32 : decode cX4_finish 32 = .ok (.iload_n 1, 1) := by decide +kernel
theorem dX4_finish_33 : decode cX4_finish 33 = .ok (.invokevirtual 126, 3) := by decide +kernel
theorem dX4_finish_36 : decode cX4_finish 36 = .ok (.aload_n 0, 1) := by decide +kernel
theorem dX4_finish_37 : decode cX4_finish 37 = .ok (.getfield 56, 3) := by decide +kernel
theorem dX4_finish_40 : decode cX4_finish 40 = .ok (.iload_n 2, 1) := by decide +kernel
theorem dX4_finish_41 : decode cX4_finish 41 = .ok (.aload_n 0, 1) := by decide +kernel
theorem dX4_finish_42 : decode cX4_finish 42 = .ok (.getfield 56, 3) := by decide +kernel
theorem dX4_finish_45 : decode cX4_finish 45 = .ok (.iload_n 2, 1) := by decide +kernel
theorem dX4_finish_46 : decode cX4_finish 46 = .ok (.iaload, 1) := by decide +kernel
theorem dX4_finish_47 : decode cX4_finish 47 = .ok (.iload 5, 2) := by decide +kernel
theorem dX4_finish_49 : decode cX4_finish 49 = .ok (.iadd, 1) := by decide +kernel
theorem dX4_finish_50 : decode cX4_finish 50 = .ok (.iastore, 1) := by decide +kernel
theorem dX4_finish_51 : decode cX4_finish 51 = .ok (.aload_n 0, 1) := by decide +kernel
theorem dX4_finish_52 : decode cX4_finish 52 = .ok (.getfield 105, 3) := by decide +kernel
theorem dX4_finish_55 : decode cX4_finish 55 = .ok (.iload 4, 2) := by decide +kernel
theorem dX4_finish_57 : decode cX4_finish 57 = .ok (.iaload, 1) := by decide +kernel
theorem dX4_finish_58 : decode cX4_finish 58 = .ok (.iload_n 1, 1) := by decide +kernel
theorem dX4_finish_59 : decode cX4_finish 59 = .ok (.if_icmp .ne 47, 3) := by decide +kernel
theorem dX4_finish_62 : decode cX4_finish 62 = .ok (.aload_n 0, 1) := by decide +kernel
theorem dX4_finish_63 : decode cX4_finish 63 = .ok (.getfield 47, 3) := by decide +kernel
theorem dX4_finish_66 : decode cX4_finish 66 = .ok (.iload 4, 2) := by decide +kernel
theorem dX4_finish_68 : decode cX4_finish 68 = .ok (.aload_n 0, 1) := by decide +kernel
theorem dX4_finish_69 : decode cX4_finish 69 = .ok (.getfield 47, 3) := by decide +kernel
theorem dX4_finish_72 : decode cX4_finish 72 = .ok (.iload 4, 2) := by decide +kernel
theorem dX4_finish_74 : decode cX4_finish 74 = .ok (.iaload, 1) := by decide +kernel
theorem dX4_finish_75 : decode cX4_finish 75 = .ok (.iconst 1, 1) := by decide +kernel
theorem dX4_finish_76 : decode cX4_finish 76 = .ok (.iadd, 1) := by decide +kernel
theorem dX4_finish_77 : decode cX4_finish 77 = .ok (.iastore, 1) := by decide +kernel
theorem dX4_finish_78 : decode cX4_finish 78 = .ok (.aload_n 0, 1) := by decide +kernel
theorem dX4_finish_79 : decode cX4_finish 79 = .ok (.getfield 50, 3) := by decide +kernel
theorem dX4_finish_82 : decode cX4_finish 82 = .ok (.iload 4, 2) := by decide +kernel
theorem dX4_finish_84 : decode cX4_finish 84 = .ok (.aload_n 0, 1) := by decide +kernel
theorem dX4_finish_85 : decode cX4_finish 85 = .ok (.getfield 50, 3) := by decide +kernel
theorem dX4_finish_88 : decode cX4_finish 88 = .ok (.iload 4, 2) := by decide +kernel
theorem dX4_finish_90 : decode cX4_finish 90 = .ok (.iaload, 1) := by decide +kernel
theorem dX4_finish_91 : decode cX4_finish 91 = .ok (.iload 5, 2) := by decide +kernel
theorem dX4_finish_93 : decode cX4_finish 93 = .ok (.iadd, 1) := by decide +kernel
theorem dX4_finish_94 : decode cX4_finish 94 = .ok (.iastore, 1) := by decide +kernel
theorem dX4_finish_95 : decode cX4_finish 95 = .ok (.aload_n 0, 1) := by decide +kernel
theorem dX4_finish_96 : decode cX4_finish 96 = .ok (.getfield 53, 3) := by decide +kernel
theorem dX4_finish_99 : decode cX4_finish 99 = .ok (.iload 4, 2) := by decide +kernel
theorem dX4_finish_101 : decode cX4_finish 101 = .ok (.iload_n 2, 1) := by decide +kernel
theorem dX4_finish_102 : decode cX4_finish 102 = .ok (.iastore, 1) := by decide +kernel
theorem dX4_finish_103 : decode cX4_finish 103 = .ok (.goto 17, 3) := by decide +kernel
theorem dX4_finish_106 : decode cX4_finish 106 = .ok (.aload_n 0, 1) := by decide +kernel
theorem dX4_finish_107 : decode cX4_finish 107 = .ok (.getfield 59, 3) := by decide +kernel
theorem dX4_finish_110 : decode cX4_finish 110 = .ok (.iload_n 2, 1) := by decide +kernel
theorem dX4_finish_111 : decode cX4_finish 111 = .ok (.aload_n 0, 1) := by decide +kernel
theorem dX4_finish_112 : decode cX4_finish 112 = .ok (.getfield 59, 3) := by decide +kernel
theorem dX4_finish_115 : decode cX4_finish 115 = .ok (.iload_n 2, 1) := by decide +kernel
theorem dX4_finish_116 : decode cX4_finish 116 = .ok (.iaload, 1) := by decide +kernel
theorem dX4_finish_117 : decode cX4_finish 117 = .ok (.iconst 1, 1) := by decide +kernel
theorem dX4_finish_118 : decode cX4_finish 118 = .ok (.iadd, 1) := by decide +kernel
theorem dX4_finish_119 : decode cX4_finish 119 = .ok (.iastore, 1) := by decide +kernel
theorem dX4_finish_120 : decode cX4_finish 120 = .ok (.return_, 1) := by decide +kernel
theorem dX4_begin_0 : decode cX4_begin 0 = .ok (.aload_n 0, 1) := by decide +kernel
theorem dX4_begin_1 : decode cX4_begin 1 = .ok (.iload_n 1, 1) := by decide +kernel
theorem dX4_begin_2 : decode cX4_begin 2 = .ok (.invokevirtual 146, 3) := by decide +kernel
theorem dX4_begin_5 : decode cX4_begin 5 = .ok (.istore_n 2, 1) := by decide +kernel
theorem dX4_begin_6 : decode cX4_begin 6 = .ok (.iconst 2, 1) := by decide +kernel
theorem dX4_begin_7 : decode cX4_begin 7 = .ok (.iload_n 2, 1) := by decide +kernel
theorem dX4_begin_8 : decode cX4_begin 8 = .ok (.imul, 1) := by decide +kernel
theorem dX4_begin_9 : decode cX4_begin 9 = .ok (.istore_n 3, 1) := by decide +kernel
theorem dX4_begin_10 : decode cX4_begin 10 = .ok (.iconst 2, 1) := by decide +kernel
theorem dX4_begin_11 : decode cX4_begin 11 = .ok (.iload_n 2, 1) := by decide +kernel
theorem dX4_begin_12 : decode cX4_begin 12 = .ok (.imul, 1) := by decide +kernel
theorem dX4_begin_13 : decode cX4_begin 13 = .ok (.iconst 1, 1) := by decide +kernel
theorem dX4_begin_14 : decode cX4_begin 14 = .ok (.iadd, 1) := by decide +kernel
theorem dX4_begin_15 : decode cX4_begin 15 = .ok (.istore 4, 2) := by decide +kernel
theorem dX4_begin_17 : decode cX4_begin 17 = .ok (.aload_n 0, 1) := by decide +kernel
theorem dX4_begin_18 : decode cX4_begin 18 = .ok (.getfield 38, 3) := by decide +kernel
theorem dX4_begin_21 : decode cX4_begin 21 = .ok (.iload_n 2, 1) := by decide +kernel
theorem dX4_begin_22 : decode cX4_begin 22 = .ok (.baload, 1) := by decide +kernel
theorem dX4_begin_23 : decode cX4_begin 23 = .ok (.ifCond .ne 74, 3) := by decide +kernel
theorem dX4_begin_26 : decode cX4_begin 26 = .ok (.aload_n 0, 1) := by decide +kernel
theorem dX4_begin_27 : decode cX4_begin 27 = .ok (.getfield 66, 3) := by decide +kernel
theorem dX4_begin_30 : decode cX4_begin 30 = .ok (.iload_n 3, 1) := by decide +kernel
theorem dX4_begin_31 : decode cX4_begin 31 = .ok (.iaload, 1) := by decide +kernel
theorem dX4_begin_32 : decode cX4_begin 32 = .ok (.ifCond .le 65, 3) := by decide +kernel
theorem dX4_begin_35 : decode cX4_begin 35 = .ok (.aload_n 0, 1) := by decide +kernel
theorem dX4_begin_36 : decode cX4_begin 36 = .ok (.getfield 72, 3) := by decide +kernel
theorem dX4_begin_39 : decode cX4_begin 39 = .ok (.iconst 5, 1) := by decide +kernel
theorem dX4_begin_40 : decode cX4_begin 40 = .ok (.iload_n 3, 1) := by decide +kernel
theorem dX4_begin_41 : decode cX4_begin 41 = .ok (.imul, 1) := by decide +kernel
theorem dX4_begin_42 : decode cX4_begin 42 = .ok (.iaload, 1) := by decide +kernel
theorem dX4_begin_43 : decode cX4_begin 43 = .ok (.aload_n 0, 1) := by decide +kernel
theorem dX4_begin_44 : decode cX4_begin 44 = .ok (.getfield 32, 3) := by decide +kernel
theorem dX4_begin_47 : decode cX4_begin 47 = .ok (.iload_n 2, 1) := by decide +kernel
theorem dX4_begin_48 : decode cX4_begin 48 = .ok (.iaload, 1) := by decide +kernel
theorem dX4_begin_49 : decode cX4_begin 49 = .ok (.if_icmp .gt 48, 3) := by decide +kernel
theorem dX4_begin_52 : decode cX4_begin 52 = .ok (.aload_n 0, 1) := by decide +kernel
theorem dX4_begin_53 : decode cX4_begin 53 = .ok (.getfield 32, 3) := by decide +kernel
theorem dX4_begin_56 : decode cX4_begin 56 = .ok (.iload_n 2, 1) := by decide +kernel
theorem dX4_begin_57 : decode cX4_begin 57 = .ok (.aload_n 0, 1) := by decide +kernel
theorem dX4_begin_58 : decode cX4_begin 58 = .ok (.getfield 32, 3) := by decide +kernel
theorem dX4_begin_61 : decode cX4_begin 61 = .ok (.iload_n 2, 1) := by decide +kernel
theorem dX4_begin_62 : decode cX4_begin 62 = .ok (.iaload, 1) := by decide +kernel
theorem dX4_begin_63 : decode cX4_begin 63 = .ok (.aload_n 0, 1) := by decide +kernel
theorem dX4_begin_64 : decode cX4_begin 64 = .ok (.getfield 72, 3) := by decide +kernel
theorem dX4_begin_67 : decode cX4_begin 67 = .ok (.iconst 5, 1) := by decide +kernel
theorem dX4_begin_68 : decode cX4_begin 68 = .ok (.iload_n 3, 1) := by decide +kernel
theorem dX4_begin_69 : decode cX4_begin 69 = .ok (.imul, 1) := by decide +kernel
theorem dX4_begin_70 : decode cX4_begin 70 = .ok (.iaload, 1) := by decide +kernel
theorem dX4_begin_71 : decode cX4_begin 71 = .ok (.isub, 1) := by decide +kernel
theorem dX4_begin_72 : decode cX4_begin 72 = .ok (.iastore, 1) := by decide +kernel
theorem dX4_begin_73 : decode cX4_begin 73 = .ok (.aload_n 0, 1) := by decide +kernel
theorem dX4_begin_74 : decode cX4_begin 74 = .ok (.getfield 99, 3) := by decide +kernel
theorem dX4_begin_77 : decode cX4_begin 77 = .ok (.iload_n 1, 1) := by decide +kernel
theorem dX4_begin_78 : decode cX4_begin 78 = .ok (.iload_n 3, 1) := by decide +kernel
theorem dX4_begin_79 : decode cX4_begin 79 = .ok (.iastore, 1) := by decide +kernel
theorem dX4_begin_80 : decode cX4_begin 80 = .ok (.aload_n 0, 1) := by decide +kernel
theorem dX4_begin_81 : decode cX4_begin 81 = .ok (.getfield 102, 3) := by decide +kernel
theorem dX4_begin_84 : decode cX4_begin 84 = .ok (.iload_n 1, 1) := by decide +kernel
theorem dX4_begin_85 : decode cX4_begin 85 = .ok (.aload_n 0, 1) := by decide +kernel
theorem dX4_begin_86 : decode cX4_begin 86 = .ok (.getfield 72, 3) := by decide +kernel
theorem dX4_begin_89 : decode cX4_begin 89 = .ok (.iconst 5, 1) := by decide +kernel
theorem dX4_begin_90 : decode cX4_begin 90 = .ok (.iload_n 3, 1) := by decide +kernel
theorem dX4_begin_91 : decode cX4_begin 91 = .ok (.imul, 1) := by decide +kernel
theorem dX4_begin_92 : decode cX4_begin 92 = .ok (.iaload, 1) := by decide +kernel
theorem dX4_begin_93 : decode cX4_begin 93 = .ok (.iastore, 1) := by decide +kernel
theorem dX4_begin_94 : decode cX4_begin 94 = .ok (.goto 89, 3) := by decide +kernel
theorem dX4_begin_97 : decode cX4_begin 97 = .ok (.aload_n 0, 1) := by decide +kernel
theorem dX4_begin_98 : decode cX4_begin 98 = .ok (.getfield 66, 3) := by decide +kernel
theorem dX4_begin_101 : decode cX4_begin 101 = .ok (.iload 4, 2) := by decide +kernel
theorem dX4_begin_103 : decode cX4_begin 103 = .ok (.iaload, 1) := by decide +kernel
theorem dX4_begin_104 : decode cX4_begin 104 = .ok (.ifCond .le 74, 3) := by decide +kernel
theorem dX4_begin_107 : decode cX4_begin 107 = .ok (.aload_n 0, 1) := by decide +kernel
theorem dX4_begin_108 : decode cX4_begin 108 = .ok (.getfield 29, 3) := by decide +kernel
theorem dX4_begin_111 : decode cX4_begin 111 = .ok (.iload_n 2, 1) := by decide +kernel
theorem dX4_begin_112 : decode cX4_begin 112 = .ok (.iaload, 1) := by decide +kernel
theorem dX4_begin_113 : decode cX4_begin 113 = .ok (.ifCond .le 65, 3) := by decide +kernel
theorem dX4_begin_116 : decode cX4_begin 116 = .ok (.aload_n 0, 1) := by decide +kernel
theorem dX4_begin_117 : decode cX4_begin 117 = .ok (.getfield 29, 3) := by decide +kernel
theorem dX4_begin_120 : decode cX4_begin 120 = .ok (.iload_n 2, 1) := by decide +kernel
theorem dX4_begin_121 : decode cX4_begin 121 = .ok (.iaload, 1) := by decide +kernel
theorem dX4_begin_122 : decode cX4_begin 122 = .ok (.iconst 3, 1) := by decide +kernel
theorem dX4_begin_123 : decode cX4_begin 123 = .ok (.aload_n 0, 1) := by decide +kernel
theorem dX4_begin_124 : decode cX4_begin 124 = .ok (.getfield 75, 3) := by decide +kernel
theorem dX4_begin_127 : decode cX4_begin 127 = .ok (.iconst 5, 1) := by decide +kernel
theorem dX4_begin_128 : decode cX4_begin 128 = .ok (.iload 4, 2) := by decide +kernel
theorem dX4_begin_130 : decode cX4_begin 130 = .ok (.imul, 1) := by decide +kernel
theorem dX4_begin_131 : decode cX4_begin 131 = .ok (.iaload, 1) := by decide +kernel
theorem dX4_begin_132 : decode cX4_begin 132 = .ok (.isub, 1) := by decide +kernel
theorem dX4_begin_133 : decode cX4_begin 133 = .ok (.aload_n 0, 1) := by decide +kernel
theorem dX4_begin_134 : decode cX4_begin 134 = .ok (.getfield 90, 3) := by decide +kernel
theorem dX4_begin_137 : decode cX4_begin 137 = .ok (.iload_n 1, 1) := by decide +kernel
theorem dX4_begin_138 : decode cX4_begin 138 = .ok (.iaload, 1) := by decide +kernel
theorem dX4_begin_139 : decode cX4_begin 139 = .ok (.imul, 1) := by decide +kernel
theorem dX4_begin_140 : decode cX4_begin 140 = .ok (.iconst 4, 1) := by decide +kernel
theorem dX4_begin_141 : decode cX4_begin 141 = .ok (.idiv, 1) := by decide +kernel
theorem dX4_begin_142 : decode cX4_begin 142 = .ok (.if_icmp .lt 36, 3) := by decide +kernel
theorem dX4_begin_145 : decode cX4_begin 145 = .ok (.aload_n 0, 1) := by decide +kernel
theorem dX4_begin_146 : decode cX4_begin 146 = .ok (.getfield 38, 3) := by decide +kernel
theorem dX4_begin_149 : decode cX4_begin 149 = .ok (.iload_n 2, 1) := by decide +kernel
theorem dX4_begin_150 : decode cX4_begin 150 = .ok (.iconst 1, 1) := by decide +kernel
theorem dX4_begin_151 : decode cX4_begin 151 = .ok (.bastore, 1) := by decide +kernel
theorem dX4_begin_152 : decode cX4_begin 152 = .ok (.aload_n 0, 1) := by decide +kernel
theorem dX4_begin_153 : decode cX4_begin 153 = .ok (.getfield 99, 3) := by decide +kernel
theorem dX4_begin_156 : decode cX4_begin 156 = .ok (.iload_n 1, 1) := by decide +kernel
theorem dX4_begin_157 : decode cX4_begin 157 = .ok (.iload 4, 2) := by decide +kernel
theorem dX4_begin_159 : decode cX4_begin 159 = .ok (.iastore, 1) := by decide +kernel
theorem dX4_begin_160 : decode cX4_begin 160 = .ok (.aload_n 0, 1) := by decide +kernel
theorem dX4_begin_161 : decode cX4_begin 161 = .ok (.getfield 102, 3) := by decide +kernel
theorem dX4_begin_164 : decode cX4_begin 164 = .ok (.iload_n 1, 1) := by decide +kernel
theorem dX4_begin_165 : decode cX4_begin 165 = .ok (.aload_n 0, 1) := by decide +kernel
theorem dX4_begin_166 : decode cX4_begin 166 = .ok (.getfield 72, 3) := by decide +kernel
theorem dX4_begin_169 : decode cX4_begin 169 = .ok (.iconst 5, 1) := by decide +kernel
theorem dX4_begin_170 : decode cX4_begin 170 = .ok (.iload 4, 2) := by decide +kernel
theorem dX4_begin_172 : decode cX4_begin 172 = .ok (.imul, 1) := by decide +kernel
theorem dX4_begin_173 : decode cX4_begin 173 = .ok (.iaload, 1) := by decide +kernel
theorem dX4_begin_174 : decode cX4_begin 174 = .ok (.iastore, 1) := by decide +kernel
theorem dX4_begin_175 : decode cX4_begin 175 = .ok (.goto 8, 3) := by decide +kernel
theorem dX4_begin_178 : decode cX4_begin 178 = .ok (.aload_n 0, 1) := by decide +kernel
theorem dX4_begin_179 : decode cX4_begin 179 = .ok (.iload_n 1, 1) := by decide +kernel
theorem dX4_begin_180 : decode cX4_begin 180 = .ok (.invokevirtual 143, 3) := by decide +kernel
theorem dX4_begin_183 : decode cX4_begin 183 = .ok (.return_, 1) := by decide +kernel
theorem dX4_tickRing_0 : decode cX4_tickRing 0 = .ok (.aload_n 0, 1) := by decide +kernel
theorem dX4_tickRing_1 : decode cX4_tickRing 1 = .ok (.getfield 87, 3) := by decide +kernel
theorem dX4_tickRing_4 : decode cX4_tickRing 4 = .ok (.iload_n 1, 1) := by decide +kernel
theorem dX4_tickRing_5 : decode cX4_tickRing 5 = .ok (.iaload, 1) := by decide +kernel
theorem dX4_tickRing_6 : decode cX4_tickRing 6 = .ok (.ifCond .le 34, 3) := by decide +kernel
theorem dX4_tickRing_9 : decode cX4_tickRing 9 = .ok (.aload_n 0, 1) := by decide +kernel
theorem dX4_tickRing_10 : decode cX4_tickRing 10 = .ok (.getfield 87, 3) := by decide +kernel
theorem dX4_tickRing_13 : decode cX4_tickRing 13 = .ok (.iload_n 1, 1) := by decide +kernel
theorem dX4_tickRing_14 : decode cX4_tickRing 14 = .ok (.aload_n 0, 1) := by decide +kernel
theorem dX4_tickRing_15 : decode cX4_tickRing 15 = .ok (.getfield 87, 3) := by decide +kernel
theorem dX4_tickRing_18 : decode cX4_tickRing 18 = .ok (.iload_n 1, 1) := by decide +kernel
theorem dX4_tickRing_19 : decode cX4_tickRing 19 = .ok (.iaload, 1) := by decide +kernel
theorem dX4_tickRing_20 : decode cX4_tickRing 20 = .ok (.iconst 1, 1) := by decide +kernel
theorem dX4_tickRing_21 : decode cX4_tickRing 21 = .ok (.isub, 1) := by decide +kernel
theorem dX4_tickRing_22 : decode cX4_tickRing 22 = .ok (.iastore, 1) := by decide +kernel
theorem dX4_tickRing_23 : decode cX4_tickRing 23 = .ok (.aload_n 0, 1) := by decide +kernel
theorem dX4_tickRing_24 : decode cX4_tickRing 24 = .ok (.getfield 87, 3) := by decide +kernel
theorem dX4_tickRing_27 : decode cX4_tickRing 27 = .ok (.iload_n 1, 1) := by decide +kernel
theorem dX4_tickRing_28 : decode cX4_tickRing 28 = .ok (.iaload, 1) := by decide +kernel
theorem dX4_tickRing_29 : decode cX4_tickRing 29 = .ok (.ifCond .ne 159, 3) := by decide +kernel
theorem dX4_tickRing_32 : decode cX4_tickRing 32 = .ok (.aload_n 0, 1) := by decide +kernel
theorem dX4_tickRing_33 : decode cX4_tickRing 33 = .ok (.iload_n 1, 1) := by decide +kernel
theorem dX4_tickRing_34 : decode cX4_tickRing 34 = .ok (.invokevirtual 153, 3) := by decide +kernel
theorem dX4_tickRing_37 : decode cX4_tickRing 37 = .ok (.goto 151, 3) := by decide +kernel
theorem dX4_tickRing_40 : decode cX4_tickRing 40 = .ok (.aload_n 0, 1) := by decide +kernel
theorem dX4_tickRing_41 : decode cX4_tickRing 41 = .ok (.iload_n 1, 1) := by decide +kernel
theorem dX4_tickRing_42 : decode cX4_tickRing 42 = .ok (.invokevirtual 156, 3) := by decide +kernel
theorem dX4_tickRing_45 : decode cX4_tickRing 45 = .ok (.ifCond .eq 11, 3) := by decide +kernel
theorem dX4_tickRing_48 : decode cX4_tickRing 48 = .ok (.aload_n 0, 1) := by decide +kernel
theorem dX4_tickRing_49 : decode cX4_tickRing 49 = .ok (.iload_n 1, 1) := by decide +kernel
theorem dX4_tickRing_50 : decode cX4_tickRing 50 = .ok (.invokevirtual 140, 3) := by decide +kernel
theorem dX4_tickRing_53 : decode cX4_tickRing 53 = .ok (.goto 135, 3) := by decide +kernel
theorem dX4_tickRing_56 : decode cX4_tickRing 56 = .ok (.aload_n 0, 1) := by decide +kernel
theorem dX4_tickRing_57 : decode cX4_tickRing 57 = .ok (.getfield 96, 3) := by decide +kernel
theorem dX4_tickRing_60 : decode cX4_tickRing 60 = .ok (.iload_n 1, 1) := by decide +kernel
theorem dX4_tickRing_61 : decode cX4_tickRing 61 = .ok (.iaload, 1) := by decide +kernel
theorem dX4_tickRing_62 : decode cX4_tickRing 62 = .ok (.ifCond .le 34, 3) := by decide +kernel
theorem dX4_tickRing_65 : decode cX4_tickRing 65 = .ok (.aload_n 0, 1) := by decide +kernel
theorem dX4_tickRing_66 : decode cX4_tickRing 66 = .ok (.getfield 96, 3) := by decide +kernel
theorem dX4_tickRing_69 : decode cX4_tickRing 69 = .ok (.iload_n 1, 1) := by decide +kernel
theorem dX4_tickRing_70 : decode cX4_tickRing 70 = .ok (.aload_n 0, 1) := by decide +kernel
theorem dX4_tickRing_71 : decode cX4_tickRing 71 = .ok (.getfield 96, 3) := by decide +kernel
theorem dX4_tickRing_74 : decode cX4_tickRing 74 = .ok (.iload_n 1, 1) := by decide +kernel
theorem dX4_tickRing_75 : decode cX4_tickRing 75 = .ok (.iaload, 1) := by decide +kernel
theorem dX4_tickRing_76 : decode cX4_tickRing 76 = .ok (.iconst 1, 1) := by decide +kernel
theorem dX4_tickRing_77 : decode cX4_tickRing 77 = .ok (.isub, 1) := by decide +kernel
theorem dX4_tickRing_78 : decode cX4_tickRing 78 = .ok (.iastore, 1) := by decide +kernel
theorem dX4_tickRing_79 : decode cX4_tickRing 79 = .ok (.aload_n 0, 1) := by decide +kernel
theorem dX4_tickRing_80 : decode cX4_tickRing 80 = .ok (.getfield 96, 3) := by decide +kernel
theorem dX4_tickRing_83 : decode cX4_tickRing 83 = .ok (.iload_n 1, 1) := by decide +kernel
theorem dX4_tickRing_84 : decode cX4_tickRing 84 = .ok (.iaload, 1) := by decide +kernel
theorem dX4_tickRing_85 : decode cX4_tickRing 85 = .ok (.ifCond .ne 103, 3) := by decide +kernel
theorem dX4_tickRing_88 : decode cX4_tickRing 88 = .ok (.aload_n 0, 1) := by decide +kernel
theorem dX4_tickRing_89 : decode cX4_tickRing 89 = .ok (.iload_n 1, 1) := by decide +kernel
theorem dX4_tickRing_90 : decode cX4_tickRing 90 = .ok (.invokevirtual 159, 3) := by decide +kernel
theorem dX4_tickRing_93 : decode cX4_tickRing 93 = .ok (.goto 95, 3) := by decide +kernel
theorem dX4_tickRing_96 : decode cX4_tickRing 96 = .ok (.aload_n 0, 1) := by decide +kernel
theorem dX4_tickRing_97 : decode cX4_tickRing 97 = .ok (.iload_n 1, 1) := by decide +kernel
theorem dX4_tickRing_98 : decode cX4_tickRing 98 = .ok (.invokevirtual 146, 3) := by decide +kernel
theorem dX4_tickRing_101 : decode cX4_tickRing 101 = .ok (.istore_n 2, 1) := by decide +kernel
theorem dX4_tickRing_102 : decode cX4_tickRing 102 = .ok (.aload_n 0, 1) := by decide +kernel
theorem dX4_tickRing_103 : decode cX4_tickRing 103 = .ok (.getfield 99, 3) := by decide +kernel
theorem dX4_tickRing_106 : decode cX4_tickRing 106 = .ok (.iload_n 1, 1) := by decide +kernel
theorem dX4_tickRing_107 : decode cX4_tickRing 107 = .ok (.iaload, 1) := by decide +kernel
theorem dX4_tickRing_108 : decode cX4_tickRing 108 = .ok (.ifCond .lt 66, 3) := by decide +kernel
theorem dX4_tickRing_111 : decode cX4_tickRing 111 = .ok (.aload_n 0, 1) := by decide +kernel
theorem dX4_tickRing_112 : decode cX4_tickRing 112 = .ok (.getfield 102, 3) := by decide +kernel
theorem dX4_tickRing_115 : decode cX4_tickRing 115 = .ok (.iload_n 1, 1) := by decide +kernel
theorem dX4_tickRing_116 : decode cX4_tickRing 116 = .ok (.aload_n 0, 1) := by decide +kernel
theorem dX4_tickRing_117 : decode cX4_tickRing 117 = .ok (.getfield 102, 3) := by decide +kernel
theorem dX4_tickRing_120 : decode cX4_tickRing 120 = .ok (.iload_n 1, 1) := by decide +kernel
theorem dX4_tickRing_121 : decode cX4_tickRing 121 = .ok (.iaload, 1) := by decide +kernel
theorem dX4_tickRing_122 : decode cX4_tickRing 122 = .ok (.iconst 1, 1) := by decide +kernel
theorem dX4_tickRing_123 : decode cX4_tickRing 123 = .ok (.isub, 1) := by decide +kernel
theorem dX4_tickRing_124 : decode cX4_tickRing 124 = .ok (.iastore, 1) := by decide +kernel
theorem dX4_tickRing_125 : decode cX4_tickRing 125 = .ok (.aload_n 0, 1) := by decide +kernel
theorem dX4_tickRing_126 : decode cX4_tickRing 126 = .ok (.getfield 99, 3) := by decide +kernel
theorem dX4_tickRing_129 : decode cX4_tickRing 129 = .ok (.iload_n 1, 1) := by decide +kernel
theorem dX4_tickRing_130 : decode cX4_tickRing 130 = .ok (.iaload, 1) := by decide +kernel
theorem dX4_tickRing_131 : decode cX4_tickRing 131 = .ok (.iconst 2, 1) := by decide +kernel
theorem dX4_tickRing_132 : decode cX4_tickRing 132 = .ok (.irem, 1) := by decide +kernel
theorem dX4_tickRing_133 : decode cX4_tickRing 133 = .ok (.iconst 1, 1) := by decide +kernel
theorem dX4_tickRing_134 : decode cX4_tickRing 134 = .ok (.if_icmp .ne 26, 3) := by decide +kernel
theorem dX4_tickRing_137 : decode cX4_tickRing 137 = .ok (.aload_n 0, 1) := by decide +kernel
theorem dX4_tickRing_138 : decode cX4_tickRing 138 = .ok (.getfield 29, 3) := by decide +kernel
theorem dX4_tickRing_141 : decode cX4_tickRing 141 = .ok (.iload_n 2, 1) := by decide +kernel
theorem dX4_tickRing_142 : decode cX4_tickRing 142 = .ok (.iaload, 1) := by decide +kernel
theorem dX4_tickRing_143 : decode cX4_tickRing 143 = .ok (.ifCond .le 17, 3) := by decide +kernel
theorem dX4_tickRing_146 : decode cX4_tickRing 146 = .ok (.aload_n 0, 1) := by decide +kernel
theorem dX4_tickRing_147 : decode cX4_tickRing 147 = .ok (.getfield 29, 3) := by decide +kernel
theorem dX4_tickRing_150 : decode cX4_tickRing 150 = .ok (.iload_n 2, 1) := by decide +kernel
theorem dX4_tickRing_151 : decode cX4_tickRing 151 = .ok (.aload_n 0, 1) := by decide +kernel
theorem dX4_tickRing_152 : decode cX4_tickRing 152 = .ok (.getfield 29, 3) := by decide +kernel
theorem dX4_tickRing_155 : decode cX4_tickRing 155 = .ok (.iload_n 2, 1) := by decide +kernel
theorem dX4_tickRing_156 : decode cX4_tickRing 156 = .ok (.iaload, 1) := by decide +kernel
theorem dX4_tickRing_157 : decode cX4_tickRing 157 = .ok (.iconst 1, 1) := by decide +kernel
theorem dX4_tickRing_158 : decode cX4_tickRing 158 = .ok (.isub, 1) := by decide +kernel
theorem dX4_tickRing_159 : decode cX4_tickRing 159 = .ok (.iastore, 1) := by decide +kernel
theorem dX4_tickRing_160 : decode cX4_tickRing 160 = .ok (.aload_n 0, 1) := by decide +kernel
theorem dX4_tickRing_161 : decode cX4_tickRing 161 = .ok (.getfield 102, 3) := by decide +kernel
theorem dX4_tickRing_164 : decode cX4_tickRing 164 = .ok (.iload_n 1, 1) := by decide +kernel
theorem dX4_tickRing_165 : decode cX4_tickRing 165 = .ok (.iaload, 1) := by decide +kernel
theorem dX4_tickRing_166 : decode cX4_tickRing 166 = .ok (.ifCond .ne 8, 3) := by decide +kernel
theorem dX4_tickRing_169 : decode cX4_tickRing 169 = .ok (.aload_n 0, 1) := by decide +kernel
theorem dX4_tickRing_170 : decode cX4_tickRing 170 = .ok (.iload_n 1, 1) := by decide +kernel
theorem dX4_tickRing_171 : decode cX4_tickRing 171 = .ok (.invokevirtual 162, 3) := by decide +kernel
theorem dX4_tickRing_174 : decode cX4_tickRing 174 = .ok (.aload_n 0, 1) := by decide +kernel
theorem dX4_tickRing_175 : decode cX4_tickRing 175 = .ok (.getfield 99, 3) := by decide +kernel
theorem dX4_tickRing_178 : decode cX4_tickRing 178 = .ok (.iload_n 1, 1) := by decide +kernel
theorem dX4_tickRing_179 : decode cX4_tickRing 179 = .ok (.iaload, 1) := by decide +kernel
theorem dX4_tickRing_180 : decode cX4_tickRing 180 = .ok (.ifCond .ge 8, 3) := by decide +kernel
theorem dX4_tickRing_183 : decode cX4_tickRing 183 = .ok (.aload_n 0, 1) := by decide +kernel
theorem dX4_tickRing_184 : decode cX4_tickRing 184 = .ok (.iload_n 1, 1) := by decide +kernel
theorem dX4_tickRing_185 : decode cX4_tickRing 185 = .ok (.invokevirtual 165, 3) := by decide +kernel
theorem dX4_tickRing_188 : decode cX4_tickRing 188 = .ok (.return_, 1) := by decide +kernel
theorem dX4_bid_0 : decode cX4_bid 0 = .ok (.aload_n 0, 1) := by decide +kernel
theorem dX4_bid_1 : decode cX4_bid 1 = .ok (.iload_n 1, 1) := by decide +kernel
theorem dX4_bid_2 : decode cX4_bid 2 = .ok (.invokevirtual 168, 3) := by decide +kernel
theorem dX4_bid_5 : decode cX4_bid 5 = .ok (.ifCond .eq 14, 3) := by decide +kernel
theorem dX4_bid_8 : decode cX4_bid 8 = .ok (.iload_n 2, 1) := by decide +kernel
theorem dX4_bid_9 : decode cX4_bid 9 = .ok (.iconst 4, 1) := by decide +kernel
theorem dX4_bid_10 : decode cX4_bid 10 = .ok (.if_icmp .lt 9, 3) := by decide +kernel
theorem dX4_bid_13 : decode cX4_bid 13 = .ok (.iload_n 2, 1) := by decide +kernel
theorem dX4_bid_14 : decode cX4_bid 14 = .ok (.bipush 60, 2) := by decide +kernel
theorem dX4_bid_16 : decode cX4_bid 16 = .ok (.if_icmp .le 5, 3) := by decide +kernel
theorem dX4_bid_19 : decode cX4_bid 19 = .ok (.iconst 0, 1) := by decide +kernel
theorem dX4_bid_20 : decode cX4_bid 20 = .ok (.ireturn, 1) := by decide +kernel
theorem dX4_bid_21 : decode cX4_bid 21 = .ok (.aload_n 0, 1) := by decide +kernel
theorem dX4_bid_22 : decode cX4_bid 22 = .ok (.getfield 16, 3) := by decide +kernel
theorem dX4_bid_25 : decode cX4_bid 25 = .ok (.iload_n 1, 1) := by decide +kernel
theorem dX4_bid_26 : decode cX4_bid 26 = .ok (.iload_n 2, 1) := by decide +kernel
theorem dX4_bid_27 : decode cX4_bid 27 = .ok (.iastore, 1) := by decide +kernel
theorem dX4_bid_28 : decode cX4_bid 28 = .ok (.iconst 1, 1) := by decide +kernel
theorem dX4_bid_29 : decode cX4_bid 29 = .ok (.ireturn, 1) := by decide +kernel
theorem dX4_allot_0 : decode cX4_allot 0 = .ok (.aload_n 0, 1) := by decide +kernel
theorem dX4_allot_1 : decode cX4_allot 1 = .ok (.iload_n 1, 1) := by decide +kernel
theorem dX4_allot_2 : decode cX4_allot 2 = .ok (.invokevirtual 168, 3) := by decide +kernel
theorem dX4_allot_5 : decode cX4_allot 5 = .ok (.ifCond .eq 13, 3) := by decide +kernel
theorem dX4_allot_8 : decode cX4_allot 8 = .ok (.iload_n 2, 1) := by decide +kernel
theorem dX4_allot_9 : decode cX4_allot 9 = .ok (.ifCond .lt 9, 3) := by decide +kernel
theorem dX4_allot_12 : decode cX4_allot 12 = .ok (.iload_n 2, 1) := by decide +kernel
theorem dX4_allot_13 : decode cX4_allot 13 = .ok (.bipush 20, 2) := by decide +kernel
theorem dX4_allot_15 : decode cX4_allot 15 = .ok (.if_icmp .le 5, 3) := by decide +kernel
theorem dX4_allot_18 : decode cX4_allot 18 = .ok (.iconst 0, 1) := by decide +kernel
theorem dX4_allot_19 : decode cX4_allot 19 = .ok (.ireturn, 1) := by decide +kernel
theorem dX4_allot_20 : decode cX4_allot 20 = .ok (.aload_n 0, 1) := by decide +kernel
theorem dX4_allot_21 : decode cX4_allot 21 = .ok (.getfield 20, 3) := by decide +kernel
theorem dX4_allot_24 : decode cX4_allot 24 = .ok (.iload_n 1, 1) := by decide +kernel
theorem dX4_allot_25 : decode cX4_allot 25 = .ok (.iload_n 2, 1) := by decide +kernel
theorem dX4_allot_26 : decode cX4_allot 26 = .ok (.iastore, 1) := by decide +kernel
theorem dX4_allot_27 : decode cX4_allot 27 = .ok (.iconst 1, 1) := by decide +kernel
theorem dX4_allot_28 : decode cX4_allot 28 = .ok (.ireturn, 1) := by decide +kernel
theorem dX4_send_0 : decode cX4_send 0 = .ok (.aload_n 0, 1) := by decide +kernel
theorem dX4_send_1 : decode cX4_send 1 = .ok (.iload_n 1, 1) := by decide +kernel
theorem dX4_send_2 : decode cX4_send 2 = .ok (.invokevirtual 168, 3) := by decide +kernel
theorem dX4_send_5 : decode cX4_send 5 = .ok (.ifCond .eq 38, 3) := by decide +kernel
theorem dX4_send_8 : decode cX4_send 8 = .ok (.aload_n 0, 1) := by decide +kernel
theorem dX4_send_9 : decode cX4_send 9 = .ok (.iload_n 2, 1) := by decide +kernel
theorem dX4_send_10 : decode cX4_send 10 = .ok (.invokevirtual 168, 3) := by decide +kernel
theorem dX4_send_13 : decode cX4_send 13 = .ok (.ifCond .eq 30, 3) := by decide +kernel
theorem dX4_send_16 : decode cX4_send 16 = .ok (.iload_n 1, 1) := by decide +kernel
theorem dX4_send_17 : decode cX4_send 17 = .ok (.iload_n 2, 1) := by decide +kernel
theorem dX4_send_18 : decode cX4_send 18 = .ok (.if_icmp .eq 25, 3) := by decide +kernel
theorem dX4_send_21 : decode cX4_send 21 = .ok (.iload_n 3, 1) := by decide +kernel
theorem dX4_send_22 : decode cX4_send 22 = .ok (.iconst 1, 1) := by decide +kernel
theorem dX4_send_23 : decode cX4_send 23 = .ok (.if_icmp .lt 20, 3) := by decide +kernel
theorem dX4_send_26 : decode cX4_send 26 = .ok (.iload_n 3, 1) := by decide +kernel
theorem dX4_send_27 : decode cX4_send 27 = .ok (.bipush 10, 2) := by decide +kernel
theorem dX4_send_29 : decode cX4_send 29 = .ok (.if_icmp .gt 14, 3) := by decide +kernel
theorem dX4_send_32 : decode cX4_send 32 = .ok (.iload 4, 2) := by decide +kernel
theorem dX4_send_34 : decode cX4_send 34 = .ok (.ifCond .lt 9, 3) := by decide +kernel
theorem dX4_send_37 : decode cX4_send 37 = .ok (.iload 4, 2) := by decide +kernel
theorem dX4_send_39 : decode cX4_send 39 = .ok (.iconst 3, 1) := by decide +kernel
theorem dX4_send_40 : decode cX4_send 40 = .ok (.if_icmp .le 5, 3) := by decide +kernel
theorem dX4_send_43 : decode cX4_send 43 = .ok (.iconst 0, 1) := by decide +kernel
theorem dX4_send_44 : decode cX4_send 44 = .ok (.ireturn, 1) := by decide +kernel
theorem dX4_send_45 : decode cX4_send 45 = .ok (.iload 4, 2) := by decide +kernel
theorem dX4_send_47 : decode cX4_send 47 = .ok (.iconst 3, 1) := by decide +kernel
theorem dX4_send_48 : decode cX4_send 48 = .ok (.if_icmp .ne 9, 3) := by decide +kernel
theorem dX4_send_51 : decode cX4_send 51 = .ok (.iconst 2, 1) := by decide +kernel
theorem dX4_send_52 : decode cX4_send 52 = .ok (.iload_n 1, 1) := by decide +kernel
theorem dX4_send_53 : decode cX4_send 53 = .ok (.imul, 1) := by decide +kernel
theorem dX4_send_54 : decode cX4_send 54 = .ok (.goto 8, 3) := by decide +kernel
theorem dX4_send_57 : decode cX4_send 57 = .ok (.iconst 2, 1) := by decide +kernel
theorem dX4_send_58 : decode cX4_send 58 = .ok (.iload_n 1, 1) := by decide +kernel
theorem dX4_send_59 : decode cX4_send 59 = .ok (.imul, 1) := by decide +kernel
theorem dX4_send_60 : decode cX4_send 60 = .ok (.iconst 1, 1) := by decide +kernel
theorem dX4_send_61 : decode cX4_send 61 = .ok (.iadd, 1) := by decide +kernel
theorem dX4_send_62 : decode cX4_send 62 = .ok (.istore 5, 2) := by decide +kernel
theorem dX4_send_64 : decode cX4_send 64 = .ok (.aload_n 0, 1) := by decide +kernel
theorem dX4_send_65 : decode cX4_send 65 = .ok (.getfield 66, 3) := by decide +kernel
theorem dX4_send_68 : decode cX4_send 68 = .ok (.iload 5, 2) := by decide +kernel
theorem dX4_send_70 : decode cX4_send 70 = .ok (.iaload, 1) := by decide +kernel
theorem dX4_send_71 : decode cX4_send 71 = .ok (.iconst 5, 1) := by decide +kernel
theorem dX4_send_72 : decode cX4_send 72 = .ok (.if_icmp .lt 5, 3) := by decide +kernel
theorem dX4_send_75 : decode cX4_send 75 = .ok (.iconst 0, 1) := by decide +kernel
theorem dX4_send_76 : decode cX4_send 76 = .ok (.ireturn, 1) := by decide +kernel
theorem dX4_send_77 : decode cX4_send 77 = .ok (.iconst 5, 1) := by decide +kernel
theorem dX4_send_78 : decode cX4_send 78 = .ok (.iload 5, 2) := by decide +kernel
theorem dX4_send_80 : decode cX4_send 80 = .ok (.imul, 1) := by decide +kernel
theorem dX4_send_81 : decode cX4_send 81 = .ok (.aload_n 0, 1) := by decide +kernel
theorem dX4_send_82 : decode cX4_send 82 = .ok (.getfield 66, 3) := by decide +kernel
theorem dX4_send_85 : decode cX4_send 85 = .ok (.iload 5, 2) := by decide +kernel
theorem dX4_send_87 : decode cX4_send 87 = .ok (.iaload, 1) := by decide +kernel
theorem dX4_send_88 : decode cX4_send 88 = .ok (.iadd, 1) := by decide +kernel
theorem dX4_send_89 : decode cX4_send 89 = .ok (.istore 6, 2) := by decide +kernel
theorem dX4_send_91 : decode cX4_send 91 = .ok (.aload_n 0, 1) := by decide +kernel
theorem dX4_send_92 : decode cX4_send 92 = .ok (.getfield 69, 3) := by decide +kernel
theorem dX4_send_95 : decode cX4_send 95 = .ok (.iload 6, 2) := by decide +kernel
theorem dX4_send_97 : decode cX4_send 97 = .ok (.iload_n 2, 1) := by decide +kernel
theorem dX4_send_98 : decode cX4_send 98 = .ok (.iastore, 1) := by decide +kernel
theorem dX4_send_99 : decode cX4_send 99 = .ok (.aload_n 0, 1) := by decide +kernel
theorem dX4_send_100 : decode cX4_send 100 = .ok (.getfield 72, 3) := by decide +kernel
theorem dX4_send_103 : decode cX4_send 103 = .ok (.iload 6, 2) := by decide +kernel
theorem dX4_send_105 : decode cX4_send 105 = .ok (.iload_n 3, 1) := by decide +kernel
theorem dX4_send_106 : decode cX4_send 106 = .ok (.iastore, 1) := by decide +kernel
theorem dX4_send_107 : decode cX4_send 107 = .ok (.aload_n 0, 1) := by decide +kernel
theorem dX4_send_108 : decode cX4_send 108 = .ok (.getfield 75, 3) := by decide +kernel
theorem dX4_send_111 : decode cX4_send 111 = .ok (.iload 6, 2) := by decide +kernel
theorem dX4_send_113 : decode cX4_send 113 = .ok (.iload 4, 2) := by decide +kernel
theorem dX4_send_115 : decode cX4_send 115 = .ok (.iastore, 1) := by decide +kernel
theorem dX4_send_116 : decode cX4_send 116 = .ok (.aload_n 0, 1) := by decide +kernel
theorem dX4_send_117 : decode cX4_send 117 = .ok (.getfield 66, 3) := by decide +kernel
theorem dX4_send_120 : decode cX4_send 120 = .ok (.iload 5, 2) := by decide +kernel
theorem dX4_send_122 : decode cX4_send 122 = .ok (.aload_n 0, 1) := by decide +kernel
theorem dX4_send_123 : decode cX4_send 123 = .ok (.getfield 66, 3) := by decide +kernel
theorem dX4_send_126 : decode cX4_send 126 = .ok (.iload 5, 2) := by decide +kernel
theorem dX4_send_128 : decode cX4_send 128 = .ok (.iaload, 1) := by decide +kernel
theorem dX4_send_129 : decode cX4_send 129 = .ok (.iconst 1, 1) := by decide +kernel
theorem dX4_send_130 : decode cX4_send 130 = .ok (.iadd, 1) := by decide +kernel
theorem dX4_send_131 : decode cX4_send 131 = .ok (.iastore, 1) := by decide +kernel
theorem dX4_send_132 : decode cX4_send 132 = .ok (.iconst 1, 1) := by decide +kernel
theorem dX4_send_133 : decode cX4_send 133 = .ok (.ireturn, 1) := by decide +kernel
theorem dX4_cable_0 : decode cX4_cable 0 = .ok (.aload_n 0, 1) := by decide +kernel
theorem dX4_cable_1 : decode cX4_cable 1 = .ok (.iload_n 1, 1) := by decide +kernel
theorem dX4_cable_2 : decode cX4_cable 2 = .ok (.invokevirtual 168, 3) := by decide +kernel
theorem dX4_cable_5 : decode cX4_cable 5 = .ok (.ifCond .eq 13, 3) := by decide +kernel
theorem dX4_cable_8 : decode cX4_cable 8 = .ok (.aload_n 0, 1) := by decide +kernel
theorem dX4_cable_9 : decode cX4_cable 9 = .ok (.getfield 13, 3) := by decide +kernel
theorem dX4_cable_12 : decode cX4_cable 12 = .ok (.iload_n 1, 1) := by decide +kernel
theorem dX4_cable_13 : decode cX4_cable 13 = .ok (.baload, 1) := by decide +kernel
theorem dX4_cable_14 : decode cX4_cable 14 = .ok (.iload_n 2, 1) := by decide +kernel
theorem dX4_cable_15 : decode cX4_cable 15 = .ok (.if_icmp .ne 5, 3) := by decide +kernel
theorem dX4_cable_18 : decode cX4_cable 18 = .ok (.iconst 0, 1) := by decide +kernel
theorem dX4_cable_19 : decode cX4_cable 19 = .ok (.ireturn, 1) := by decide +kernel
theorem dX4_cable_20 : decode cX4_cable 20 = .ok (.aload_n 0, 1) := by decide +kernel
theorem dX4_cable_21 : decode cX4_cable 21 = .ok (.getfield 13, 3) := by decide +kernel
theorem dX4_cable_24 : decode cX4_cable 24 = .ok (.iload_n 1, 1) := by decide +kernel
theorem dX4_cable_25 : decode cX4_cable 25 = .ok (.iload_n 2, 1) := by decide +kernel
theorem dX4_cable_26 : decode cX4_cable 26 = .ok (.bastore, 1) := by decide +kernel
theorem dX4_cable_27 : decode cX4_cable 27 = .ok (.aload_n 0, 1) := by decide +kernel
theorem dX4_cable_28 : decode cX4_cable 28 = .ok (.invokevirtual 115, 3) := by decide +kernel
theorem dX4_cable_31 : decode cX4_cable 31 = .ok (.iconst 1, 1) := by decide +kernel
theorem dX4_cable_32 : decode cX4_cable 32 = .ok (.ireturn, 1) := by decide +kernel
theorem dX4_power_0 : decode cX4_power 0 = .ok (.aload_n 0, 1) := by decide +kernel
theorem dX4_power_1 : decode cX4_power 1 = .ok (.iload_n 1, 1) := by decide +kernel
theorem dX4_power_2 : decode cX4_power 2 = .ok (.invokevirtual 168, 3) := by decide +kernel
theorem dX4_power_5 : decode cX4_power 5 = .ok (.ifCond .eq 13, 3) := by decide +kernel
theorem dX4_power_8 : decode cX4_power 8 = .ok (.aload_n 0, 1) := by decide +kernel
theorem dX4_power_9 : decode cX4_power 9 = .ok (.getfield 7, 3) := by decide +kernel
theorem dX4_power_12 : decode cX4_power 12 = .ok (.iload_n 1, 1) := by decide +kernel
theorem dX4_power_13 : decode cX4_power 13 = .ok (.baload, 1) := by decide +kernel
theorem dX4_power_14 : decode cX4_power 14 = .ok (.iload_n 2, 1) := by decide +kernel
theorem dX4_power_15 : decode cX4_power 15 = .ok (.if_icmp .ne 5, 3) := by decide +kernel
theorem dX4_power_18 : decode cX4_power 18 = .ok (.iconst 0, 1) := by decide +kernel
theorem dX4_power_19 : decode cX4_power 19 = .ok (.ireturn, 1) := by decide +kernel
theorem dX4_power_20 : decode cX4_power 20 = .ok (.aload_n 0, 1) := by decide +kernel
theorem dX4_power_21 : decode cX4_power 21 = .ok (.getfield 7, 3) := by decide +kernel
theorem dX4_power_24 : decode cX4_power 24 = .ok (.iload_n 1, 1) := by decide +kernel
theorem dX4_power_25 : decode cX4_power 25 = .ok (.iload_n 2, 1) := by decide +kernel
theorem dX4_power_26 : decode cX4_power 26 = .ok (.bastore, 1) := by decide +kernel
theorem dX4_power_27 : decode cX4_power 27 = .ok (.aload_n 0, 1) := by decide +kernel
theorem dX4_power_28 : decode cX4_power 28 = .ok (.invokevirtual 115, 3) := by decide +kernel
theorem dX4_power_31 : decode cX4_power 31 = .ok (.aload_n 0, 1) := by decide +kernel
theorem dX4_power_32 : decode cX4_power 32 = .ok (.getfield 66, 3) := by decide +kernel
theorem dX4_power_35 : decode cX4_power 35 = .ok (.iconst 2, 1) := by decide +kernel
theorem dX4_power_36 : decode cX4_power 36 = .ok (.iload_n 1, 1) := by decide +kernel
theorem dX4_power_37 : decode cX4_power 37 = .ok (.imul, 1) := by decide +kernel
theorem dX4_power_38 : decode cX4_power 38 = .ok (.iload_n 2, 1) := by decide +kernel
theorem dX4_power_39 : decode cX4_power 39 = .ok (.ifCond .eq 14, 3) := by decide +kernel
theorem dX4_power_42 : decode cX4_power 42 = .ok (.aload_n 0, 1) := by decide +kernel
theorem dX4_power_43 : decode cX4_power 43 = .ok (.getfield 66, 3) := by decide +kernel
theorem dX4_power_46 : decode cX4_power 46 = .ok (.iconst 2, 1) := by decide +kernel
theorem dX4_power_47 : decode cX4_power 47 = .ok (.iload_n 1, 1) := by decide +kernel
theorem dX4_power_48 : decode cX4_power 48 = .ok (.imul, 1) := by decide +kernel
theorem dX4_power_49 : decode cX4_power 49 = .ok (.iaload, 1) := by decide +kernel
theorem dX4_power_50 : decode cX4_power 50 = .ok (.goto 4, 3) := by decide +kernel
theorem dX4_power_53 : decode cX4_power 53 = .ok (.iconst 0, 1) := by decide +kernel
theorem dX4_power_54 : decode cX4_power 54 = .ok (.iastore, 1) := by decide +kernel
theorem dX4_power_55 : decode cX4_power 55 = .ok (.aload_n 0, 1) := by decide +kernel
theorem dX4_power_56 : decode cX4_power 56 = .ok (.getfield 66, 3) := by decide +kernel
theorem dX4_power_59 : decode cX4_power 59 = .ok (.iconst 2, 1) := by decide +kernel
theorem dX4_power_60 : decode cX4_power 60 = .ok (.iload_n 1, 1) := by decide +kernel
theorem dX4_power_61 : decode cX4_power 61 = .ok (.imul, 1) := by decide +kernel
theorem dX4_power_62 : decode cX4_power 62 = .ok (.iconst 1, 1) := by decide +kernel
theorem dX4_power_63 : decode cX4_power 63 = .ok (.iadd, 1) := by decide +kernel
theorem dX4_power_64 : decode cX4_power 64 = .ok (.iload_n 2, 1) := by decide +kernel
theorem dX4_power_65 : decode cX4_power 65 = .ok (.ifCond .eq 16, 3) := by decide +kernel
theorem dX4_power_68 : decode cX4_power 68 = .ok (.aload_n 0, 1) := by decide +kernel
theorem dX4_power_69 : decode cX4_power 69 = .ok (.getfield 66, 3) := by decide +kernel
theorem dX4_power_72 : decode cX4_power 72 = .ok (.iconst 2, 1) := by decide +kernel
theorem dX4_power_73 : decode cX4_power 73 = .ok (.iload_n 1, 1) := by decide +kernel
theorem dX4_power_74 : decode cX4_power 74 = .ok (.imul, 1) := by decide +kernel
theorem dX4_power_75 : decode cX4_power 75 = .ok (.iconst 1, 1) := by decide +kernel
theorem dX4_power_76 : decode cX4_power 76 = .ok (.iadd, 1) := by decide +kernel
theorem dX4_power_77 : decode cX4_power 77 = .ok (.iaload, 1) := by decide +kernel
theorem dX4_power_78 : decode cX4_power 78 = .ok (.goto 4, 3) := by decide +kernel
theorem dX4_power_81 : decode cX4_power 81 = .ok (.iconst 0, 1) := by decide +kernel
theorem dX4_power_82 : decode cX4_power 82 = .ok (.iastore, 1) := by decide +kernel
theorem dX4_power_83 : decode cX4_power 83 = .ok (.iconst 1, 1) := by decide +kernel
theorem dX4_power_84 : decode cX4_power 84 = .ok (.ireturn, 1) := by decide +kernel
theorem dX4_tick_0 : decode cX4_tick 0 = .ok (.iload_n 1, 1) := by decide +kernel
theorem dX4_tick_1 : decode cX4_tick 1 = .ok (.iconst 1, 1) := by decide +kernel
theorem dX4_tick_2 : decode cX4_tick 2 = .ok (.if_icmp .lt 9, 3) := by decide +kernel
theorem dX4_tick_5 : decode cX4_tick 5 = .ok (.iload_n 1, 1) := by decide +kernel
theorem dX4_tick_6 : decode cX4_tick 6 = .ok (.bipush 100, 2) := by decide +kernel
theorem dX4_tick_8 : decode cX4_tick 8 = .ok (.if_icmp .le 5, 3) := by decide +kernel
theorem dX4_tick_11 : decode cX4_tick 11 = .ok (.iconst 0, 1) := by decide +kernel
theorem dX4_tick_12 : decode cX4_tick 12 = .ok (.ireturn, 1) := by decide +kernel
theorem dX4_tick_13 : decode cX4_tick 13 = .ok (.iconst 0, 1) := by decide +kernel
theorem dX4_tick_14 : decode cX4_tick 14 = .ok (.istore_n 2, 1) := by decide +kernel
theorem dX4_tick_15 : decode cX4_tick 15 = .ok (.iload_n 2, 1) := by decide +kernel
theorem dX4_tick_16 : decode cX4_tick 16 = .ok (.iload_n 1, 1) := by decide +kernel
theorem dX4_tick_17 : decode cX4_tick 17 = .ok (.if_icmp .ge 49, 3) := by decide +kernel
theorem dX4_tick_20 : decode cX4_tick 20 = .ok (.aload_n 0, 1) := by decide +kernel
theorem dX4_tick_21 : decode cX4_tick 21 = .ok (.aload_n 0, 1) := by decide +kernel
theorem dX4_tick_22 : decode cX4_tick 22 = .ok (.getfield 171, 3) := by decide +kernel
theorem dX4_tick_25 : decode cX4_tick 25 = .ok (.iconst 1, 1) := by decide +kernel
theorem dX4_tick_26 : decode cX4_tick 26 = .ok (.iadd, 1) := by decide +kernel
theorem dX4_tick_27 : decode cX4_tick 27 = .ok (.putfield 171, 3) := by decide +kernel
theorem dX4_tick_30 : decode cX4_tick 30 = .ok (.iconst 0, 1) := by decide +kernel
theorem dX4_tick_31 : decode cX4_tick 31 = .ok (.istore_n 3, 1) := by decide +kernel
theorem dX4_tick_32 : decode cX4_tick 32 = .ok (.iload_n 3, 1) := by decide +kernel
theorem dX4_tick_33 : decode cX4_tick 33 = .ok (.aload_n 0, 1) := by decide +kernel
theorem dX4_tick_34 : decode cX4_tick 34 = .ok (.getfield 111, 3) := by decide +kernel
theorem dX4_tick_37 : decode cX4_tick 37 = .ok (.if_icmp .ge 23, 3) := by decide +kernel
theorem dX4_tick_40 : decode cX4_tick 40 = .ok (.aload_n 0, 1) := by decide +kernel
theorem dX4_tick_41 : decode cX4_tick 41 = .ok (.getfield 78, 3) := by decide +kernel
theorem dX4_tick_44 : decode cX4_tick 44 = .ok (.iload_n 3, 1) := by decide +kernel
theorem dX4_tick_45 : decode cX4_tick 45 = .ok (.iaload, 1) := by decide +kernel
theorem dX4_tick_46 : decode cX4_tick 46 = .ok (.ifCond .le 8, 3) := by decide +kernel
theorem dX4_tick_49 : decode cX4_tick 49 = .ok (.aload_n 0, 1) := by decide +kernel
theorem dX4_tick_50 : decode cX4_tick 50 = .ok (.iload_n 3, 1) := by decide +kernel
theorem dX4_tick_51 : decode cX4_tick 51 = .ok (.invokevirtual 174, 3) := by decide +kernel
theorem dX4_tick_54 : decode cX4_tick 54 = .ok (.iinc 3 1, 3) := by decide +kernel
theorem dX4_tick_57 : decode cX4_tick 57 = .ok (.goto (-25), 3) := by decide +kernel
theorem dX4_tick_60 : decode cX4_tick 60 = .ok (.iinc 2 1, 3) := by decide +kernel
theorem dX4_tick_63 : decode cX4_tick 63 = .ok (.goto (-48), 3) := by decide +kernel
theorem dX4_tick_66 : decode cX4_tick 66 = .ok (.iconst 1, 1) := by decide +kernel
theorem dX4_tick_67 : decode cX4_tick 67 = .ok (.ireturn, 1) := by decide +kernel
theorem dX4_ring_0 : decode cX4_ring 0 = .ok (.aload_n 0, 1) := by decide +kernel
theorem dX4_ring_1 : decode cX4_ring 1 = .ok (.iload_n 1, 1) := by decide +kernel
theorem dX4_ring_2 : decode cX4_ring 2 = .ok (.invokevirtual 168, 3) := by decide +kernel
theorem dX4_ring_5 : decode cX4_ring 5 = .ok (.ifCond .eq 12, 3) := by decide +kernel
theorem dX4_ring_8 : decode cX4_ring 8 = .ok (.aload_n 0, 1) := by decide +kernel
theorem dX4_ring_9 : decode cX4_ring 9 = .ok (.getfield 105, 3) := by decide +kernel
theorem dX4_ring_12 : decode cX4_ring 12 = .ok (.iload_n 1, 1) := by decide +kernel
theorem dX4_ring_13 : decode cX4_ring 13 = .ok (.iaload, 1) := by decide +kernel
theorem dX4_ring_14 : decode cX4_ring 14 = .ok (.goto 4, 3) := by decide +kernel
theorem dX4_ring_17 : decode cX4_ring 17 = .ok (.iconst (-1), 1) := by decide +kernel
theorem dX4_ring_18 : decode cX4_ring 18 = .ok (.ireturn, 1) := by decide +kernel
theorem dX4_state_0 : decode cX4_state 0 = .ok (.aload_n 0, 1) := by decide +kernel
theorem dX4_state_1 : decode cX4_state 1 = .ok (.iload_n 1, 1) := by decide +kernel
theorem dX4_state_2 : decode cX4_state 2 = .ok (.invokevirtual 177, 3) := by decide +kernel
theorem dX4_state_5 : decode cX4_state 5 = .ok (.ifCond .ge 5, 3) := by decide +kernel
theorem dX4_state_8 : decode cX4_state 8 = .ok (.iconst 0, 1) := by decide +kernel
theorem dX4_state_9 : decode cX4_state 9 = .ok (.ireturn, 1) := by decide +kernel
theorem dX4_state_10 : decode cX4_state 10 = .ok (.aload_n 0, 1) := by decide +kernel
theorem dX4_state_11 : decode cX4_state 11 = .ok (.getfield 105, 3) := by decide +kernel
theorem dX4_state_14 : decode cX4_state 14 = .ok (.iload_n 1, 1) := by decide +kernel
theorem dX4_state_15 : decode cX4_state 15 = .ok (.iaload, 1) := by decide +kernel
theorem dX4_state_16 : decode cX4_state 16 = .ok (.istore_n 2, 1) := by decide +kernel
theorem dX4_state_17 : decode cX4_state 17 = .ok (.aload_n 0, 1) := by decide +kernel
theorem dX4_state_18 : decode cX4_state 18 = .ok (.getfield 87, 3) := by decide +kernel
theorem dX4_state_21 : decode cX4_state 21 = .ok (.iload_n 2, 1) := by decide +kernel
theorem dX4_state_22 : decode cX4_state 22 = .ok (.iaload, 1) := by decide +kernel
theorem dX4_state_23 : decode cX4_state 23 = .ok (.ifCond .le 5, 3) := by decide +kernel
theorem dX4_state_26 : decode cX4_state 26 = .ok (.iconst 1, 1) := by decide +kernel
theorem dX4_state_27 : decode cX4_state 27 = .ok (.ireturn, 1) := by decide +kernel
theorem dX4_state_28 : decode cX4_state 28 = .ok (.aload_n 0, 1) := by decide +kernel
theorem dX4_state_29 : decode cX4_state 29 = .ok (.iload_n 2, 1) := by decide +kernel
theorem dX4_state_30 : decode cX4_state 30 = .ok (.invokevirtual 146, 3) := by decide +kernel
theorem dX4_state_33 : decode cX4_state 33 = .ok (.iload_n 1, 1) := by decide +kernel
theorem dX4_state_34 : decode cX4_state 34 = .ok (.if_icmp .ne 12, 3) := by decide +kernel
theorem dX4_state_37 : decode cX4_state 37 = .ok (.aload_n 0, 1) := by decide +kernel
theorem dX4_state_38 : decode cX4_state 38 = .ok (.getfield 96, 3) := by decide +kernel
theorem dX4_state_41 : decode cX4_state 41 = .ok (.iload_n 2, 1) := by decide +kernel
theorem dX4_state_42 : decode cX4_state 42 = .ok (.iaload, 1) := by decide +kernel
theorem dX4_state_43 : decode cX4_state 43 = .ok (.ifCond .le 7, 3) := by decide +kernel
theorem dX4_state_46 : decode cX4_state 46 = .ok (.iconst 2, 1) := by decide +kernel
theorem dX4_state_47 : decode cX4_state 47 = .ok (.goto 17, 3) := by decide +kernel
theorem dX4_state_50 : decode cX4_state 50 = .ok (.aload_n 0, 1) := by decide +kernel
theorem dX4_state_51 : decode cX4_state 51 = .ok (.getfield 99, 3) := by decide +kernel
theorem dX4_state_54 : decode cX4_state 54 = .ok (.iload_n 2, 1) := by decide +kernel
theorem dX4_state_55 : decode cX4_state 55 = .ok (.iaload, 1) := by decide +kernel
theorem dX4_state_56 : decode cX4_state 56 = .ok (.ifCond .ge 7, 3) := by decide +kernel
theorem dX4_state_59 : decode cX4_state 59 = .ok (.iconst 3, 1) := by decide +kernel
theorem dX4_state_60 : decode cX4_state 60 = .ok (.goto 4, 3) := by decide +kernel
theorem dX4_state_63 : decode cX4_state 63 = .ok (.iconst 4, 1) := by decide +kernel
theorem dX4_state_64 : decode cX4_state 64 = .ok (.ireturn, 1) := by decide +kernel
theorem dX4_operating_0 : decode cX4_operating 0 = .ok (.aload_n 0, 1) := by decide +kernel
theorem dX4_operating_1 : decode cX4_operating 1 = .ok (.iload_n 1, 1) := by decide +kernel
theorem dX4_operating_2 : decode cX4_operating 2 = .ok (.invokevirtual 177, 3) := by decide +kernel
theorem dX4_operating_5 : decode cX4_operating 5 = .ok (.ifCond .ge 7, 3) := by decide +kernel
theorem dX4_operating_8 : decode cX4_operating 8 = .ok (.iconst 0, 1) := by decide +kernel
theorem dX4_operating_9 : decode cX4_operating 9 = .ok (.goto 14, 3) := by decide +kernel
theorem dX4_operating_12 : decode cX4_operating 12 = .ok (.aload_n 0, 1) := by decide +kernel
theorem dX4_operating_13 : decode cX4_operating 13 = .ok (.getfield 90, 3) := by decide +kernel
theorem dX4_operating_16 : decode cX4_operating 16 = .ok (.aload_n 0, 1) := by decide +kernel
theorem dX4_operating_17 : decode cX4_operating 17 = .ok (.getfield 105, 3) := by decide +kernel
theorem dX4_operating_20 : decode cX4_operating 20 = .ok (.iload_n 1, 1) := by decide +kernel
theorem dX4_operating_21 : decode cX4_operating 21 = .ok (.iaload, 1) := by decide +kernel
theorem dX4_operating_22 : decode cX4_operating 22 = .ok (.iaload, 1) := by decide +kernel
theorem dX4_operating_23 : decode cX4_operating 23 = .ok (.ireturn, 1) := by decide +kernel
theorem dX4_station_0 : decode cX4_station 0 = .ok (.aload_n 0, 1) := by decide +kernel
theorem dX4_station_1 : decode cX4_station 1 = .ok (.iload_n 1, 1) := by decide +kernel
theorem dX4_station_2 : decode cX4_station 2 = .ok (.invokevirtual 168, 3) := by decide +kernel
theorem dX4_station_5 : decode cX4_station 5 = .ok (.ifCond .ne 5, 3) := by decide +kernel
theorem dX4_station_8 : decode cX4_station 8 = .ok (.iconst (-1), 1) := by decide +kernel
theorem dX4_station_9 : decode cX4_station 9 = .ok (.ireturn, 1) := by decide +kernel
theorem dX4_station_10 : decode cX4_station 10 = .ok (.iload_n 2, 1) := by decide +kernel
theorem dX4_station_11 : decode cX4_station 11 = .ok (.iconst 4, 1) := by decide +kernel
theorem dX4_station_12 : decode cX4_station 12 = .ok (.if_icmp .ge 60, 3) := by decide +kernel
theorem dX4_station_15 : decode cX4_station 15 = .ok (.iload_n 2, 1) := by decide +kernel
theorem dX4_station_16 : decode cX4_station 16 = .ok (.ifCond .ne 12, 3) := by decide +kernel
theorem dX4_station_19 : decode cX4_station 19 = .ok (.aload_n 0, 1) := by decide +kernel
theorem dX4_station_20 : decode cX4_station 20 = .ok (.getfield 23, 3) := by decide +kernel
theorem dX4_station_23 : decode cX4_station 23 = .ok (.iload_n 1, 1) := by decide +kernel
theorem dX4_station_24 : decode cX4_station 24 = .ok (.iaload, 1) := by decide +kernel
theorem dX4_station_25 : decode cX4_station 25 = .ok (.goto 46, 3) := by decide +kernel
theorem dX4_station_28 : decode cX4_station 28 = .ok (.iload_n 2, 1) := by decide +kernel
theorem dX4_station_29 : decode cX4_station 29 = .ok (.iconst 1, 1) := by decide +kernel
theorem dX4_station_30 : decode cX4_station 30 = .ok (.if_icmp .ne 12, 3) := by decide +kernel
theorem dX4_station_33 : decode cX4_station 33 = .ok (.aload_n 0, 1) := by decide +kernel
theorem dX4_station_34 : decode cX4_station 34 = .ok (.getfield 26, 3) := by decide +kernel
theorem dX4_station_37 : decode cX4_station 37 = .ok (.iload_n 1, 1) := by decide +kernel
theorem dX4_station_38 : decode cX4_station 38 = .ok (.iaload, 1) := by decide +kernel
theorem dX4_station_39 : decode cX4_station 39 = .ok (.goto 32, 3) := by decide +kernel
theorem dX4_station_42 : decode cX4_station 42 = .ok (.iload_n 2, 1) := by decide +kernel
theorem dX4_station_43 : decode cX4_station 43 = .ok (.iconst 2, 1) := by decide +kernel
theorem dX4_station_44 : decode cX4_station 44 = .ok (.if_icmp .ne 12, 3) := by decide +kernel
theorem dX4_station_47 : decode cX4_station 47 = .ok (.aload_n 0, 1) := by decide +kernel
theorem dX4_station_48 : decode cX4_station 48 = .ok (.getfield 29, 3) := by decide +kernel
theorem dX4_station_51 : decode cX4_station 51 = .ok (.iload_n 1, 1) := by decide +kernel
theorem dX4_station_52 : decode cX4_station 52 = .ok (.iaload, 1) := by decide +kernel
theorem dX4_station_53 : decode cX4_station 53 = .ok (.goto 18, 3) := by decide +kernel
theorem dX4_station_56 : decode cX4_station 56 = .ok (.iload_n 2, 1) := by decide +kernel
theorem dX4_station_57 : decode cX4_station 57 = .ok (.iconst 3, 1) := by decide +kernel
theorem dX4_station_58 : decode cX4_station 58 = .ok (.if_icmp .ne 12, 3) := by decide +kernel
theorem dX4_station_61 : decode cX4_station 61 = .ok (.aload_n 0, 1) := by decide +kernel
theorem dX4_station_62 : decode cX4_station 62 = .ok (.getfield 32, 3) := by decide +kernel
theorem dX4_station_65 : decode cX4_station 65 = .ok (.iload_n 1, 1) := by decide +kernel
theorem dX4_station_66 : decode cX4_station 66 = .ok (.iaload, 1) := by decide +kernel
theorem dX4_station_67 : decode cX4_station 67 = .ok (.goto 4, 3) := by decide +kernel
theorem dX4_station_70 : decode cX4_station 70 = .ok (.iconst (-1), 1) := by decide +kernel
theorem dX4_station_71 : decode cX4_station 71 = .ok (.ireturn, 1) := by decide +kernel
theorem dX4_station_72 : decode cX4_station 72 = .ok (.iload_n 2, 1) := by decide +kernel
theorem dX4_station_73 : decode cX4_station 73 = .ok (.bipush 8, 2) := by decide +kernel
theorem dX4_station_75 : decode cX4_station 75 = .ok (.if_icmp .ge 59, 3) := by decide +kernel
theorem dX4_station_78 : decode cX4_station 78 = .ok (.iload_n 2, 1) := by decide +kernel
theorem dX4_station_79 : decode cX4_station 79 = .ok (.iconst 4, 1) := by decide +kernel
theorem dX4_station_80 : decode cX4_station 80 = .ok (.if_icmp .ne 14, 3) := by decide +kernel
theorem dX4_station_83 : decode cX4_station 83 = .ok (.aload_n 0, 1) := by decide +kernel
theorem dX4_station_84 : decode cX4_station 84 = .ok (.getfield 66, 3) := by decide +kernel
theorem dX4_station_87 : decode cX4_station 87 = .ok (.iconst 2, 1) := by decide +kernel
theorem dX4_station_88 : decode cX4_station 88 = .ok (.iload_n 1, 1) := by decide +kernel
theorem dX4_station_89 : decode cX4_station 89 = .ok (.imul, 1) := by decide +kernel
theorem dX4_station_90 : decode cX4_station 90 = .ok (.iaload, 1) := by decide +kernel
theorem dX4_station_91 : decode cX4_station 91 = .ok (.goto 42, 3) := by decide +kernel
theorem dX4_station_94 : decode cX4_station 94 = .ok (.iload_n 2, 1) := by decide +kernel
theorem dX4_station_95 : decode cX4_station 95 = .ok (.iconst 5, 1) := by decide +kernel
theorem dX4_station_96 : decode cX4_station 96 = .ok (.if_icmp .ne 16, 3) := by decide +kernel
theorem dX4_station_99 : decode cX4_station 99 = .ok (.aload_n 0, 1) := by decide +kernel
theorem dX4_station_100 : decode cX4_station 100 = .ok (.getfield 66, 3) := by decide +kernel
theorem dX4_station_103 : decode cX4_station 103 = .ok (.iconst 2, 1) := by decide +kernel
theorem dX4_station_104 : decode cX4_station 104 = .ok (.iload_n 1, 1) := by decide +kernel
theorem dX4_station_105 : decode cX4_station 105 = .ok (.imul, 1) := by decide +kernel
theorem dX4_station_106 : decode cX4_station 106 = .ok (.iconst 1, 1) := by decide +kernel
theorem dX4_station_107 : decode cX4_station 107 = .ok (.iadd, 1) := by decide +kernel
theorem dX4_station_108 : decode cX4_station 108 = .ok (.iaload, 1) := by decide +kernel
theorem dX4_station_109 : decode cX4_station 109 = .ok (.goto 24, 3) := by decide +kernel
theorem dX4_station_112 : decode cX4_station 112 = .ok (.iload_n 2, 1) := by decide +kernel
theorem dX4_station_113 : decode cX4_station 113 = .ok (.bipush 6, 2) := by decide +kernel
theorem dX4_station_115 : decode cX4_station 115 = .ok (.if_icmp .ne 12, 3) := by decide +kernel
theorem dX4_station_118 : decode cX4_station 118 = .ok (.aload_n 0, 1) := by decide +kernel
theorem dX4_station_119 : decode cX4_station 119 = .ok (.getfield 44, 3) := by decide +kernel
theorem dX4_station_122 : decode cX4_station 122 = .ok (.iload_n 1, 1) := by decide +kernel
theorem dX4_station_123 : decode cX4_station 123 = .ok (.iaload, 1) := by decide +kernel
theorem dX4_station_124 : decode cX4_station 124 = .ok (.goto 9, 3) := by decide +kernel
theorem dX4_station_127 : decode cX4_station 127 = .ok (.aload_n 0, 1) := by decide +kernel
theorem dX4_station_128 : decode cX4_station 128 = .ok (.getfield 47, 3) := by decide +kernel
theorem dX4_station_131 : decode cX4_station 131 = .ok (.iload_n 1, 1) := by decide +kernel
theorem dX4_station_132 : decode cX4_station 132 = .ok (.iaload, 1) := by decide +kernel
theorem dX4_station_133 : decode cX4_station 133 = .ok (.ireturn, 1) := by decide +kernel
theorem dX4_station_134 : decode cX4_station 134 = .ok (.iload_n 2, 1) := by decide +kernel
theorem dX4_station_135 : decode cX4_station 135 = .ok (.bipush 8, 2) := by decide +kernel
theorem dX4_station_137 : decode cX4_station 137 = .ok (.if_icmp .ne 12, 3) := by decide +kernel
theorem dX4_station_140 : decode cX4_station 140 = .ok (.aload_n 0, 1) := by decide +kernel
theorem dX4_station_141 : decode cX4_station 141 = .ok (.getfield 50, 3) := by decide +kernel
theorem dX4_station_144 : decode cX4_station 144 = .ok (.iload_n 1, 1) := by decide +kernel
theorem dX4_station_145 : decode cX4_station 145 = .ok (.iaload, 1) := by decide +kernel
theorem dX4_station_146 : decode cX4_station 146 = .ok (.goto 49, 3) := by decide +kernel
theorem dX4_station_149 : decode cX4_station 149 = .ok (.iload_n 2, 1) := by decide +kernel
theorem dX4_station_150 : decode cX4_station 150 = .ok (.bipush 9, 2) := by decide +kernel
theorem dX4_station_152 : decode cX4_station 152 = .ok (.if_icmp .ne 12, 3) := by decide +kernel
theorem dX4_station_155 : decode cX4_station 155 = .ok (.aload_n 0, 1) := by decide +kernel
theorem dX4_station_156 : decode cX4_station 156 = .ok (.getfield 53, 3) := by decide +kernel
theorem dX4_station_159 : decode cX4_station 159 = .ok (.iload_n 1, 1) := by decide +kernel
theorem dX4_station_160 : decode cX4_station 160 = .ok (.iaload, 1) := by decide +kernel
theorem dX4_station_161 : decode cX4_station 161 = .ok (.goto 34, 3) := by decide +kernel
theorem dX4_station_164 : decode cX4_station 164 = .ok (.iload_n 2, 1) := by decide +kernel
theorem dX4_station_165 : decode cX4_station 165 = .ok (.bipush 10, 2) := by decide +kernel
theorem dX4_station_167 : decode cX4_station 167 = .ok (.if_icmp .ne 12, 3) := by decide +kernel
theorem dX4_station_170 : decode cX4_station 170 = .ok (.aload_n 0, 1) := by decide +kernel
theorem dX4_station_171 : decode cX4_station 171 = .ok (.getfield 56, 3) := by decide +kernel
theorem dX4_station_174 : decode cX4_station 174 = .ok (.iload_n 1, 1) := by decide +kernel
theorem dX4_station_175 : decode cX4_station 175 = .ok (.iaload, 1) := by decide +kernel
theorem dX4_station_176 : decode cX4_station 176 = .ok (.goto 19, 3) := by decide +kernel
theorem dX4_station_179 : decode cX4_station 179 = .ok (.iload_n 2, 1) := by decide +kernel
theorem dX4_station_180 : decode cX4_station 180 = .ok (.bipush 11, 2) := by decide +kernel
theorem dX4_station_182 : decode cX4_station 182 = .ok (.if_icmp .ne 12, 3) := by decide +kernel
theorem dX4_station_185 : decode cX4_station 185 = .ok (.aload_n 0, 1) := by decide +kernel
theorem dX4_station_186 : decode cX4_station 186 = .ok (.getfield 59, 3) := by decide +kernel
theorem dX4_station_189 : decode cX4_station 189 = .ok (.iload_n 1, 1) := by decide +kernel
theorem dX4_station_190 : decode cX4_station 190 = .ok (.iaload, 1) := by decide +kernel
theorem dX4_station_191 : decode cX4_station 191 = .ok (.goto 4, 3) := by decide +kernel
theorem dX4_station_194 : decode cX4_station 194 = .ok (.iconst (-1), 1) := by decide +kernel
theorem dX4_station_195 : decode cX4_station 195 = .ok (.ireturn, 1) := by decide +kernel
theorem dX4_rotation_0 : decode cX4_rotation 0 = .ok (.aload_n 0, 1) := by decide +kernel
theorem dX4_rotation_1 : decode cX4_rotation 1 = .ok (.iload_n 1, 1) := by decide +kernel
theorem dX4_rotation_2 : decode cX4_rotation 2 = .ok (.invokevirtual 168, 3) := by decide +kernel
theorem dX4_rotation_5 : decode cX4_rotation 5 = .ok (.ifCond .eq 12, 3) := by decide +kernel
theorem dX4_rotation_8 : decode cX4_rotation 8 = .ok (.aload_n 0, 1) := by decide +kernel
theorem dX4_rotation_9 : decode cX4_rotation 9 = .ok (.getfield 62, 3) := by decide +kernel
theorem dX4_rotation_12 : decode cX4_rotation 12 = .ok (.iload_n 1, 1) := by decide +kernel
theorem dX4_rotation_13 : decode cX4_rotation 13 = .ok (.faload, 1) := by decide +kernel
theorem dX4_rotation_14 : decode cX4_rotation 14 = .ok (.goto 4, 3) := by decide +kernel
theorem dX4_rotation_17 : decode cX4_rotation 17 = .ok (.fconst 0, 1) := by decide +kernel
theorem dX4_rotation_18 : decode cX4_rotation 18 = .ok (.freturn, 1) := by decide +kernel
theorem dX4_share_0 : decode cX4_share 0 = .ok (.aload_n 0, 1) := by decide +kernel
theorem dX4_share_1 : decode cX4_share 1 = .ok (.iload_n 1, 1) := by decide +kernel
theorem dX4_share_2 : decode cX4_share 2 = .ok (.invokevirtual 168, 3) := by decide +kernel
theorem dX4_share_5 : decode cX4_share 5 = .ok (.ifCond .eq 26, 3) := by decide +kernel
theorem dX4_share_8 : decode cX4_share 8 = .ok (.aload_n 0, 1) := by decide +kernel
theorem dX4_share_9 : decode cX4_share 9 = .ok (.getfield 171, 3) := by decide +kernel
theorem dX4_share_12 : decode cX4_share 12 = .ok (.ifCond .le 19, 3) := by decide +kernel
theorem dX4_share_15 : decode cX4_share 15 = .ok (.aload_n 0, 1) := by decide +kernel
theorem dX4_share_16 : decode cX4_share 16 = .ok (.getfield 56, 3) := by decide +kernel
theorem dX4_share_19 : decode cX4_share 19 = .ok (.iload_n 1, 1) := by decide +kernel
theorem dX4_share_20 : decode cX4_share 20 = .ok (.iaload, 1) := by decide +kernel
theorem dX4_share_21 : decode cX4_share 21 = .ok (.i2d, 1) := by decide +kernel
theorem dX4_share_22 : decode cX4_share 22 = .ok (.aload_n 0, 1) := by decide +kernel
theorem dX4_share_23 : decode cX4_share 23 = .ok (.getfield 171, 3) := by decide +kernel
theorem dX4_share_26 : decode cX4_share 26 = .ok (.i2d, 1) := by decide +kernel
theorem dX4_share_27 : decode cX4_share 27 = .ok (.ddiv, 1) := by decide +kernel
theorem dX4_share_28 : decode cX4_share 28 = .ok (.goto 4, 3) := by decide +kernel
theorem dX4_share_31 : decode cX4_share 31 = .ok (.dconst 0, 1) := by decide +kernel
theorem dX4_share_32 : decode cX4_share 32 = .ok (.dreturn, 1) := by decide +kernel
theorem dX4_longest_0 : decode cX4_longest 0 = .ok (.aload_n 0, 1) := by decide +kernel
theorem dX4_longest_1 : decode cX4_longest 1 = .ok (.getfield 150, 3) := by decide +kernel
theorem dX4_longest_4 : decode cX4_longest 4 = .ok (.ireturn, 1) := by decide +kernel
end
section
theorem dL_cell_0 : decode cL_cell 0 = .ok (.iload_n 1, 1) := by decide +kernel
theorem dL_cell_1 : decode cL_cell 1 = .ok (.aload_n 0, 1) := by decide +kernel
theorem dL_cell_2 : decode cL_cell 2 = .ok (.arraylength, 1) := by decide +kernel
theorem dL_cell_3 : decode cL_cell 3 = .ok (.if_icmp .ge 9, 3) := by decide +kernel
theorem dL_cell_6 : decode cL_cell 6 = .ok (.aload_n 0, 1) := by decide +kernel
theorem dL_cell_7 : decode cL_cell 7 = .ok (.iload_n 1, 1) := by decide +kernel
theorem dL_cell_8 : decode cL_cell 8 = .ok (.iaload, 1) := by decide +kernel
theorem dL_cell_9 : decode cL_cell 9 = .ok (.goto 4, 3) := by decide +kernel
theorem dL_cell_12 : decode cL_cell 12 = .ok (.iconst 0, 1) := by decide +kernel
theorem dL_cell_13 : decode cL_cell 13 = .ok (.ireturn, 1) := by decide +kernel
theorem dL_law_0 : decode cL_law 0 = .ok (.new 7, 3) := by decide +kernel
theorem dL_law_3 : decode cL_law 3 = .ok (.dup, 1) := by decide +kernel
theorem dL_law_4 : decode cL_law 4 = .ok (.aload_n 0, 1) := by decide +kernel
theorem dL_law_5 : decode cL_law 5 = .ok (.iconst 0, 1) := by decide +kernel
theorem dL_law_6 : decode cL_law 6 = .ok (.invokestatic 9, 3) := by decide +kernel
theorem dL_law_9 : decode cL_law 9 = .ok (.invokespecial 15, 3) := by decide +kernel
theorem dL_law_12 : decode cL_law 12 = .ok (.astore_n 1, 1) := by decide +kernel
theorem dL_law_13 : decode cL_law 13 = .ok (.new 18, 3) := by decide +kernel
theorem dL_law_16 : decode cL_law 16 = .ok (.dup, 1) := by decide +kernel
theorem dL_law_17 : decode cL_law 17 = .ok (.aload_n 0, 1) := by decide +kernel
theorem dL_law_18 : decode cL_law 18 = .ok (.iconst 0, 1) := by decide +kernel
theorem dL_law_19 : decode cL_law 19 = .ok (.invokestatic 9, 3) := by decide +kernel
theorem dL_law_22 : decode cL_law 22 = .ok (.invokespecial 20, 3) := by decide +kernel
theorem dL_law_25 : decode cL_law 25 = .ok (.astore_n 2, 1) := by decide +kernel
theorem dL_law_26 : decode cL_law 26 = .ok (.iconst 1, 1) := by decide +kernel
theorem dL_law_27 : decode cL_law 27 = .ok (.istore_n 3, 1) := by decide +kernel
theorem dL_law_28 : decode cL_law 28 = .ok (.iload_n 3, 1) := by decide +kernel
theorem dL_law_29 : decode cL_law 29 = .ok (.aload_n 0, 1) := by decide +kernel
theorem dL_law_30 : decode cL_law 30 = .ok (.arraylength, 1) := by decide +kernel
theorem dL_law_31 : decode cL_law 31 = .ok (.iconst 5, 1) := by decide +kernel
theorem dL_law_32 : decode cL_law 32 = .ok (.isub, 1) := by decide +kernel
theorem dL_law_33 : decode cL_law 33 = .ok (.if_icmp .gt 540, 3) := by decide +kernel
theorem dL_law_36 : decode cL_law 36 = .ok (.aload_n 0, 1) := by decide +kernel
theorem dL_law_37 : decode cL_law 37 = .ok (.iload_n 3, 1) := by decide +kernel
theorem dL_law_38 : decode cL_law 38 = .ok (.iaload, 1) := by decide +kernel
theorem dL_law_39 : decode cL_law 39 = .ok (.bipush 15, 2) := by decide +kernel
theorem dL_law_41 : decode cL_law 41 = .ok (.iand, 1) := by decide +kernel
theorem dL_law_42 : decode cL_law 42 = .ok (.tableswitch 525 0 12 #[66, 99, 132, 185, 234, 283, 306, 329, 352, 375, 408, 461, 512], 66) := by decide +kernel
theorem dL_law_108 : decode cL_law 108 = .ok (.aload_n 1, 1) := by decide +kernel
theorem dL_law_109 : decode cL_law 109 = .ok (.aload_n 0, 1) := by decide +kernel
theorem dL_law_110 : decode cL_law 110 = .ok (.iload_n 3, 1) := by decide +kernel
theorem dL_law_111 : decode cL_law 111 = .ok (.iconst 1, 1) := by decide +kernel
theorem dL_law_112 : decode cL_law 112 = .ok (.iadd, 1) := by decide +kernel
theorem dL_law_113 : decode cL_law 113 = .ok (.iaload, 1) := by decide +kernel
theorem dL_law_114 : decode cL_law 114 = .ok (.aload_n 0, 1) := by decide +kernel
theorem dL_law_115 : decode cL_law 115 = .ok (.iload_n 3, 1) := by decide +kernel
theorem dL_law_116 : decode cL_law 116 = .ok (.iconst 2, 1) := by decide +kernel
theorem dL_law_117 : decode cL_law 117 = .ok (.iadd, 1) := by decide +kernel
theorem dL_law_118 : decode cL_law 118 = .ok (.iaload, 1) := by decide +kernel
theorem dL_law_119 : decode cL_law 119 = .ok (.invokevirtual 21, 3) := by decide +kernel
theorem dL_law_122 : decode cL_law 122 = .ok (.aload_n 2, 1) := by decide +kernel
theorem dL_law_123 : decode cL_law 123 = .ok (.aload_n 0, 1) := by decide +kernel
theorem dL_law_124 : decode cL_law 124 = .ok (.iload_n 3, 1) := by decide +kernel
theorem dL_law_125 : decode cL_law 125 = .ok (.iconst 1, 1) := by decide +kernel
theorem dL_law_126 : decode cL_law 126 = .ok (.iadd, 1) := by decide +kernel
theorem dL_law_127 : decode cL_law 127 = .ok (.iaload, 1) := by decide +kernel
theorem dL_law_128 : decode cL_law 128 = .ok (.aload_n 0, 1) := by decide +kernel
theorem dL_law_129 : decode cL_law 129 = .ok (.iload_n 3, 1) := by decide +kernel
theorem dL_law_130 : decode cL_law 130 = .ok (.iconst 2, 1) := by decide +kernel
theorem dL_law_131 : decode cL_law 131 = .ok (.iadd, 1) := by decide +kernel
theorem dL_law_132 : decode cL_law 132 = .ok (.iaload, 1) := by decide +kernel
theorem dL_law_133 : decode cL_law 133 = .ok (.invokevirtual 25, 3) := by decide +kernel
theorem dL_law_136 : decode cL_law 136 = .ok (.if_icmp .eq 431, 3) := by decide +kernel
theorem dL_law_139 : decode cL_law 139 = .ok (.iconst 0, 1) := by decide +kernel
theorem dL_law_140 : decode cL_law 140 = .ok (.ireturn, 1) := by decide +kernel
theorem dL_law_141 : decode cL_law 141 = .ok (.aload_n 1, 1) := by decide +kernel
theorem dL_law_142 : decode cL_law 142 = .ok (.aload_n 0, 1) := by decide +kernel
theorem dL_law_143 : decode cL_law 143 = .ok (.iload_n 3, 1) := by decide +kernel
theorem dL_law_144 : decode cL_law 144 = .ok (.iconst 1, 1) := by decide +kernel
theorem dL_law_145 : decode cL_law 145 = .ok (.iadd, 1) := by decide +kernel
theorem dL_law_146 : decode cL_law 146 = .ok (.iaload, 1) := by decide +kernel
theorem dL_law_147 : decode cL_law 147 = .ok (.aload_n 0, 1) := by decide +kernel
theorem dL_law_148 : decode cL_law 148 = .ok (.iload_n 3, 1) := by decide +kernel
theorem dL_law_149 : decode cL_law 149 = .ok (.iconst 2, 1) := by decide +kernel
theorem dL_law_150 : decode cL_law 150 = .ok (.iadd, 1) := by decide +kernel
theorem dL_law_151 : decode cL_law 151 = .ok (.iaload, 1) := by decide +kernel
theorem dL_law_152 : decode cL_law 152 = .ok (.invokevirtual 26, 3) := by decide +kernel
theorem dL_law_155 : decode cL_law 155 = .ok (.aload_n 2, 1) := by decide +kernel
theorem dL_law_156 : decode cL_law 156 = .ok (.aload_n 0, 1) := by decide +kernel
theorem dL_law_157 : decode cL_law 157 = .ok (.iload_n 3, 1) := by decide +kernel
theorem dL_law_158 : decode cL_law 158 = .ok (.iconst 1, 1) := by decide +kernel
theorem dL_law_159 : decode cL_law 159 = .ok (.iadd, 1) := by decide +kernel
theorem dL_law_160 : decode cL_law 160 = .ok (.iaload, 1) := by decide +kernel
theorem dL_law_161 : decode cL_law 161 = .ok (.aload_n 0, 1) := by decide +kernel
theorem dL_law_162 : decode cL_law 162 = .ok (.iload_n 3, 1) := by decide +kernel
theorem dL_law_163 : decode cL_law 163 = .ok (.iconst 2, 1) := by decide +kernel
theorem dL_law_164 : decode cL_law 164 = .ok (.iadd, 1) := by decide +kernel
theorem dL_law_165 : decode cL_law 165 = .ok (.iaload, 1) := by decide +kernel
theorem dL_law_166 : decode cL_law 166 = .ok (.invokevirtual 29, 3) := by decide +kernel
theorem dL_law_169 : decode cL_law 169 = .ok (.if_icmp .eq 398, 3) := by decide +kernel
theorem dL_law_172 : decode cL_law 172 = .ok (.iconst 0, 1) := by decide +kernel
theorem dL_law_173 : decode cL_law 173 = .ok (.ireturn, 1) := by decide +kernel
theorem dL_law_174 : decode cL_law 174 = .ok (.aload_n 1, 1) := by decide +kernel
theorem dL_law_175 : decode cL_law 175 = .ok (.aload_n 0, 1) := by decide +kernel
theorem dL_law_176 : decode cL_law 176 = .ok (.iload_n 3, 1) := by decide +kernel
theorem dL_law_177 : decode cL_law 177 = .ok (.iconst 1, 1) := by decide +kernel
theorem dL_law_178 : decode cL_law 178 = .ok (.iadd, 1) := by decide +kernel
theorem dL_law_179 : decode cL_law 179 = .ok (.iaload, 1) := by decide +kernel
theorem dL_law_180 : decode cL_law 180 = .ok (.aload_n 0, 1) := by decide +kernel
theorem dL_law_181 : decode cL_law 181 = .ok (.iload_n 3, 1) := by decide +kernel
theorem dL_law_182 : decode cL_law 182 = .ok (.iconst 2, 1) := by decide +kernel
theorem dL_law_183 : decode cL_law 183 = .ok (.iadd, 1) := by decide +kernel
theorem dL_law_184 : decode cL_law 184 = .ok (.iaload, 1) := by decide +kernel
theorem dL_law_185 : decode cL_law 185 = .ok (.aload_n 0, 1) := by decide +kernel
theorem dL_law_186 : decode cL_law 186 = .ok (.iload_n 3, 1) := by decide +kernel
theorem dL_law_187 : decode cL_law 187 = .ok (.iconst 3, 1) := by decide +kernel
theorem dL_law_188 : decode cL_law 188 = .ok (.iadd, 1) := by decide +kernel
theorem dL_law_189 : decode cL_law 189 = .ok (.iaload, 1) := by decide +kernel
theorem dL_law_190 : decode cL_law 190 = .ok (.aload_n 0, 1) := by decide +kernel
theorem dL_law_191 : decode cL_law 191 = .ok (.iload_n 3, 1) := by decide +kernel
theorem dL_law_192 : decode cL_law 192 = .ok (.iconst 4, 1) := by decide +kernel
theorem dL_law_193 : decode cL_law 193 = .ok (.iadd, 1) := by decide +kernel
theorem dL_law_194 : decode cL_law 194 = .ok (.iaload, 1) := by decide +kernel
theorem dL_law_195 : decode cL_law 195 = .ok (.invokevirtual 30, 3) := by decide +kernel
theorem dL_law_198 : decode cL_law 198 = .ok (.aload_n 2, 1) := by decide +kernel
theorem dL_law_199 : decode cL_law 199 = .ok (.aload_n 0, 1) := by decide +kernel
theorem dL_law_200 : decode cL_law 200 = .ok (.iload_n 3, 1) := by decide +kernel
theorem dL_law_201 : decode cL_law 201 = .ok (.iconst 1, 1) := by decide +kernel
theorem dL_law_202 : decode cL_law 202 = .ok (.iadd, 1) := by decide +kernel
theorem dL_law_203 : decode cL_law 203 = .ok (.iaload, 1) := by decide +kernel
theorem dL_law_204 : decode cL_law 204 = .ok (.aload_n 0, 1) := by decide +kernel
theorem dL_law_205 : decode cL_law 205 = .ok (.iload_n 3, 1) := by decide +kernel
theorem dL_law_206 : decode cL_law 206 = .ok (.iconst 2, 1) := by decide +kernel
theorem dL_law_207 : decode cL_law 207 = .ok (.iadd, 1) := by decide +kernel
theorem dL_law_208 : decode cL_law 208 = .ok (.iaload, 1) := by decide +kernel
theorem dL_law_209 : decode cL_law 209 = .ok (.aload_n 0, 1) := by decide +kernel
theorem dL_law_210 : decode cL_law 210 = .ok (.iload_n 3, 1) := by decide +kernel
theorem dL_law_211 : decode cL_law 211 = .ok (.iconst 3, 1) := by decide +kernel
theorem dL_law_212 : decode cL_law 212 = .ok (.iadd, 1) := by decide +kernel
theorem dL_law_213 : decode cL_law 213 = .ok (.iaload, 1) := by decide +kernel
theorem dL_law_214 : decode cL_law 214 = .ok (.aload_n 0, 1) := by decide +kernel
theorem dL_law_215 : decode cL_law 215 = .ok (.iload_n 3, 1) := by decide +kernel
theorem dL_law_216 : decode cL_law 216 = .ok (.iconst 4, 1) := by decide +kernel
theorem dL_law_217 : decode cL_law 217 = .ok (.iadd, 1) := by decide +kernel
theorem dL_law_218 : decode cL_law 218 = .ok (.iaload, 1) := by decide +kernel
theorem dL_law_219 : decode cL_law 219 = .ok (.invokevirtual 34, 3) := by decide +kernel
theorem dL_law_222 : decode cL_law 222 = .ok (.if_icmp .eq 345, 3) := by decide +kernel
theorem dL_law_225 : decode cL_law 225 = .ok (.iconst 0, 1) := by decide +kernel
theorem dL_law_226 : decode cL_law 226 = .ok (.ireturn, 1) := by decide +kernel
theorem dL_law_227 : decode cL_law 227 = .ok (.aload_n 1, 1) := by decide +kernel
theorem dL_law_228 : decode cL_law 228 = .ok (.aload_n 0, 1) := by decide +kernel
theorem dL_law_229 : decode cL_law 229 = .ok (.iload_n 3, 1) := by decide +kernel
theorem dL_law_230 : decode cL_law 230 = .ok (.iconst 1, 1) := by decide +kernel
theorem dL_law_231 : decode cL_law 231 = .ok (.iadd, 1) := by decide +kernel
theorem dL_law_232 : decode cL_law 232 = .ok (.iaload, 1) := by decide +kernel
theorem dL_law_233 : decode cL_law 233 = .ok (.aload_n 0, 1) := by decide +kernel
theorem dL_law_234 : decode cL_law 234 = .ok (.iload_n 3, 1) := by decide +kernel
theorem dL_law_235 : decode cL_law 235 = .ok (.iconst 2, 1) := by decide +kernel
theorem dL_law_236 : decode cL_law 236 = .ok (.iadd, 1) := by decide +kernel
theorem dL_law_237 : decode cL_law 237 = .ok (.iaload, 1) := by decide +kernel
theorem dL_law_238 : decode cL_law 238 = .ok (.ifCond .eq 7, 3) := by decide +kernel
theorem dL_law_241 : decode cL_law 241 = .ok (.iconst 1, 1) := by decide +kernel
theorem dL_law_242 : decode cL_law 242 = .ok (.goto 4, 3) := by decide +kernel
theorem dL_law_245 : decode cL_law 245 = .ok (.iconst 0, 1) := by decide +kernel
theorem dL_law_246 : decode cL_law 246 = .ok (.invokevirtual 35, 3) := by decide +kernel
theorem dL_law_249 : decode cL_law 249 = .ok (.aload_n 2, 1) := by decide +kernel
theorem dL_law_250 : decode cL_law 250 = .ok (.aload_n 0, 1) := by decide +kernel
theorem dL_law_251 : decode cL_law 251 = .ok (.iload_n 3, 1) := by decide +kernel
theorem dL_law_252 : decode cL_law 252 = .ok (.iconst 1, 1) := by decide +kernel
theorem dL_law_253 : decode cL_law 253 = .ok (.iadd, 1) := by decide +kernel
theorem dL_law_254 : decode cL_law 254 = .ok (.iaload, 1) := by decide +kernel
theorem dL_law_255 : decode cL_law 255 = .ok (.aload_n 0, 1) := by decide +kernel
theorem dL_law_256 : decode cL_law 256 = .ok (.iload_n 3, 1) := by decide +kernel
theorem dL_law_257 : decode cL_law 257 = .ok (.iconst 2, 1) := by decide +kernel
theorem dL_law_258 : decode cL_law 258 = .ok (.iadd, 1) := by decide +kernel
theorem dL_law_259 : decode cL_law 259 = .ok (.iaload, 1) := by decide +kernel
theorem dL_law_260 : decode cL_law 260 = .ok (.ifCond .eq 7, 3) := by decide +kernel
theorem dL_law_263 : decode cL_law 263 = .ok (.iconst 1, 1) := by decide +kernel
theorem dL_law_264 : decode cL_law 264 = .ok (.goto 4, 3) := by decide +kernel
theorem dL_law_267 : decode cL_law 267 = .ok (.iconst 0, 1) := by decide +kernel
theorem dL_law_268 : decode cL_law 268 = .ok (.invokevirtual 39, 3) := by decide +kernel
theorem dL_law_271 : decode cL_law 271 = .ok (.if_icmp .eq 296, 3) := by decide +kernel
theorem dL_law_274 : decode cL_law 274 = .ok (.iconst 0, 1) := by decide +kernel
theorem dL_law_275 : decode cL_law 275 = .ok (.ireturn, 1) := by decide +kernel
theorem dL_law_276 : decode cL_law 276 = .ok (.aload_n 1, 1) := by decide +kernel
theorem dL_law_277 : decode cL_law 277 = .ok (.aload_n 0, 1) := by decide +kernel
theorem dL_law_278 : decode cL_law 278 = .ok (.iload_n 3, 1) := by decide +kernel
theorem dL_law_279 : decode cL_law 279 = .ok (.iconst 1, 1) := by decide +kernel
theorem dL_law_280 : decode cL_law 280 = .ok (.iadd, 1) := by decide +kernel
theorem dL_law_281 : decode cL_law 281 = .ok (.iaload, 1) := by decide +kernel
theorem dL_law_282 : decode cL_law 282 = .ok (.aload_n 0, 1) := by decide +kernel
theorem dL_law_283 : decode cL_law 283 = .ok (.iload_n 3, 1) := by decide +kernel
theorem dL_law_284 : decode cL_law 284 = .ok (.iconst 2, 1) := by decide +kernel
theorem dL_law_285 : decode cL_law 285 = .ok (.iadd, 1) := by decide +kernel
theorem dL_law_286 : decode cL_law 286 = .ok (.iaload, 1) := by decide +kernel
theorem dL_law_287 : decode cL_law 287 = .ok (.ifCond .eq 7, 3) := by decide +kernel
theorem dL_law_290 : decode cL_law 290 = .ok (.iconst 1, 1) := by decide +kernel
theorem dL_law_291 : decode cL_law 291 = .ok (.goto 4, 3) := by decide +kernel
theorem dL_law_294 : decode cL_law 294 = .ok (.iconst 0, 1) := by decide +kernel
theorem dL_law_295 : decode cL_law 295 = .ok (.invokevirtual 40, 3) := by decide +kernel
theorem dL_law_298 : decode cL_law 298 = .ok (.aload_n 2, 1) := by decide +kernel
theorem dL_law_299 : decode cL_law 299 = .ok (.aload_n 0, 1) := by decide +kernel
theorem dL_law_300 : decode cL_law 300 = .ok (.iload_n 3, 1) := by decide +kernel
theorem dL_law_301 : decode cL_law 301 = .ok (.iconst 1, 1) := by decide +kernel
theorem dL_law_302 : decode cL_law 302 = .ok (.iadd, 1) := by decide +kernel
theorem dL_law_303 : decode cL_law 303 = .ok (.iaload, 1) := by decide +kernel
theorem dL_law_304 : decode cL_law 304 = .ok (.aload_n 0, 1) := by decide +kernel
theorem dL_law_305 : decode cL_law 305 = .ok (.iload_n 3, 1) := by decide +kernel
theorem dL_law_306 : decode cL_law 306 = .ok (.iconst 2, 1) := by decide +kernel
theorem dL_law_307 : decode cL_law 307 = .ok (.iadd, 1) := by decide +kernel
theorem dL_law_308 : decode cL_law 308 = .ok (.iaload, 1) := by decide +kernel
theorem dL_law_309 : decode cL_law 309 = .ok (.ifCond .eq 7, 3) := by decide +kernel
theorem dL_law_312 : decode cL_law 312 = .ok (.iconst 1, 1) := by decide +kernel
theorem dL_law_313 : decode cL_law 313 = .ok (.goto 4, 3) := by decide +kernel
theorem dL_law_316 : decode cL_law 316 = .ok (.iconst 0, 1) := by decide +kernel
theorem dL_law_317 : decode cL_law 317 = .ok (.invokevirtual 43, 3) := by decide +kernel
theorem dL_law_320 : decode cL_law 320 = .ok (.if_icmp .eq 247, 3) := by decide +kernel
theorem dL_law_323 : decode cL_law 323 = .ok (.iconst 0, 1) := by decide +kernel
theorem dL_law_324 : decode cL_law 324 = .ok (.ireturn, 1) := by decide +kernel
theorem dL_law_325 : decode cL_law 325 = .ok (.aload_n 1, 1) := by decide +kernel
theorem dL_law_326 : decode cL_law 326 = .ok (.aload_n 0, 1) := by decide +kernel
theorem dL_law_327 : decode cL_law 327 = .ok (.iload_n 3, 1) := by decide +kernel
theorem dL_law_328 : decode cL_law 328 = .ok (.iconst 1, 1) := by decide +kernel
theorem dL_law_329 : decode cL_law 329 = .ok (.iadd, 1) := by decide +kernel
theorem dL_law_330 : decode cL_law 330 = .ok (.iaload, 1) := by decide +kernel
theorem dL_law_331 : decode cL_law 331 = .ok (.invokevirtual 44, 3) := by decide +kernel
theorem dL_law_334 : decode cL_law 334 = .ok (.aload_n 2, 1) := by decide +kernel
theorem dL_law_335 : decode cL_law 335 = .ok (.aload_n 0, 1) := by decide +kernel
theorem dL_law_336 : decode cL_law 336 = .ok (.iload_n 3, 1) := by decide +kernel
theorem dL_law_337 : decode cL_law 337 = .ok (.iconst 1, 1) := by decide +kernel
theorem dL_law_338 : decode cL_law 338 = .ok (.iadd, 1) := by decide +kernel
theorem dL_law_339 : decode cL_law 339 = .ok (.iaload, 1) := by decide +kernel
theorem dL_law_340 : decode cL_law 340 = .ok (.invokevirtual 48, 3) := by decide +kernel
theorem dL_law_343 : decode cL_law 343 = .ok (.if_icmp .eq 224, 3) := by decide +kernel
theorem dL_law_346 : decode cL_law 346 = .ok (.iconst 0, 1) := by decide +kernel
theorem dL_law_347 : decode cL_law 347 = .ok (.ireturn, 1) := by decide +kernel
theorem dL_law_348 : decode cL_law 348 = .ok (.aload_n 1, 1) := by decide +kernel
theorem dL_law_349 : decode cL_law 349 = .ok (.aload_n 0, 1) := by decide +kernel
theorem dL_law_350 : decode cL_law 350 = .ok (.iload_n 3, 1) := by decide +kernel
theorem dL_law_351 : decode cL_law 351 = .ok (.iconst 1, 1) := by decide +kernel
theorem dL_law_352 : decode cL_law 352 = .ok (.iadd, 1) := by decide +kernel
theorem dL_law_353 : decode cL_law 353 = .ok (.iaload, 1) := by decide +kernel
theorem dL_law_354 : decode cL_law 354 = .ok (.invokevirtual 49, 3) := by decide +kernel
theorem dL_law_357 : decode cL_law 357 = .ok (.aload_n 2, 1) := by decide +kernel
theorem dL_law_358 : decode cL_law 358 = .ok (.aload_n 0, 1) := by decide +kernel
theorem dL_law_359 : decode cL_law 359 = .ok (.iload_n 3, 1) := by decide +kernel
theorem dL_law_360 : decode cL_law 360 = .ok (.iconst 1, 1) := by decide +kernel
theorem dL_law_361 : decode cL_law 361 = .ok (.iadd, 1) := by decide +kernel
theorem dL_law_362 : decode cL_law 362 = .ok (.iaload, 1) := by decide +kernel
theorem dL_law_363 : decode cL_law 363 = .ok (.invokevirtual 53, 3) := by decide +kernel
theorem dL_law_366 : decode cL_law 366 = .ok (.if_icmp .eq 201, 3) := by decide +kernel
theorem dL_law_369 : decode cL_law 369 = .ok (.iconst 0, 1) := by decide +kernel
theorem dL_law_370 : decode cL_law 370 = .ok (.ireturn, 1) := by decide +kernel
theorem dL_law_371 : decode cL_law 371 = .ok (.aload_n 1, 1) := by decide +kernel
theorem dL_law_372 : decode cL_law 372 = .ok (.aload_n 0, 1) := by decide +kernel
theorem dL_law_373 : decode cL_law 373 = .ok (.iload_n 3, 1) := by decide +kernel
theorem dL_law_374 : decode cL_law 374 = .ok (.iconst 1, 1) := by decide +kernel
theorem dL_law_375 : decode cL_law 375 = .ok (.iadd, 1) := by decide +kernel
theorem dL_law_376 : decode cL_law 376 = .ok (.iaload, 1) := by decide +kernel
theorem dL_law_377 : decode cL_law 377 = .ok (.invokevirtual 54, 3) := by decide +kernel
theorem dL_law_380 : decode cL_law 380 = .ok (.aload_n 2, 1) := by decide +kernel
theorem dL_law_381 : decode cL_law 381 = .ok (.aload_n 0, 1) := by decide +kernel
theorem dL_law_382 : decode cL_law 382 = .ok (.iload_n 3, 1) := by decide +kernel
theorem dL_law_383 : decode cL_law 383 = .ok (.iconst 1, 1) := by decide +kernel
theorem dL_law_384 : decode cL_law 384 = .ok (.iadd, 1) := by decide +kernel
theorem dL_law_385 : decode cL_law 385 = .ok (.iaload, 1) := by decide +kernel
theorem dL_law_386 : decode cL_law 386 = .ok (.invokevirtual 57, 3) := by decide +kernel
theorem dL_law_389 : decode cL_law 389 = .ok (.if_icmp .eq 178, 3) := by decide +kernel
theorem dL_law_392 : decode cL_law 392 = .ok (.iconst 0, 1) := by decide +kernel
theorem dL_law_393 : decode cL_law 393 = .ok (.ireturn, 1) := by decide +kernel
theorem dL_law_394 : decode cL_law 394 = .ok (.aload_n 1, 1) := by decide +kernel
theorem dL_law_395 : decode cL_law 395 = .ok (.aload_n 0, 1) := by decide +kernel
theorem dL_law_396 : decode cL_law 396 = .ok (.iload_n 3, 1) := by decide +kernel
theorem dL_law_397 : decode cL_law 397 = .ok (.iconst 1, 1) := by decide +kernel
theorem dL_law_398 : decode cL_law 398 = .ok (.iadd, 1) := by decide +kernel
theorem dL_law_399 : decode cL_law 399 = .ok (.iaload, 1) := by decide +kernel
theorem dL_law_400 : decode cL_law 400 = .ok (.invokevirtual 58, 3) := by decide +kernel
theorem dL_law_403 : decode cL_law 403 = .ok (.aload_n 2, 1) := by decide +kernel
theorem dL_law_404 : decode cL_law 404 = .ok (.aload_n 0, 1) := by decide +kernel
theorem dL_law_405 : decode cL_law 405 = .ok (.iload_n 3, 1) := by decide +kernel
theorem dL_law_406 : decode cL_law 406 = .ok (.iconst 1, 1) := by decide +kernel
theorem dL_law_407 : decode cL_law 407 = .ok (.iadd, 1) := by decide +kernel
theorem dL_law_408 : decode cL_law 408 = .ok (.iaload, 1) := by decide +kernel
theorem dL_law_409 : decode cL_law 409 = .ok (.invokevirtual 61, 3) := by decide +kernel
theorem dL_law_412 : decode cL_law 412 = .ok (.if_icmp .eq 155, 3) := by decide +kernel
theorem dL_law_415 : decode cL_law 415 = .ok (.iconst 0, 1) := by decide +kernel
theorem dL_law_416 : decode cL_law 416 = .ok (.ireturn, 1) := by decide +kernel
theorem dL_law_417 : decode cL_law 417 = .ok (.aload_n 1, 1) := by decide +kernel
theorem dL_law_418 : decode cL_law 418 = .ok (.aload_n 0, 1) := by decide +kernel
theorem dL_law_419 : decode cL_law 419 = .ok (.iload_n 3, 1) := by decide +kernel
theorem dL_law_420 : decode cL_law 420 = .ok (.iconst 1, 1) := by decide +kernel
theorem dL_law_421 : decode cL_law 421 = .ok (.iadd, 1) := by decide +kernel
theorem dL_law_422 : decode cL_law 422 = .ok (.iaload, 1) := by decide +kernel
theorem dL_law_423 : decode cL_law 423 = .ok (.aload_n 0, 1) := by decide +kernel
theorem dL_law_424 : decode cL_law 424 = .ok (.iload_n 3, 1) := by decide +kernel
theorem dL_law_425 : decode cL_law 425 = .ok (.iconst 2, 1) := by decide +kernel
theorem dL_law_426 : decode cL_law 426 = .ok (.iadd, 1) := by decide +kernel
theorem dL_law_427 : decode cL_law 427 = .ok (.iaload, 1) := by decide +kernel
theorem dL_law_428 : decode cL_law 428 = .ok (.invokevirtual 62, 3) := by decide +kernel
theorem dL_law_431 : decode cL_law 431 = .ok (.aload_n 2, 1) := by decide +kernel
theorem dL_law_432 : decode cL_law 432 = .ok (.aload_n 0, 1) := by decide +kernel
theorem dL_law_433 : decode cL_law 433 = .ok (.iload_n 3, 1) := by decide +kernel
theorem dL_law_434 : decode cL_law 434 = .ok (.iconst 1, 1) := by decide +kernel
theorem dL_law_435 : decode cL_law 435 = .ok (.iadd, 1) := by decide +kernel
theorem dL_law_436 : decode cL_law 436 = .ok (.iaload, 1) := by decide +kernel
theorem dL_law_437 : decode cL_law 437 = .ok (.aload_n 0, 1) := by decide +kernel
theorem dL_law_438 : decode cL_law 438 = .ok (.iload_n 3, 1) := by decide +kernel
theorem dL_law_439 : decode cL_law 439 = .ok (.iconst 2, 1) := by decide +kernel
theorem dL_law_440 : decode cL_law 440 = .ok (.iadd, 1) := by decide +kernel
theorem dL_law_441 : decode cL_law 441 = .ok (.iaload, 1) := by decide +kernel
theorem dL_law_442 : decode cL_law 442 = .ok (.invokevirtual 66, 3) := by decide +kernel
theorem dL_law_445 : decode cL_law 445 = .ok (.if_icmp .eq 122, 3) := by decide +kernel
theorem dL_law_448 : decode cL_law 448 = .ok (.iconst 0, 1) := by decide +kernel
theorem dL_law_449 : decode cL_law 449 = .ok (.ireturn, 1) := by decide +kernel
theorem dL_law_450 : decode cL_law 450 = .ok (.aload_n 1, 1) := by decide +kernel
theorem dL_law_451 : decode cL_law 451 = .ok (.aload_n 0, 1) := by decide +kernel
theorem dL_law_452 : decode cL_law 452 = .ok (.iload_n 3, 1) := by decide +kernel
theorem dL_law_453 : decode cL_law 453 = .ok (.iconst 1, 1) := by decide +kernel
theorem dL_law_454 : decode cL_law 454 = .ok (.iadd, 1) := by decide +kernel
theorem dL_law_455 : decode cL_law 455 = .ok (.iaload, 1) := by decide +kernel
theorem dL_law_456 : decode cL_law 456 = .ok (.invokevirtual 67, 3) := by decide +kernel
theorem dL_law_459 : decode cL_law 459 = .ok (.f2d, 1) := by decide +kernel
theorem dL_law_460 : decode cL_law 460 = .ok (.dstore 4, 2) := by decide +kernel
theorem dL_law_462 : decode cL_law 462 = .ok (.aload_n 2, 1) := by decide +kernel
theorem dL_law_463 : decode cL_law 463 = .ok (.aload_n 0, 1) := by decide +kernel
theorem dL_law_464 : decode cL_law 464 = .ok (.iload_n 3, 1) := by decide +kernel
theorem dL_law_465 : decode cL_law 465 = .ok (.iconst 1, 1) := by decide +kernel
theorem dL_law_466 : decode cL_law 466 = .ok (.iadd, 1) := by decide +kernel
theorem dL_law_467 : decode cL_law 467 = .ok (.iaload, 1) := by decide +kernel
theorem dL_law_468 : decode cL_law 468 = .ok (.invokevirtual 71, 3) := by decide +kernel
theorem dL_law_471 : decode cL_law 471 = .ok (.f2d, 1) := by decide +kernel
theorem dL_law_472 : decode cL_law 472 = .ok (.dstore 6, 2) := by decide +kernel
theorem dL_law_474 : decode cL_law 474 = .ok (.dload 4, 2) := by decide +kernel
theorem dL_law_476 : decode cL_law 476 = .ok (.dload 6, 2) := by decide +kernel
theorem dL_law_478 : decode cL_law 478 = .ok (.dcmp .l, 1) := by decide +kernel
theorem dL_law_479 : decode cL_law 479 = .ok (.ifCond .eq 21, 3) := by decide +kernel
theorem dL_law_482 : decode cL_law 482 = .ok (.dload 4, 2) := by decide +kernel
theorem dL_law_484 : decode cL_law 484 = .ok (.dload 4, 2) := by decide +kernel
theorem dL_law_486 : decode cL_law 486 = .ok (.dcmp .l, 1) := by decide +kernel
theorem dL_law_487 : decode cL_law 487 = .ok (.ifCond .eq 11, 3) := by decide +kernel
theorem dL_law_490 : decode cL_law 490 = .ok (.dload 6, 2) := by decide +kernel
theorem dL_law_492 : decode cL_law 492 = .ok (.dload 6, 2) := by decide +kernel
theorem dL_law_494 : decode cL_law 494 = .ok (.dcmp .l, 1) := by decide +kernel
theorem dL_law_495 : decode cL_law 495 = .ok (.ifCond .ne 5, 3) := by decide +kernel
theorem dL_law_498 : decode cL_law 498 = .ok (.iconst 0, 1) := by decide +kernel
theorem dL_law_499 : decode cL_law 499 = .ok (.ireturn, 1) := by decide +kernel
theorem dL_law_500 : decode cL_law 500 = .ok (.goto 67, 3) := by decide +kernel
theorem dL_law_503 : decode cL_law 503 = .ok (.aload_n 1, 1) := by decide +kernel
theorem dL_law_504 : decode cL_law 504 = .ok (.aload_n 0, 1) := by decide +kernel
theorem dL_law_505 : decode cL_law 505 = .ok (.iload_n 3, 1) := by decide +kernel
theorem dL_law_506 : decode cL_law 506 = .ok (.iconst 1, 1) := by decide +kernel
theorem dL_law_507 : decode cL_law 507 = .ok (.iadd, 1) := by decide +kernel
theorem dL_law_508 : decode cL_law 508 = .ok (.iaload, 1) := by decide +kernel
theorem dL_law_509 : decode cL_law 509 = .ok (.invokevirtual 72, 3) := by decide +kernel
theorem dL_law_512 : decode cL_law 512 = .ok (.dstore 4, 2) := by decide +kernel
theorem dL_law_514 : decode cL_law 514 = .ok (.aload_n 2, 1) := by decide +kernel
theorem dL_law_515 : decode cL_law 515 = .ok (.aload_n 0, 1) := by decide +kernel
theorem dL_law_516 : decode cL_law 516 = .ok (.iload_n 3, 1) := by decide +kernel
theorem dL_law_517 : decode cL_law 517 = .ok (.iconst 1, 1) := by decide +kernel
theorem dL_law_518 : decode cL_law 518 = .ok (.iadd, 1) := by decide +kernel
theorem dL_law_519 : decode cL_law 519 = .ok (.iaload, 1) := by decide +kernel
theorem dL_law_520 : decode cL_law 520 = .ok (.invokevirtual 76, 3) := by decide +kernel
theorem dL_law_523 : decode cL_law 523 = .ok (.dstore 6, 2) := by decide +kernel
theorem dL_law_525 : decode cL_law 525 = .ok (.dload 4, 2) := by decide +kernel
theorem dL_law_527 : decode cL_law 527 = .ok (.dload 6, 2) := by decide +kernel
theorem dL_law_529 : decode cL_law 529 = .ok (.dcmp .l, 1) := by decide +kernel
theorem dL_law_530 : decode cL_law 530 = .ok (.ifCond .eq 21, 3) := by decide +kernel
theorem dL_law_533 : decode cL_law 533 = .ok (.dload 4, 2) := by decide +kernel
theorem dL_law_535 : decode cL_law 535 = .ok (.dload 4, 2) := by decide +kernel
theorem dL_law_537 : decode cL_law 537 = .ok (.dcmp .l, 1) := by decide +kernel
theorem dL_law_538 : decode cL_law 538 = .ok (.ifCond .eq 11, 3) := by decide +kernel
theorem dL_law_541 : decode cL_law 541 = .ok (.dload 6, 2) := by decide +kernel
theorem dL_law_543 : decode cL_law 543 = .ok (.dload 6, 2) := by decide +kernel
theorem dL_law_545 : decode cL_law 545 = .ok (.dcmp .l, 1) := by decide +kernel
theorem dL_law_546 : decode cL_law 546 = .ok (.ifCond .ne 5, 3) := by decide +kernel
theorem dL_law_549 : decode cL_law 549 = .ok (.iconst 0, 1) := by decide +kernel
theorem dL_law_550 : decode cL_law 550 = .ok (.ireturn, 1) := by decide +kernel
theorem dL_law_551 : decode cL_law 551 = .ok (.goto 16, 3) := by decide +kernel
theorem dL_law_554 : decode cL_law 554 = .ok (.aload_n 1, 1) := by decide +kernel
theorem dL_law_555 : decode cL_law 555 = .ok (.invokevirtual 77, 3) := by decide +kernel
theorem dL_law_558 : decode cL_law 558 = .ok (.aload_n 2, 1) := by decide +kernel
theorem dL_law_559 : decode cL_law 559 = .ok (.invokevirtual 81, 3) := by decide +kernel
theorem dL_law_562 : decode cL_law 562 = .ok (.if_icmp .eq 5, 3) := by decide +kernel
theorem dL_law_565 : decode cL_law 565 = .ok (.iconst 0, 1) := by decide +kernel
theorem dL_law_566 : decode cL_law 566 = .ok (.ireturn, 1) := by decide +kernel
theorem dL_law_567 : decode cL_law 567 = .ok (.iinc 3 5, 3) := by decide +kernel
theorem dL_law_570 : decode cL_law 570 = .ok (.goto (-542), 3) := by decide +kernel
theorem dL_law_573 : decode cL_law 573 = .ok (.iconst 1, 1) := by decide +kernel
theorem dL_law_574 : decode cL_law 574 = .ok (.ireturn, 1) := by decide +kernel
end
section
/-! the state as a function: field, place -/
abbrev SX : Type := Nat → Nat → Int32
abbrev FX : Type := Nat → UInt32
def up2 (S : SX) (f i : Nat) (v : Int32) : SX := fun g k => if g = f ∧ k = i then v else S g k
theorem up2_eq (S : SX) (f i : Nat) (v : Int32) : up2 S f i v f i = v := by simp [up2]
theorem up2_f {S : SX} {f i g k : Nat} {v : Int32} (h : g ≠ f) : up2 S f i v g k = S g k := by simp [up2, h]
theorem up2_i {S : SX} {f i g k : Nat} {v : Int32} (h : k ≠ i) : up2 S f i v g k = S g k := by simp [up2, h]
theorem up2_ff {S : SX} {f i g : Nat} {v : Int32} (h : g ≠ f) : up2 S f i v g = S g := funext fun _ => up2_f h
theorem up2_upd (S : SX) (f i : Nat) (v : Int32) : up2 S f i v f = upd (S f) i v := funext fun k => by
  by_cases h : k = i
  · simp [up2, upd, h]
  · simp [up2, upd, h]
abbrev GX : Type := va_G × (Nat → ClassId)
def tyl (g : GX) : List (ClassId × FieldType) := [(g.2 0, .int), (g.2 1, .boolean), (g.2 2, .float), (g.2 3, .object RX2), (g.2 4, .object RX1)]
def isNest : Cond → Bool
  | .fieldLinkNest .. => true
  | .methodLinkNest .. => true
  | _ => false
def tb : List Cond := lw_tbl.filter goodWord
def nb : List Cond := lw_tbl.filter isNest
theorem tb_in {w : Cond} (i : Nat) (h : lw_tbl[i]? = some w) (hg : goodWord w = true) : w ∈ tb := List.mem_filter.mpr ⟨List.mem_of_getElem? h, hg⟩
theorem nb_in {w : Cond} (i : Nat) (h : lw_tbl[i]? = some w) (hg : isNest w = true) : w ∈ nb := List.mem_filter.mpr ⟨List.mem_of_getElem? h, hg⟩
theorem tb_good {ws : List Cond} (h : ∀ w ∈ ws, w ∈ tb) : GoodIn tb ws := fun w hw => ⟨h w hw, good_of_word (List.mem_filter.mp (h w hw)).2⟩
def NW (U : State) : Prop := ∀ w ∈ nb, va_Nw w U
theorem NW.warm {s U : State} (hW : s.WarmedH U.vm) (h : NW s) : NW U := by
  intro w hw
  have h1 := h w hw
  have h2 := (List.mem_filter.mp hw).2
  cases w <;> first | exact va_Nw.warmF hW h1 | exact va_Nw.warmM hW h1 | exact absurd h2 (by simp [isNest])
theorem NW.same {u U : State} (hv : u.vm = U.vm) (h : NW u) : NW U := by
  intro w hw
  have h1 := h w hw
  have h2 := (List.mem_filter.mp hw).2
  cases w <;> first | exact va_Nw.same rfl hv h1 | exact absurd h2 (by simp [isNest])
def KK (g : GX) (U : State) : Prop := va_K g.1 vwCl (tyl g) U ∧ NW U
theorem KK.warm {g : GX} {s U : State} (hW : s.WarmedH U.vm) (h : KK g s) : KK g U := ⟨va_K.moved hW.alike h.1, h.2.warm hW⟩
theorem KK.calling {g : GX} {U : State} {f : JFrame} {mk : MethodId} {a : Array Value} (h : KK g U) : KK g (U.calling f mk a) := ⟨va_K.moved (u := U) (U := U.calling f mk a) (Vm.Alike.refl U.vm) h.1, NW.same (u := U) (U := U.calling f mk a) rfl h.2⟩
/-! contracts: the picture before, the picture behind, the region, the arguments, the answer -/
def PR (g : GX) (Rep : Heap → Prop) (av : List Value) : Array Value → State → Prop := fun v U => v = av.toArray ∧ KK g U ∧ Rep U.heap
def QR (Rep' : Heap → Prop) (A : Nat → Prop) (r : Option Value) : Array Value → State → Outcome → State → Prop := fun _ st oc t => oc = .returned r ∧ Rep' t.heap ∧ va_F A st t
abbrev MR (l : Launch) (y : MethodName) (ws : List Cond) (rm : Room) (g : GX) (Rep Rep' : Heap → Prop) (A : Nat → Prop) (av : List Value) (r : Option Value) : Prop := Met l y ws rm (PR g Rep av) (QR Rep' A r) 0 0 A
abbrev rmk (f lo : Nat) : Room := { frames := f, cells := 0, slots := 0, locals := lo }
def Cx (g : GX) (p : Program) (s : State) (m : MethodId) (args : Array Value) (c : Code) (cc : ByteArray) (nL : Nat) (own : String) : Prop := p.tables.exec = Jvm.exec ∧ c.code = cc ∧ c.maxLocals = nL ∧ s.vm.findClass own = some m.cls ∧ (∀ w ∈ tb, w.before args s = true) ∧ KK g s
theorem MR.start (own : String) {l : Launch} {y : MethodName} {cc : ByteArray} {nL : Nat} {ret : Option FieldType} {rm : Room} {g : GX} {Rep Rep' : Heap → Prop} {A : Nat → Prop} {av : List Value} {r : Option Value} (hy : plainName y.cls = true) (ho : y.cls = own) (hn : (lg_sl av).length ≤ nL)
    (body : ∀ (p : Program) (e : Env) (s : State) (m : MethodId) (below : List Frame) (meth : Method) (c : Code) (ls : Array Slot), Cx g p s m av.toArray c cc nL own → meth.sig.returnType = ret → meth.locks = false → Rep s.heap → va_S A s.heap s.heap [] → lv_has ls nL (lv_args 0 av) → W p l e rm s m av.toArray below meth c s.heap [] 0 0 (MQ below (QR Rep' A r) av.toArray s 0 0 A) (F0 m 0 ls [])) :
    MR l y (.code y cc nL ret :: tb) rm g Rep Rep' A av r := by
  refine Met.ofW (cc := cc) (maxL := nL) (ret := ret) hy rfl ?_
  intro p e s m args below meth c s₁ B hml hv
  obtain ⟨rfl, hK, hR⟩ := hv
  have hl := lv_entry av (n := nL) hn
  rw [lg_entry_eq]
  exact body p e s m below meth c _ ⟨B.exec, B.bytes, hml, ho ▸ findClass_of_methodNamed B.named, fun w hw => atoms_spec (ws := .code y cc nL ret :: tb) B.pre w (List.mem_cons_of_mem _ hw), hK⟩ B.returns B.notSynchronized hR va_S.rf hl
section BASE
variable {p : Program} {l : Launch} {e : Env} {R : Room} {s : State} {m : MethodId} {args : Array Value} {below : List Frame} {meth : Method} {c : Code} {H : Heap} {locs : List Loc} {cells slots : Nat} {Q : State → Prop}
variable {cc : ByteArray} {nL pc : Nat} {ls : Array Slot} {rest : List Value} {g : GX} {own : String} {A : Nat → Prop} {Rep Rep' : Heap → Prop}
theorem endv (C : Cx g p s m args c cc nL own) (hr : meth.sig.returnType = none) (hlocks : meth.locks = false) (hR : Rep' H) (hS : va_S A s.heap H locs) (hdg : decode cc pc = .ok (.return_, 1)) : W p l e R s m args below meth c H locs cells slots (MQ below (QR Rep' A none) args s cells slots A) (F0 m pc ls []) :=
  W.vret C.1 C.2.1 hr (fun t ht hW => ⟨rfl, by rw [ht]; exact hR, hS.F ht⟩) hS.2.2 hdg
theorem endi {v : Int32} (C : Cx g p s m args c cc nL own) (hr : meth.sig.returnType = some .int) (hlocks : meth.locks = false) (hR : Rep' H) (hS : va_S A s.heap H locs) (hdg : decode cc pc = .ok (.ireturn, 1)) : W p l e R s m args below meth c H locs cells slots (MQ below (QR Rep' A (some (.int v))) args s cells slots A) (F0 m pc ls [.int v]) :=
  W.iret C.1 C.2.1 hr (fun t ht hW => ⟨rfl, by rw [ht]; exact hR, hS.F ht⟩) hS.2.2 hdg
theorem endz {v : Int32} (C : Cx g p s m args c cc nL own) (hr : meth.sig.returnType = some .boolean) (hlocks : meth.locks = false) (hn : v = 0 ∨ v = 1) (hR : Rep' H) (hS : va_S A s.heap H locs) (hdg : decode cc pc = .ok (.ireturn, 1)) : W p l e R s m args below meth c H locs cells slots (MQ below (QR Rep' A (some (.int v))) args s cells slots A) (F0 m pc ls [.int v]) :=
  W.zret C.1 C.2.1 hr (by rcases hn with rfl | rfl <;> rfl) (fun t ht hW => ⟨rfl, by rw [ht]; exact hR, hS.F ht⟩) hS.2.2 hdg
theorem enda {v : Nat} {n : String} (C : Cx g p s m args c cc nL own) (hr : meth.sig.returnType = some (.object n)) (hlocks : meth.locks = false) (hR : Rep' H) (hS : va_S A s.heap H locs) (hdg : decode cc pc = .ok (.areturn, 1)) : W p l e R s m args below meth c H locs cells slots (MQ below (QR Rep' A (some (.ref v))) args s cells slots A) (F0 m pc ls [.ref v]) :=
  W.aret C.1 C.2.1 hr (Or.inl ⟨_, rfl⟩) (Or.inr ⟨_, rfl⟩) (fun t ht hW => ⟨rfl, by rw [ht]; exact hR, hS.F ht⟩) hS.2.2 hdg
theorem endf {v : UInt32} (C : Cx g p s m args c cc nL own) (hr : meth.sig.returnType = some .float) (hlocks : meth.locks = false) (hR : Rep' H) (hS : va_S A s.heap H locs) (hdg : decode cc pc = .ok (.freturn, 1)) : W p l e R s m args below meth c H locs cells slots (MQ below (QR Rep' A (some (.float v))) args s cells slots A) (F0 m pc ls [.float v]) :=
  W.fret C.1 C.2.1 hr (fun t ht hW => ⟨rfl, by rw [ht]; exact hR, hS.F ht⟩) hS.2.2 hdg
theorem endd {v : UInt64} (C : Cx g p s m args c cc nL own) (hr : meth.sig.returnType = some .double) (hlocks : meth.locks = false) (hR : Rep' H) (hS : va_S A s.heap H locs) (hdg : decode cc pc = .ok (.dreturn, 1)) : W p l e R s m args below meth c H locs cells slots (MQ below (QR Rep' A (some (.double v))) args s cells slots A) (F0 m pc ls [.double v]) :=
  W.dret C.1 C.2.1 hr (fun t ht hW => ⟨rfl, by rw [ht]; exact hR, hS.F ht⟩) hS.2.2 hdg
/-- behind a call -/
theorem goR {A0 A1 : Nat → Prop} {H0 : Heap} {a : Array Value} {r : Option Value} {st0 : List Value} (hr : va_Run p l e R s m args below meth c H locs cells slots 0 0 (F0 m pc ls st0) rest (QR Rep' A1 r a) A1) (hS : va_S A0 H0 H locs) (hA : ∀ q, A1 q → A0 q)
    (kk : ∀ (H1 : Heap) (locs1 : List Loc), Rep' H1 → va_S A0 H0 H1 locs1 → H.size ≤ H1.size → (∀ q : Nat, q < H.size → ¬ A1 q → H1[q]? = H[q]?) → W p l e R s m args below meth c H1 locs1 cells slots Q (F0 m (pc + 3) ls (r.toList ++ rest))) : W p l e R s m args below meth c H locs cells slots Q (F0 m pc ls st0) := by
  intro T hT X
  obtain ⟨v, st₀, t, T', L, h0, X', hL, e1, e2, ⟨hv, hp, hz, hk⟩, st⟩ := hr T hT X
  cases hv
  rw [h0] at hz hk
  obtain ⟨t2, a1, b1⟩ := kk T'.heap (locs ++ L) (by rw [e1]; exact hp)
    ⟨Nat.le_trans hS.1 (by rw [e1]; exact hz), fun q h1 h2 => by rw [e1, hk q (Nat.lt_of_lt_of_le h1 hS.1) (fun z => h2 (hA q z))]; exact hS.2.1 q h1 h2, fun q hq => by
      rcases List.mem_append.mp hq with h | h
      · exact hS.2.2 q h
      · exact hA _ (hL q h)⟩ (by rw [e1]; exact hz) (fun q h1 h2 => by rw [e1]; exact hk q h1 h2) T' rfl X'
  exact ⟨t2, st t2 a1, b1⟩
theorem PR.blind {av : List Value} : FrameBlind (PR g Rep av) := fun _ _ _ _ h => ⟨h.1, h.2.1.calling, h.2.2⟩
theorem rcvK {ci a : Nat} {fs : List Value} {q : vw_C} (hK : KK g s) (hc : vwCl[ci]? = some q) (h : va_at g.1 vwCl (a, .inr (ci, fs)) H) : ∃ cell : Cell, H[a]? = some cell ∧ cell.vm.isStatics = false ∧ s.vm.findClass q.1 = some cell.cls :=
  va_recv hK.1 (ws := [(a, .inr (ci, fs))]) (fun k x hk => by match k, hk with | 0, hk => cases hk; exact h) hc (q0 := 0) rfl
/-- a virtual call of an own method -/
theorem cxV {A0 A1 : Nat → Prop} {H0 : Heap} {y : MethodName} {bytes : ByteArray} {maxL n index : Nat} {ret : Option FieldType} {rm : Room} {b ci : Nat} {fs As st0 : List Value} {q : vw_C} {r : Option Value} (C : Cx g p s m args c cc nL own) (hM : MR l y (.code y bytes maxL ret :: tb) rm g Rep Rep' A1 (.ref b :: As) r)
    (hd : (y.cls = q.1 ∧ y.cls ≠ "java/lang/invoke/MethodHandle" ∧ y.cls ≠ "java/lang/invoke/VarHandle" ∧ (parseMethodDescriptor y.desc).map (fun d => d.parameters.length) = some n) ∧ Cond.instanceMethod y ∈ tb ∧ Cond.selects q.1 y y ∈ tb ∧ Cond.initialized q.1 ∈ tb ∧ Cond.code y bytes maxL ret ∈ tb)
    (hl : Cond.methodLink own index y ∈ tb ∨ Cond.methodLinkNest own index y RX3 ∈ nb) (hR : rm.frames + 1 ≤ R.frames ∧ 8 + (maxL + 11) + rm.locals ≤ R.locals) (hrm : rm.cells = 0 ∧ rm.slots = 0) (hc : vwCl[ci]? = some q) (hat : va_at g.1 vwCl (b, .inr (ci, fs)) H) (hn : As.length = n) (hsize : ls.size = nL) (hst : st0 = As.reverse ++ .ref b :: rest) (hW : (rest.map fun v => v.category).sum ≤ 8)
    (hdg : decode cc pc = .ok (.invokevirtual index, 3)) (hrep : Rep H) (hf : cells ≤ R.cells ∧ slots ≤ R.slots) (hS : va_S A0 H0 H locs) (hA : ∀ q, A1 q → A0 q)
    (kk : ∀ (H1 : Heap) (locs1 : List Loc), Rep' H1 → va_S A0 H0 H1 locs1 → H.size ≤ H1.size → (∀ q : Nat, q < H.size → ¬ A1 q → H1[q]? = H[q]?) → W p l e R s m args below meth c H1 locs1 cells slots Q (F0 m (pc + 3) ls (r.toList ++ rest))) : W p l e R s m args below meth c H locs cells slots Q (F0 m pc ls st0) := by
  obtain ⟨hx, hb, hml, hown, hT, hK⟩ := C
  obtain ⟨⟨hC, hd1, hd2, hd3⟩, w1, w2, w3, w4⟩ := hd
  have hcw : ∀ w ∈ Cond.code y bytes maxL ret :: tb, w ∈ tb := fun w hw => (List.mem_cons.mp hw).elim (fun h => h ▸ w4) id
  have hp : PreV s H q.1 b (PR g Rep (.ref b :: As)) As := ⟨PR.blind, rcvK hK hc hat, fun U hU hW => ⟨rfl, hK.warm hW, by rw [hU]; exact hrep⟩⟩
  rcases hl with hl | hl
  · refine goR (va_runV (As := As) (rest := rest) ⟨hx, hb, hml, hown, hT⟩ hM (cwV n hT (tb_good ?_) rfl hrm.1 hrm.2 ⟨hC, hd1, hd2, hd3⟩ hR) hp rfl hn hsize hst (lv_room hW) hdg hf) hS hA kk
    intro w hw
    rcases List.mem_append.mp hw with h | h
    · simp only [List.mem_cons, List.not_mem_nil, or_false] at h
      rcases h with rfl | rfl | rfl | rfl
      · exact hl
      · exact w1
      · exact w2
      · exact w3
    · exact hcw w h
  · exact goR (va_runVN (As := As) (rest := rest) (host := RX3) (C := q.1) ⟨hx, hb, hml, hown, hT⟩ hM ⟨va_cnB n hT (tb_good hcw) rfl hrm.1 hrm.2 (hK.2 _ hl) (by rw [hC]; exact hT _ w3) ⟨hd1, hd2, hd3⟩ hR, hT _ w1, hT _ w2⟩ hp rfl hn hsize hst (lv_room hW) hdg hf) hS hA kk
theorem one_P {a : Nat} {x : va_E} (h : va_at g.1 vwCl (a, x) H) : va_P g.1 vwCl [(a, x)] H := fun k q hk => by
  match k, hk with
  | 0, hk => cases hk; exact h
/-- a field is read -/
theorem gf {ci a index N : Nat} {Cn : String} {T : u_T} {fs : List Value} (C : Cx g p s m args c cc nL own) (hin : ∀ w ∈ u_ws Cn T N, w ∈ tb) (hc : vwCl[ci]? = some (Cn, T, N)) (hat : va_at g.1 vwCl (a, .inr (ci, fs)) H) (k : Nat) (hk : k < N) (hcls : (T k).1 = Cn) (hlink : Cond.fieldLink own index Cn (T k).2.1 (T k).2.2.1 ∈ tb ∨ Cond.fieldLinkNest own index Cn (T k).2.1 (T k).2.2.1 RX3 ∈ nb) {v : Value} (hv : fs[k]? = some v) (hdg : decode cc pc = .ok (.getfield index, 3))
    (kk : W p l e R s m args below meth c H locs cells slots Q (F0 m (pc + 3) ls (v :: rest))) : W p l e R s m args below meth c H locs cells slots Q (F0 m pc ls (.ref a :: rest)) := by
  obtain ⟨hx, hb, hml, hown, hT, hK⟩ := C
  rcases hlink with h | h
  · exact va_get hx hb hT hin hown hK.1 (one_P hat) 0 rfl hc k hk (hT _ h) (fun x h9 => by rw [hcls] at h9; exact h9) hv hdg kk
  · exact va_getN hx hb hT hin hown hK.1 (one_P hat) 0 rfl hc k hk (va_Nw.use rfl (hK.2 _ h)) (fun x h9 => by rw [hcls] at h9; exact h9) hv hdg kk
/-- a field is written -/
theorem pf {ci a index N : Nat} {Cn : String} {T : u_T} {fs : List Value} (C : Cx g p s m args c cc nL own) (hin : ∀ w ∈ u_ws Cn T N, w ∈ tb) (ty0 : Nat → FieldType) (hty : ∀ k, k < N → parseFieldDescriptor (T k).2.2.1 = some (ty0 k)) (hnm : ∀ a, a < N → ∀ b, b < N → a ≠ b → (T a).2.1 ≠ (T b).2.1) (hc : vwCl[ci]? = some (Cn, T, N)) (hat : va_at g.1 vwCl (a, .inr (ci, fs)) H) (k : Nat) (hk : k < N) (hcls : (T k).1 = Cn) (hfin : (T k).2.2.2 = false) (hlink : Cond.fieldLink own index Cn (T k).2.1 (T k).2.2.1 ∈ tb ∨ Cond.fieldLinkNest own index Cn (T k).2.1 (T k).2.2.1 RX3 ∈ nb) {v : Value} (hn : narrow (ty0 k) v = v) (hfit : fits (ty0 k) v = true) (hl : k < fs.length) (hdg : decode cc pc = .ok (.putfield index, 3))
    (kk : ∀ (H1 : Heap) (n : Nat), va_at g.1 vwCl (a, .inr (ci, fs.set k v)) H1 → H1.size = H.size → (∀ q : Nat, q ≠ a → H1[q]? = H[q]?) → W p l e R s m args below meth c H1 (locs ++ [⟨a, n⟩]) cells slots Q (F0 m (pc + 3) ls rest)) : W p l e R s m args below meth c H locs cells slots Q (F0 m pc ls (v :: .ref a :: rest)) := by
  obtain ⟨hx, hb, hml, hown, hT, hK⟩ := C
  have hap := va_apart (own := own) hT hin ty0 hty hnm hK.1 hc
  obtain ⟨r, h1, cell, q1, q2, q3, q4⟩ := hat
  have hr : r = (Cn, T, N) := Option.some.inj (h1.symm.trans hc)
  subst hr
  obtain ⟨hS, hfc, kC, hkC, hkind⟩ := hK.1.1 ci _ hc
  obtain ⟨cf, kf, fi, f, hi, hsl⟩ := hS k hk
  have hlay := hT _ (hin _ (u_in_lay hk))
  unfold u_lay at hlay
  rw [if_neg (by rw [hfin]; decide)] at hlay
  have hst := (u_facts hfc hkC (u_lays hT hin hk) hi).1
  have h6 := u_store hfc hkC hkind hlay hi (hty k hk) hn hfit
  have hi2 := hi
  rw [hcls] at hi2
  have fin : ∀ (H' : Heap), H'[a]? = some (cell.setSlot f.slot v) → H'.size = H.size → (∀ q, q ≠ a → H'[q]? = H[q]?) → W p l e R s m args below meth c H' (locs ++ [⟨a, f.slot⟩]) cells slots Q (F0 m (pc + 3) ls rest) := fun H' e1 e2 e3 => by
    rw [hsl] at e1 ⊢
    exact kk H' _ ⟨_, hc, t_OB.to (V := updV (vp_V fs) k v) ⟨_, e1, q2, q3, t_set q4 hap hk v⟩ (fun j _ => vp_updV_set hl v j)⟩ e2 e3
  rcases hlink with h | h
  · exact W.putK hx hb (f := f) ⟨hown, hT _ h, ⟨_, _, _, hi2⟩, hst⟩ (by rw [q2]; exact h6) q1 q3 (by rw [hsl]; exact k2_hasslot (q4 k hk)) rfl rfl hdg fin
  · exact va_WputK hx hb (f := f) hown (va_Nw.use rfl (hK.2 _ h)) hi2 hst (by rw [q2]; exact h6) q1 q3 (by rw [hsl]; exact k2_hasslot (q4 k hk)) rfl rfl hdg fin
theorem nI_ix {j n : Nat} (hj : j < n) (hn : n ≤ 100) : vp_in (nI j) n ∧ (nI j).toNatClampNeg = j := ⟨vp_in_nI hj (by omega), nI_clamp (by omega)⟩
theorem aI_ld {a n j : Nat} {f : Nat → Int32} (C : Cx g p s m args c cc nL own) (hat : va_at g.1 vwCl (a, .inl (g.2 0, n, .inl f)) H) (hj : j < n) (hn : n ≤ 100) (hdg : decode cc pc = .ok (.iaload, 1))
    (kk : W p l e R s m args below meth c H locs cells slots Q (F0 m (pc + 1) ls (.int (f j) :: rest))) : W p l e R s m args below meth c H locs cells slots Q (F0 m pc ls (.int (nI j) :: .ref a :: rest)) :=
  va_iald C.1 C.2.1 C.2.2.2.2.2.1 (one_P hat) 0 0 rfl rfl (nI_ix hj hn).1 hdg (by rw [(nI_ix hj hn).2]; exact kk)
theorem aZ_ld {a n j : Nat} {f : Nat → Int32} (C : Cx g p s m args c cc nL own) (hat : va_at g.1 vwCl (a, .inl (g.2 1, n, .inl f)) H) (hj : j < n) (hn : n ≤ 100) (hdg : decode cc pc = .ok (.baload, 1))
    (kk : W p l e R s m args below meth c H locs cells slots Q (F0 m (pc + 1) ls (.int (f j) :: rest))) : W p l e R s m args below meth c H locs cells slots Q (F0 m pc ls (.int (nI j) :: .ref a :: rest)) :=
  va_zald C.1 C.2.1 C.2.2.2.2.2.1 (one_P hat) 0 1 rfl rfl (nI_ix hj hn).1 hdg (by rw [(nI_ix hj hn).2]; exact kk)
theorem aF_ld {a n j : Nat} {f : Nat → UInt32} (C : Cx g p s m args c cc nL own) (hat : va_at g.1 vwCl (a, .inl (g.2 2, n, .inr (.inr (.inl f)))) H) (hj : j < n) (hn : n ≤ 100) (hdg : decode cc pc = .ok (.faload, 1))
    (kk : W p l e R s m args below meth c H locs cells slots Q (F0 m (pc + 1) ls (.float (f j) :: rest))) : W p l e R s m args below meth c H locs cells slots Q (F0 m pc ls (.int (nI j) :: .ref a :: rest)) :=
  va_fald C.1 C.2.1 C.2.2.2.2.2.1 (one_P hat) 0 2 rfl rfl (nI_ix hj hn).1 hdg (by rw [(nI_ix hj hn).2]; exact kk)
theorem aQ_ld {a n j t x : Nat} {cA : ClassId} {Cn : String} {f : Nat → Option Nat} (C : Cx g p s m args c cc nL own) (hat : va_at g.1 vwCl (a, .inl (cA, n, .inr (.inr (.inr (.inr f))))) H) (ht : (tyl g)[t]? = some (cA, .object Cn)) (hj : j < n) (hn : n ≤ 100) (hf : f j = some x) (hdg : decode cc pc = .ok (.aaload, 1))
    (kk : W p l e R s m args below meth c H locs cells slots Q (F0 m (pc + 1) ls (.ref x :: rest))) : W p l e R s m args below meth c H locs cells slots Q (F0 m pc ls (.int (nI j) :: .ref a :: rest)) :=
  va_aldq C.1 C.2.1 C.2.2.2.2.2.1 (one_P hat) 0 t rfl ht (nI_ix hj hn).1 hdg (by rw [(nI_ix hj hn).2, hf]; exact kk)
theorem aI_st {a n j : Nat} {f : Nat → Int32} {x : Int32} (C : Cx g p s m args c cc nL own) (hat : va_at g.1 vwCl (a, .inl (g.2 0, n, .inl f)) H) (hj : j < n) (hn : n ≤ 100) (hdg : decode cc pc = .ok (.iastore, 1))
    (kk : ∀ (H1 : Heap) (k : Nat), va_at g.1 vwCl (a, .inl (g.2 0, n, .inl (upd f j x))) H1 → H1.size = H.size → (∀ q : Nat, q ≠ a → H1[q]? = H[q]?) → W p l e R s m args below meth c H1 (locs ++ [⟨a, k⟩]) cells slots Q (F0 m (pc + 1) ls rest)) : W p l e R s m args below meth c H locs cells slots Q (F0 m pc ls (.int x :: .int (nI j) :: .ref a :: rest)) := by
  have hin := (nI_ix hj hn).1
  refine W.iast C.1 C.2.1 hat ((C.2.2.2.2.2.1.2 0 _ rfl).1 n (fun j => .int (f j))) (fun q => by cases q) (by show ¬ (nI j < 0 ∨ (arrV _ _ _).slots.size ≤ _); rw [arrV_size]; exact hin) rfl rfl hdg fun H1 e z oq => ?_
  refine kk H1 _ ?_ z oq
  show H1[a]? = some (vp_cell _ _)
  rw [e]
  rw [vp_cell_i, vp_cell_i, arrV_store]
  congr 2
  funext q
  rw [(nI_ix hj hn).2]
  by_cases hq : q = j
  · subst hq
    simp [updV, upd]
  · simp [updV, upd, hq]
theorem aZ_st {a n j : Nat} {f : Nat → Int32} {x : Int32} (C : Cx g p s m args c cc nL own) (hat : va_at g.1 vwCl (a, .inl (g.2 1, n, .inl f)) H) (hj : j < n) (hn : n ≤ 100) (hz : x = 0 ∨ x = 1) (hdg : decode cc pc = .ok (.bastore, 1))
    (kk : ∀ (H1 : Heap) (k : Nat), va_at g.1 vwCl (a, .inl (g.2 1, n, .inl (upd f j x))) H1 → H1.size = H.size → (∀ q : Nat, q ≠ a → H1[q]? = H[q]?) → W p l e R s m args below meth c H1 (locs ++ [⟨a, k⟩]) cells slots Q (F0 m (pc + 1) ls rest)) : W p l e R s m args below meth c H locs cells slots Q (F0 m pc ls (.int x :: .int (nI j) :: .ref a :: rest)) := by
  have hin := (nI_ix hj hn).1
  have hnar : narrow .boolean (.int x) = .int x := by rcases hz with rfl | rfl <;> rfl
  refine W.zast C.1 C.2.1 hat ((C.2.2.2.2.2.1.2 1 _ rfl).1 n (fun j => .int (f j))) (fun q => by cases q) (by show ¬ (nI j < 0 ∨ (arrV _ _ _).slots.size ≤ _); rw [arrV_size]; exact hin) rfl rfl hdg fun H1 e z oq => ?_
  refine kk H1 _ ?_ z oq
  show H1[a]? = some (vp_cell _ _)
  rw [e, hnar]
  rw [vp_cell_i, vp_cell_i, arrV_store]
  congr 2
  funext q
  rw [(nI_ix hj hn).2]
  by_cases hq : q = j
  · subst hq
    simp [updV, upd]
  · simp [updV, upd, hq]
theorem aF_st {a n j : Nat} {f : Nat → UInt32} {x : UInt32} (C : Cx g p s m args c cc nL own) (hat : va_at g.1 vwCl (a, .inl (g.2 2, n, .inr (.inr (.inl f)))) H) (hj : j < n) (hn : n ≤ 100) (hdg : decode cc pc = .ok (.fastore, 1))
    (kk : ∀ (H1 : Heap) (k : Nat), va_at g.1 vwCl (a, .inl (g.2 2, n, .inr (.inr (.inl (va_up f j x))))) H1 → H1.size = H.size → (∀ q : Nat, q ≠ a → H1[q]? = H[q]?) → W p l e R s m args below meth c H1 (locs ++ [⟨a, k⟩]) cells slots Q (F0 m (pc + 1) ls rest)) : W p l e R s m args below meth c H locs cells slots Q (F0 m pc ls (.float x :: .int (nI j) :: .ref a :: rest)) := by
  have hin := (nI_ix hj hn).1
  refine W.fast C.1 C.2.1 hat ((C.2.2.2.2.2.1.2 2 _ rfl).1 n (fun j => .float (f j))) (fun q => by cases q) (by show ¬ (nI j < 0 ∨ (arrV _ _ _).slots.size ≤ _); rw [arrV_size]; exact hin) rfl rfl hdg fun H1 e z oq => ?_
  refine kk H1 _ ?_ z oq
  show H1[a]? = some (vp_cell _ _)
  rw [e]
  rw [vp_cell_f, vp_cell_f, arrV_store]
  congr 2
  funext q
  rw [(nI_ix hj hn).2]
  by_cases hq : q = j
  · subst hq
    simp [updV, va_up]
  · simp [updV, va_up, hq]
end BASE
end
section
/-! the class's picture: addresses, contents -/
def aSt (b j : Nat) : Nat := b + 4 + 10 * j
def aRg (b j : Nat) : Nat := b + 13 + 10 * j
def aQ (b q : Nat) : Nat := b + 5 + 4 * q + 2 * (q / 2)
def aQA (b q i : Nat) : Nat := b + 5 + 4 * q + 2 * (q / 2) + 1 + i
def obF (b N : Nat) (S : SX) : List Value := [.int (nI N), .ref (b + 1), .ref (b + 2), .ref (b + 3), .int (S 45 0), .int (S 46 0)]
def stF (b : Nat) (S : SX) (Fl : FX) (j : Nat) : List Value := [.ref (aQ b (2 * j)), .ref (aQ b (2 * j + 1)), .int (S 2 j), .int (S 3 j), .int (S 4 j), .int (S 5 j), .int (S 6 j), .int (S 7 j), .int (S 8 j), .int (S 9 j), .int (S 10 j), .int (S 11 j), .int (S 12 j), .float (Fl j), .int (S 14 j), .int (S 15 j), .int (S 16 j), .int (S 17 j), .int (S 18 j)]
def rgF (S : SX) (j : Nat) : List Value := [.int (S 20 j), .int (S 21 j), .int (S 22 j), .int (S 23 j), .int (S 24 j), .int (S 25 j), .int (S 26 j), .int (S 27 j), .int (S 28 j), .int (S 29 j)]
def quF (b : Nat) (S : SX) (q : Nat) : List Value := [.ref (aQA b q 0), .ref (aQA b q 1), .ref (aQA b q 2), .int (S 41 q)]
def quA (S : SX) (q i : Nat) : Nat → Int32 := fun k => if k < 5 then S (42 + i) (5 * q + k) else 0
def AX (b N : Nat) : Nat → Prop := fun a => b ≤ a ∧ a < b + 4 + 10 * N
def RepX (g : GX) (b N : Nat) (S : SX) (Fl : FX) (H : Heap) : Prop :=
  va_at g.1 vwCl (b, .inr (3, obF b N S)) H ∧ va_at g.1 vwCl (b + 1, .inl (g.2 3, N, .inr (.inr (.inr (.inr (fun j => some (aSt b j))))))) H ∧ va_at g.1 vwCl (b + 2, .inl (g.2 1, N, .inl (S 40))) H ∧ va_at g.1 vwCl (b + 3, .inl (g.2 4, N, .inr (.inr (.inr (.inr (fun j => some (aRg b j))))))) H ∧
  (∀ j, j < N → va_at g.1 vwCl (aSt b j, .inr (2, stF b S Fl j)) H) ∧ (∀ j, j < N → va_at g.1 vwCl (aRg b j, .inr (1, rgF S j)) H) ∧ (∀ q, q < 2 * N → va_at g.1 vwCl (aQ b q, .inr (0, quF b S q)) H) ∧ (∀ q i, q < 2 * N → i < 3 → va_at g.1 vwCl (aQA b q i, .inl (g.2 0, 5, .inl (quA S q i))) H)
theorem evod (q : Nat) : ∃ t, q = 2 * t ∨ q = 2 * t + 1 := ⟨q / 2, by omega⟩
theorem neQA_St {b q i j : Nat} (hi : i < 3) : aQA b q i ≠ aSt b j := by
  obtain ⟨t, rfl | rfl⟩ := evod q <;> simp only [aQA, aSt] <;> omega
theorem neQA_Rg {b q i j : Nat} (hi : i < 3) : aQA b q i ≠ aRg b j := by
  obtain ⟨t, rfl | rfl⟩ := evod q <;> simp only [aQA, aRg] <;> omega
theorem neQ_St {b q j : Nat} : aQ b q ≠ aSt b j := by
  obtain ⟨t, rfl | rfl⟩ := evod q <;> simp only [aQ, aSt] <;> omega
theorem neQ_Rg {b q j : Nat} : aQ b q ≠ aRg b j := by
  obtain ⟨t, rfl | rfl⟩ := evod q <;> simp only [aQ, aRg] <;> omega
theorem neQ_QA {b q q' i : Nat} (hi : i < 3) : aQ b q ≠ aQA b q' i := by
  obtain ⟨t, rfl | rfl⟩ := evod q <;> obtain ⟨u, rfl | rfl⟩ := evod q' <;> simp only [aQ, aQA] <;> omega
theorem aQ_inj {b q q' : Nat} (h : aQ b q = aQ b q') : q = q' := by
  obtain ⟨t, rfl | rfl⟩ := evod q <;> obtain ⟨u, rfl | rfl⟩ := evod q' <;> simp only [aQ] at h <;> omega
theorem aQA_inj {b q q' i i' : Nat} (hi : i < 3) (hi' : i' < 3) (h : aQA b q i = aQA b q' i') : q = q' ∧ i = i' := by
  obtain ⟨t, rfl | rfl⟩ := evod q <;> obtain ⟨u, rfl | rfl⟩ := evod q' <;> simp only [aQA] at h <;> omega
theorem in0 : ∀ w ∈ u_ws RX0 TX0 4, w ∈ tb := by
  have h : (u_ws RX0 TX0 4).all (fun w => decide (w ∈ lw_tbl) && goodWord w) = true := by decide +kernel
  exact fun w hw => List.mem_filter.mpr (by have := List.all_eq_true.mp h w hw; simpa using this)
theorem in1 : ∀ w ∈ u_ws RX1 TX1 10, w ∈ tb := by
  have h : (u_ws RX1 TX1 10).all (fun w => decide (w ∈ lw_tbl) && goodWord w) = true := by decide +kernel
  exact fun w hw => List.mem_filter.mpr (by have := List.all_eq_true.mp h w hw; simpa using this)
theorem in2 : ∀ w ∈ u_ws RX2 TX2 19, w ∈ tb := by
  have h : (u_ws RX2 TX2 19).all (fun w => decide (w ∈ lw_tbl) && goodWord w) = true := by decide +kernel
  exact fun w hw => List.mem_filter.mpr (by have := List.all_eq_true.mp h w hw; simpa using this)
theorem in3 : ∀ w ∈ u_ws RX3 TX3 6, w ∈ tb := by
  have h : (u_ws RX3 TX3 6).all (fun w => decide (w ∈ lw_tbl) && goodWord w) = true := by decide +kernel
  exact fun w hw => List.mem_filter.mpr (by have := List.all_eq_true.mp h w hw; simpa using this)
theorem in4 : ∀ w ∈ u_ws RX4 TX4 36, w ∈ tb := by
  have h : (u_ws RX4 TX4 36).all (fun w => decide (w ∈ lw_tbl) && goodWord w) = true := by decide +kernel
  exact fun w hw => List.mem_filter.mpr (by have := List.all_eq_true.mp h w hw; simpa using this)
theorem at_eq {g : GX} {a : Nat} {x y : va_E} {H H1 : Heap} (h : va_at g.1 vwCl (a, x) H) (e : H1[a]? = H[a]?) (hxy : x = y) : va_at g.1 vwCl (a, y) H1 := by
  subst hxy
  exact va_at.kept h e
/-- RepX over another heap: what each cell must hold -/
theorem RepX.put {g : GX} {b N : Nat} {S S1 : SX} {Fl Fl1 : FX} {H H1 : Heap} {a : Nat} (h : RepX g b N S Fl H) (oq : ∀ q : Nat, q ≠ a → H1[q]? = H[q]?)
    (h0 : if a = b then va_at g.1 vwCl (b, .inr (3, obF b N S1)) H1 else obF b N S = obF b N S1)
    (h1 : a ≠ b + 1) (h2 : if a = b + 2 then va_at g.1 vwCl (b + 2, .inl (g.2 1, N, .inl (S1 40))) H1 else S 40 = S1 40) (h3 : a ≠ b + 3)
    (h4 : ∀ j, j < N → if a = aSt b j then va_at g.1 vwCl (aSt b j, .inr (2, stF b S1 Fl1 j)) H1 else stF b S Fl j = stF b S1 Fl1 j)
    (h5 : ∀ j, j < N → if a = aRg b j then va_at g.1 vwCl (aRg b j, .inr (1, rgF S1 j)) H1 else rgF S j = rgF S1 j)
    (h6 : ∀ q, q < 2 * N → if a = aQ b q then va_at g.1 vwCl (aQ b q, .inr (0, quF b S1 q)) H1 else quF b S q = quF b S1 q)
    (h7 : ∀ q i, q < 2 * N → i < 3 → if a = aQA b q i then va_at g.1 vwCl (aQA b q i, .inl (g.2 0, 5, .inl (quA S1 q i))) H1 else quA S q i = quA S1 q i) : RepX g b N S1 Fl1 H1 := by
  obtain ⟨r0, r1, r2, r3, r4, r5, r6, r7⟩ := h
  refine ⟨?_, at_eq r1 (oq _ (Ne.symm h1)) rfl, ?_, at_eq r3 (oq _ (Ne.symm h3)) rfl, fun j hj => ?_, fun j hj => ?_, fun q hq => ?_, fun q i hq hi => ?_⟩
  · by_cases hc : a = b
    · rw [if_pos hc] at h0; exact h0
    · rw [if_neg hc] at h0; exact at_eq r0 (oq _ (Ne.symm hc)) (by rw [h0])
  · by_cases hc : a = b + 2
    · rw [if_pos hc] at h2; exact h2
    · rw [if_neg hc] at h2; exact at_eq r2 (oq _ (Ne.symm hc)) (by rw [h2])
  · have z := h4 j hj
    by_cases hc : a = aSt b j
    · rw [if_pos hc] at z; exact z
    · rw [if_neg hc] at z; exact at_eq (r4 j hj) (oq _ (Ne.symm hc)) (by rw [z])
  · have z := h5 j hj
    by_cases hc : a = aRg b j
    · rw [if_pos hc] at z; exact z
    · rw [if_neg hc] at z; exact at_eq (r5 j hj) (oq _ (Ne.symm hc)) (by rw [z])
  · have z := h6 q hq
    by_cases hc : a = aQ b q
    · rw [if_pos hc] at z; exact z
    · rw [if_neg hc] at z; exact at_eq (r6 q hq) (oq _ (Ne.symm hc)) (by rw [z])
  · have z := h7 q i hq hi
    by_cases hc : a = aQA b q i
    · rw [if_pos hc] at z; exact z
    · rw [if_neg hc] at z; exact at_eq (r7 q i hq hi) (oq _ (Ne.symm hc)) (by rw [z])
theorem RepX.keep {g : GX} {b N : Nat} {S : SX} {Fl : FX} {H H1 : Heap} (h : RepX g b N S Fl H) (oq : ∀ q : Nat, AX b N q → H1[q]? = H[q]?) (hN : 0 < N) : RepX g b N S Fl H1 := by
  obtain ⟨r0, r1, r2, r3, r4, r5, r6, r7⟩ := h
  refine ⟨at_eq r0 (oq _ ?_) rfl, at_eq r1 (oq _ ?_) rfl, at_eq r2 (oq _ ?_) rfl, at_eq r3 (oq _ ?_) rfl, fun j hj => at_eq (r4 j hj) (oq _ ?_) rfl, fun j hj => at_eq (r5 j hj) (oq _ ?_) rfl, fun q hq => at_eq (r6 q hq) (oq _ ?_) rfl, fun q i hq hi => at_eq (r7 q i hq hi) (oq _ ?_) rfl⟩ <;> simp only [AX, aSt, aRg, aQ, aQA] <;> omega
theorem stF_i {b j i k : Nat} {S : SX} {Fl : FX} {v : Int32} (h : i ≠ j) : stF b S Fl i = stF b (up2 S k j v) Fl i := by simp [stF, up2, h]
theorem stF_f {b j i k : Nat} {S : SX} {Fl : FX} {v : Int32} (h : 19 ≤ k) : stF b S Fl i = stF b (up2 S k j v) Fl i := by
  unfold stF
  repeat rw [up2_f (by omega)]
theorem rgF_i {j i k : Nat} {S : SX} {v : Int32} (h : i ≠ j) : rgF S i = rgF (up2 S k j v) i := by simp [rgF, up2, h]
theorem rgF_f {j i k : Nat} {S : SX} {v : Int32} (h : k < 20 ∨ 30 ≤ k) : rgF S i = rgF (up2 S k j v) i := by
  unfold rgF
  repeat rw [up2_f (by omega)]
theorem quF_i {b j i k : Nat} {S : SX} {v : Int32} (h : i ≠ j) : quF b S i = quF b (up2 S k j v) i := by simp [quF, up2, h]
theorem quF_f {b j i k : Nat} {S : SX} {v : Int32} (h : k ≠ 41) : quF b S i = quF b (up2 S k j v) i := by
  unfold quF
  rw [up2_f (Ne.symm h)]
theorem quA_f {j q i k : Nat} {S : SX} {v : Int32} (h : k < 42 ∨ 45 ≤ k) (hi : i < 3) : quA S q i = quA (up2 S k j v) q i := by
  unfold quA
  funext x
  rw [up2_f (by omega)]
theorem obF_f {b N j k : Nat} {S : SX} {v : Int32} (h : k ≠ 45) (h2 : k ≠ 46) : obF b N S = obF b N (up2 S k j v) := by
  unfold obF
  rw [up2_f (Ne.symm h), up2_f (Ne.symm h2)]
theorem s40_f {j k : Nat} {S : SX} {v : Int32} (h : k ≠ 40) : S 40 = up2 S k j v 40 := (up2_ff (Ne.symm h)).symm

theorem stS_2 {b j : Nat} {S : SX} {Fl : FX} {v : Int32} : (stF b S Fl j).set 2 (.int v) = stF b (up2 S 2 j v) Fl j := by simp [stF, up2]
theorem stS_3 {b j : Nat} {S : SX} {Fl : FX} {v : Int32} : (stF b S Fl j).set 3 (.int v) = stF b (up2 S 3 j v) Fl j := by simp [stF, up2]
theorem stS_4 {b j : Nat} {S : SX} {Fl : FX} {v : Int32} : (stF b S Fl j).set 4 (.int v) = stF b (up2 S 4 j v) Fl j := by simp [stF, up2]
theorem stS_5 {b j : Nat} {S : SX} {Fl : FX} {v : Int32} : (stF b S Fl j).set 5 (.int v) = stF b (up2 S 5 j v) Fl j := by simp [stF, up2]
theorem stS_6 {b j : Nat} {S : SX} {Fl : FX} {v : Int32} : (stF b S Fl j).set 6 (.int v) = stF b (up2 S 6 j v) Fl j := by simp [stF, up2]
theorem stS_7 {b j : Nat} {S : SX} {Fl : FX} {v : Int32} : (stF b S Fl j).set 7 (.int v) = stF b (up2 S 7 j v) Fl j := by simp [stF, up2]
theorem stS_8 {b j : Nat} {S : SX} {Fl : FX} {v : Int32} : (stF b S Fl j).set 8 (.int v) = stF b (up2 S 8 j v) Fl j := by simp [stF, up2]
theorem stS_9 {b j : Nat} {S : SX} {Fl : FX} {v : Int32} : (stF b S Fl j).set 9 (.int v) = stF b (up2 S 9 j v) Fl j := by simp [stF, up2]
theorem stS_10 {b j : Nat} {S : SX} {Fl : FX} {v : Int32} : (stF b S Fl j).set 10 (.int v) = stF b (up2 S 10 j v) Fl j := by simp [stF, up2]
theorem stS_11 {b j : Nat} {S : SX} {Fl : FX} {v : Int32} : (stF b S Fl j).set 11 (.int v) = stF b (up2 S 11 j v) Fl j := by simp [stF, up2]
theorem stS_12 {b j : Nat} {S : SX} {Fl : FX} {v : Int32} : (stF b S Fl j).set 12 (.int v) = stF b (up2 S 12 j v) Fl j := by simp [stF, up2]
theorem stS_14 {b j : Nat} {S : SX} {Fl : FX} {v : Int32} : (stF b S Fl j).set 14 (.int v) = stF b (up2 S 14 j v) Fl j := by simp [stF, up2]
theorem stS_15 {b j : Nat} {S : SX} {Fl : FX} {v : Int32} : (stF b S Fl j).set 15 (.int v) = stF b (up2 S 15 j v) Fl j := by simp [stF, up2]
theorem stS_16 {b j : Nat} {S : SX} {Fl : FX} {v : Int32} : (stF b S Fl j).set 16 (.int v) = stF b (up2 S 16 j v) Fl j := by simp [stF, up2]
theorem stS_17 {b j : Nat} {S : SX} {Fl : FX} {v : Int32} : (stF b S Fl j).set 17 (.int v) = stF b (up2 S 17 j v) Fl j := by simp [stF, up2]
theorem stS_18 {b j : Nat} {S : SX} {Fl : FX} {v : Int32} : (stF b S Fl j).set 18 (.int v) = stF b (up2 S 18 j v) Fl j := by simp [stF, up2]
theorem stS_13 {b j : Nat} {S : SX} {Fl : FX} {v : UInt32} : (stF b S Fl j).set 13 (.float v) = stF b S (va_up Fl j v) j := by simp [stF, va_up]
theorem rgS_0 {j : Nat} {S : SX} {v : Int32} : (rgF S j).set 0 (.int v) = rgF (up2 S 20 j v) j := by simp [rgF, up2]
theorem rgS_1 {j : Nat} {S : SX} {v : Int32} : (rgF S j).set 1 (.int v) = rgF (up2 S 21 j v) j := by simp [rgF, up2]
theorem rgS_2 {j : Nat} {S : SX} {v : Int32} : (rgF S j).set 2 (.int v) = rgF (up2 S 22 j v) j := by simp [rgF, up2]
theorem rgS_3 {j : Nat} {S : SX} {v : Int32} : (rgF S j).set 3 (.int v) = rgF (up2 S 23 j v) j := by simp [rgF, up2]
theorem rgS_4 {j : Nat} {S : SX} {v : Int32} : (rgF S j).set 4 (.int v) = rgF (up2 S 24 j v) j := by simp [rgF, up2]
theorem rgS_5 {j : Nat} {S : SX} {v : Int32} : (rgF S j).set 5 (.int v) = rgF (up2 S 25 j v) j := by simp [rgF, up2]
theorem rgS_6 {j : Nat} {S : SX} {v : Int32} : (rgF S j).set 6 (.int v) = rgF (up2 S 26 j v) j := by simp [rgF, up2]
theorem rgS_7 {j : Nat} {S : SX} {v : Int32} : (rgF S j).set 7 (.int v) = rgF (up2 S 27 j v) j := by simp [rgF, up2]
theorem rgS_8 {j : Nat} {S : SX} {v : Int32} : (rgF S j).set 8 (.int v) = rgF (up2 S 28 j v) j := by simp [rgF, up2]
theorem rgS_9 {j : Nat} {S : SX} {v : Int32} : (rgF S j).set 9 (.int v) = rgF (up2 S 29 j v) j := by simp [rgF, up2]
section REPX
variable {p : Program} {l : Launch} {e : Env} {R : Room} {s : State} {m : MethodId} {args : Array Value} {below : List Frame} {meth : Method} {c : Code} {H H0 : Heap} {locs : List Loc} {cells slots : Nat} {Q : State → Prop}
variable {cc : ByteArray} {nL pc index : Nat} {ls : Array Slot} {rest : List Value} {g : GX} {own : String} {b N : Nat} {S : SX} {Fl : FX}
theorem xO_get (C : Cx g p s m args c cc nL own) (hR : RepX g b N S Fl H) (k : Nat) (hk : k < 6) (hcls : (TX3 k).1 = RX3) (hlink : Cond.fieldLink own index RX3 (TX3 k).2.1 (TX3 k).2.2.1 ∈ tb ∨ Cond.fieldLinkNest own index RX3 (TX3 k).2.1 (TX3 k).2.2.1 RX3 ∈ nb) {v : Value} (hv : (obF b N S)[k]? = some v) (hdg : decode cc pc = .ok (.getfield index, 3))
    (kk : W p l e R s m args below meth c H locs cells slots Q (F0 m (pc + 3) ls (v :: rest))) : W p l e R s m args below meth c H locs cells slots Q (F0 m pc ls (.ref b :: rest)) := gf C in3 rfl hR.1 k hk hcls hlink hv hdg kk
theorem xS_get {j : Nat} (C : Cx g p s m args c cc nL own) (hR : RepX g b N S Fl H) (hj : j < N) (k : Nat) (hk : k < 19) (hcls : (TX2 k).1 = RX2) (hlink : Cond.fieldLink own index RX2 (TX2 k).2.1 (TX2 k).2.2.1 ∈ tb ∨ Cond.fieldLinkNest own index RX2 (TX2 k).2.1 (TX2 k).2.2.1 RX3 ∈ nb) {v : Value} (hv : (stF b S Fl j)[k]? = some v) (hdg : decode cc pc = .ok (.getfield index, 3))
    (kk : W p l e R s m args below meth c H locs cells slots Q (F0 m (pc + 3) ls (v :: rest))) : W p l e R s m args below meth c H locs cells slots Q (F0 m pc ls (.ref (aSt b j) :: rest)) := gf C in2 rfl (hR.2.2.2.2.1 j hj) k hk hcls hlink hv hdg kk
theorem xR_get {j : Nat} (C : Cx g p s m args c cc nL own) (hR : RepX g b N S Fl H) (hj : j < N) (k : Nat) (hk : k < 10) (hcls : (TX1 k).1 = RX1) (hlink : Cond.fieldLink own index RX1 (TX1 k).2.1 (TX1 k).2.2.1 ∈ tb ∨ Cond.fieldLinkNest own index RX1 (TX1 k).2.1 (TX1 k).2.2.1 RX3 ∈ nb) {v : Value} (hv : (rgF S j)[k]? = some v) (hdg : decode cc pc = .ok (.getfield index, 3))
    (kk : W p l e R s m args below meth c H locs cells slots Q (F0 m (pc + 3) ls (v :: rest))) : W p l e R s m args below meth c H locs cells slots Q (F0 m pc ls (.ref (aRg b j) :: rest)) := gf C in1 rfl (hR.2.2.2.2.2.1 j hj) k hk hcls hlink hv hdg kk
theorem xQ_get {q : Nat} (C : Cx g p s m args c cc nL own) (hR : RepX g b N S Fl H) (hq : q < 2 * N) (k : Nat) (hk : k < 4) (hcls : (TX0 k).1 = RX0) (hlink : Cond.fieldLink own index RX0 (TX0 k).2.1 (TX0 k).2.2.1 ∈ tb ∨ Cond.fieldLinkNest own index RX0 (TX0 k).2.1 (TX0 k).2.2.1 RX3 ∈ nb) {v : Value} (hv : (quF b S q)[k]? = some v) (hdg : decode cc pc = .ok (.getfield index, 3))
    (kk : W p l e R s m args below meth c H locs cells slots Q (F0 m (pc + 3) ls (v :: rest))) : W p l e R s m args below meth c H locs cells slots Q (F0 m pc ls (.ref (aQ b q) :: rest)) := gf C in0 rfl (hR.2.2.2.2.2.2.1 q hq) k hk hcls hlink hv hdg kk
theorem xS_ald {j : Nat} (C : Cx g p s m args c cc nL own) (hR : RepX g b N S Fl H) (hj : j < N) (hN : N ≤ 6) (hdg : decode cc pc = .ok (.aaload, 1)) (kk : W p l e R s m args below meth c H locs cells slots Q (F0 m (pc + 1) ls (.ref (aSt b j) :: rest))) : W p l e R s m args below meth c H locs cells slots Q (F0 m pc ls (.int (nI j) :: .ref (b + 1) :: rest)) := aQ_ld C hR.2.1 (t := 3) rfl hj (by omega) rfl hdg kk
theorem xR_ald {j : Nat} (C : Cx g p s m args c cc nL own) (hR : RepX g b N S Fl H) (hj : j < N) (hN : N ≤ 6) (hdg : decode cc pc = .ok (.aaload, 1)) (kk : W p l e R s m args below meth c H locs cells slots Q (F0 m (pc + 1) ls (.ref (aRg b j) :: rest))) : W p l e R s m args below meth c H locs cells slots Q (F0 m pc ls (.int (nI j) :: .ref (b + 3) :: rest)) := aQ_ld C hR.2.2.2.1 (t := 4) rfl hj (by omega) rfl hdg kk
theorem xC_ld {j : Nat} (C : Cx g p s m args c cc nL own) (hR : RepX g b N S Fl H) (hj : j < N) (hN : N ≤ 6) (hdg : decode cc pc = .ok (.baload, 1)) (kk : W p l e R s m args below meth c H locs cells slots Q (F0 m (pc + 1) ls (.int (S 40 j) :: rest))) : W p l e R s m args below meth c H locs cells slots Q (F0 m pc ls (.int (nI j) :: .ref (b + 2) :: rest)) := aZ_ld C hR.2.2.1 hj (by omega) hdg kk
theorem xA_ld {q i k : Nat} (C : Cx g p s m args c cc nL own) (hR : RepX g b N S Fl H) (hq : q < 2 * N) (hi : i < 3) (hk : k < 5) {v : Int32} (hv : S (42 + i) (5 * q + k) = v) (hdg : decode cc pc = .ok (.iaload, 1)) (kk : W p l e R s m args below meth c H locs cells slots Q (F0 m (pc + 1) ls (.int v :: rest))) : W p l e R s m args below meth c H locs cells slots Q (F0 m pc ls (.int (nI k) :: .ref (aQA b q i) :: rest)) := aI_ld C (hR.2.2.2.2.2.2.2 q i hq hi) hk (by omega) hdg (by subst hv; simp only [quA, if_pos hk]; exact kk)
theorem xO_put {v : Int32} (C : Cx g p s m args c cc nL own) (hR : RepX g b N S Fl H) (hS : va_S (AX b N) H0 H locs) (k : Nat) (hk : k = 4 ∨ k = 5) (hlink : Cond.fieldLink own index RX3 (TX3 k).2.1 (TX3 k).2.2.1 ∈ tb ∨ Cond.fieldLinkNest own index RX3 (TX3 k).2.1 (TX3 k).2.2.1 RX3 ∈ nb) (hdg : decode cc pc = .ok (.putfield index, 3))
    (kk : ∀ (S1 : SX) (H1 : Heap) (locs1 : List Loc), S1 = up2 S (41 + k) 0 v → RepX g b N S1 Fl H1 → va_S (AX b N) H0 H1 locs1 → W p l e R s m args below meth c H1 locs1 cells slots Q (F0 m (pc + 3) ls rest)) : W p l e R s m args below meth c H locs cells slots Q (F0 m pc ls (.int v :: .ref b :: rest)) := by
  refine pf C in3 tyX3 tyX3_ok nmX3 rfl hR.1 k (by omega) (by rcases hk with rfl | rfl <;> rfl) (by rcases hk with rfl | rfl <;> rfl) hlink (by rcases hk with rfl | rfl <;> rfl) (by rcases hk with rfl | rfl <;> rfl) (by rcases hk with rfl | rfl <;> exact Nat.le_of_ble_eq_true rfl) hdg fun H1 n e z oq => ?_
  refine kk _ H1 _ rfl (hR.put oq ?_ (by omega) ?_ (by omega) ?_ ?_ ?_ ?_) (hS.put z oq (by simp only [AX]; omega))
  · rw [if_pos rfl]
    have : (obF b N S).set k (.int v) = obF b N (up2 S (41 + k) 0 v) := by rcases hk with rfl | rfl <;> simp [obF, up2]
    rw [← this]; exact e
  · rw [if_neg (by omega)]; exact s40_f (by omega)
  · intro j hj; rw [if_neg (by simp only [aSt]; omega)]; exact stF_f (by omega)
  · intro j hj; rw [if_neg (by simp only [aRg]; omega)]; exact rgF_f (by omega)
  · intro q hq; rw [if_neg (by simp only [aQ]; omega)]; exact quF_f (by omega)
  · intro q i hq hi; rw [if_neg (by simp only [aQA]; omega)]; exact quA_f (by omega) hi
theorem xS_put {j : Nat} {v : Int32} (C : Cx g p s m args c cc nL own) (hR : RepX g b N S Fl H) (hS : va_S (AX b N) H0 H locs) (hj : j < N) (k : Nat) (hk : k < 19) (hcls : (TX2 k).1 = RX2) (hfin : (TX2 k).2.2.2 = false) (hlink : Cond.fieldLink own index RX2 (TX2 k).2.1 (TX2 k).2.2.1 ∈ tb ∨ Cond.fieldLinkNest own index RX2 (TX2 k).2.1 (TX2 k).2.2.1 RX3 ∈ nb) (hn : narrow (tyX2 k) (.int v) = .int v) (hfit : fits (tyX2 k) (.int v) = true) (hset : (stF b S Fl j).set k (.int v) = stF b (up2 S k j v) Fl j) (hdg : decode cc pc = .ok (.putfield index, 3))
    (kk : ∀ (S1 : SX) (H1 : Heap) (locs1 : List Loc), S1 = up2 S k j v → RepX g b N S1 Fl H1 → va_S (AX b N) H0 H1 locs1 → W p l e R s m args below meth c H1 locs1 cells slots Q (F0 m (pc + 3) ls rest)) : W p l e R s m args below meth c H locs cells slots Q (F0 m pc ls (.int v :: .ref (aSt b j) :: rest)) := by
  refine pf C in2 tyX2 tyX2_ok nmX2 rfl (hR.2.2.2.2.1 j hj) k hk hcls hfin hlink hn hfit hk hdg fun H1 n e z oq => ?_
  refine kk _ H1 _ rfl (hR.put oq ?_ (by simp only [aSt]; omega) ?_ (by simp only [aSt]; omega) ?_ ?_ ?_ ?_) (hS.put z oq (by simp only [AX, aSt]; omega))
  · rw [if_neg (by simp only [aSt]; omega)]; exact obF_f (by omega) (by omega)
  · rw [if_neg (by simp only [aSt]; omega)]; exact s40_f (by omega)
  · intro i hi
    by_cases hij : i = j
    · subst hij; rw [if_pos rfl, ← hset]; exact e
    · rw [if_neg (by simp only [aSt]; omega)]; exact stF_i hij
  · intro i hi; rw [if_neg (by simp only [aSt, aRg]; omega)]; exact rgF_f (by omega)
  · intro q hq; rw [if_neg neQ_St.symm]; exact quF_f (by omega)
  · intro q i hq hi; rw [if_neg (neQA_St hi).symm]; exact quA_f (by omega) hi
theorem xF_put {j : Nat} {v : UInt32} (C : Cx g p s m args c cc nL own) (hR : RepX g b N S Fl H) (hS : va_S (AX b N) H0 H locs) (hj : j < N) (hlink : Cond.fieldLink own index RX2 (TX2 13).2.1 (TX2 13).2.2.1 ∈ tb ∨ Cond.fieldLinkNest own index RX2 (TX2 13).2.1 (TX2 13).2.2.1 RX3 ∈ nb) (hdg : decode cc pc = .ok (.putfield index, 3))
    (kk : ∀ (F1 : FX) (H1 : Heap) (locs1 : List Loc), F1 = va_up Fl j v → RepX g b N S F1 H1 → va_S (AX b N) H0 H1 locs1 → W p l e R s m args below meth c H1 locs1 cells slots Q (F0 m (pc + 3) ls rest)) : W p l e R s m args below meth c H locs cells slots Q (F0 m pc ls (.float v :: .ref (aSt b j) :: rest)) := by
  refine pf C in2 tyX2 tyX2_ok nmX2 rfl (hR.2.2.2.2.1 j hj) 13 (by decide) rfl rfl hlink rfl rfl (by simp only [stF, List.length]; decide) hdg fun H1 n e z oq => ?_
  refine kk _ H1 _ rfl (hR.put oq ?_ (by simp only [aSt]; omega) ?_ (by simp only [aSt]; omega) ?_ ?_ ?_ ?_) (hS.put z oq (by simp only [AX, aSt]; omega))
  · rw [if_neg (by simp only [aSt]; omega)]
  · rw [if_neg (by simp only [aSt]; omega)]
  · intro i hi
    by_cases hij : i = j
    · subst hij; rw [if_pos rfl, ← stS_13]; exact e
    · rw [if_neg (by simp only [aSt]; omega)]; simp [stF, va_up, hij]
  · intro i hi; rw [if_neg (by simp only [aSt, aRg]; omega)]
  · intro q hq; rw [if_neg neQ_St.symm]
  · intro q i hq hi; rw [if_neg (neQA_St hi).symm]
theorem xR_put {j : Nat} {v : Int32} (C : Cx g p s m args c cc nL own) (hR : RepX g b N S Fl H) (hS : va_S (AX b N) H0 H locs) (hj : j < N) (k : Nat) (hk : k < 10) (hcls : (TX1 k).1 = RX1) (hfin : (TX1 k).2.2.2 = false) (hlink : Cond.fieldLink own index RX1 (TX1 k).2.1 (TX1 k).2.2.1 ∈ tb ∨ Cond.fieldLinkNest own index RX1 (TX1 k).2.1 (TX1 k).2.2.1 RX3 ∈ nb) (hn : narrow (tyX1 k) (.int v) = .int v) (hfit : fits (tyX1 k) (.int v) = true) (hset : (rgF S j).set k (.int v) = rgF (up2 S (20 + k) j v) j) (hdg : decode cc pc = .ok (.putfield index, 3))
    (kk : ∀ (S1 : SX) (H1 : Heap) (locs1 : List Loc), S1 = up2 S (20 + k) j v → RepX g b N S1 Fl H1 → va_S (AX b N) H0 H1 locs1 → W p l e R s m args below meth c H1 locs1 cells slots Q (F0 m (pc + 3) ls rest)) : W p l e R s m args below meth c H locs cells slots Q (F0 m pc ls (.int v :: .ref (aRg b j) :: rest)) := by
  refine pf C in1 tyX1 tyX1_ok nmX1 rfl (hR.2.2.2.2.2.1 j hj) k hk hcls hfin hlink hn hfit hk hdg fun H1 n e z oq => ?_
  refine kk _ H1 _ rfl (hR.put oq ?_ (by simp only [aRg]; omega) ?_ (by simp only [aRg]; omega) ?_ ?_ ?_ ?_) (hS.put z oq (by simp only [AX, aRg]; omega))
  · rw [if_neg (by simp only [aRg]; omega)]; exact obF_f (by omega) (by omega)
  · rw [if_neg (by simp only [aRg]; omega)]; exact s40_f (by omega)
  · intro i hi; rw [if_neg (by simp only [aSt, aRg]; omega)]; exact stF_f (by omega)
  · intro i hi
    by_cases hij : i = j
    · subst hij; rw [if_pos rfl, ← hset]; exact e
    · rw [if_neg (by simp only [aRg]; omega)]; exact rgF_i hij
  · intro q hq; rw [if_neg neQ_Rg.symm]; exact quF_f (by omega)
  · intro q i hq hi; rw [if_neg (neQA_Rg hi).symm]; exact quA_f (by omega) hi
theorem xQ_put {q : Nat} {v : Int32} (C : Cx g p s m args c cc nL own) (hR : RepX g b N S Fl H) (hS : va_S (AX b N) H0 H locs) (hq : q < 2 * N) (hlink : Cond.fieldLink own index RX0 (TX0 3).2.1 (TX0 3).2.2.1 ∈ tb ∨ Cond.fieldLinkNest own index RX0 (TX0 3).2.1 (TX0 3).2.2.1 RX3 ∈ nb) (hdg : decode cc pc = .ok (.putfield index, 3))
    (kk : ∀ (S1 : SX) (H1 : Heap) (locs1 : List Loc), S1 = up2 S 41 q v → RepX g b N S1 Fl H1 → va_S (AX b N) H0 H1 locs1 → W p l e R s m args below meth c H1 locs1 cells slots Q (F0 m (pc + 3) ls rest)) : W p l e R s m args below meth c H locs cells slots Q (F0 m pc ls (.int v :: .ref (aQ b q) :: rest)) := by
  refine pf C in0 tyX0 tyX0_ok nmX0 rfl (hR.2.2.2.2.2.2.1 q hq) 3 (by decide) rfl rfl hlink rfl rfl (by simp only [quF, List.length]; decide) hdg fun H1 n e z oq => ?_
  refine kk _ H1 _ rfl (hR.put oq ?_ (by simp only [aQ]; omega) ?_ (by simp only [aQ]; omega) ?_ ?_ ?_ ?_) (hS.put z oq (by simp only [AX, aQ]; omega))
  · rw [if_neg (by simp only [aQ]; omega)]; exact obF_f (by omega) (by omega)
  · rw [if_neg (by simp only [aQ]; omega)]; exact s40_f (by omega)
  · intro i hi; rw [if_neg neQ_St]; exact stF_f (by omega)
  · intro i hi; rw [if_neg neQ_Rg]; exact rgF_f (by omega)
  · intro i hi
    by_cases hij : i = q
    · subst hij; rw [if_pos rfl]
      have : (quF b S i).set 3 (.int v) = quF b (up2 S 41 i v) i := by simp [quF, up2]
      rw [← this]; exact e
    · rw [if_neg (fun h => hij (aQ_inj h).symm)]; exact quF_i hij
  · intro i k hi hk; rw [if_neg (neQ_QA hk)]; exact quA_f (by omega) hk
theorem xC_st {j : Nat} {v : Int32} (C : Cx g p s m args c cc nL own) (hR : RepX g b N S Fl H) (hS : va_S (AX b N) H0 H locs) (hj : j < N) (hN : N ≤ 6) (hz : v = 0 ∨ v = 1) (hdg : decode cc pc = .ok (.bastore, 1))
    (kk : ∀ (S1 : SX) (H1 : Heap) (locs1 : List Loc), S1 = up2 S 40 j v → RepX g b N S1 Fl H1 → va_S (AX b N) H0 H1 locs1 → W p l e R s m args below meth c H1 locs1 cells slots Q (F0 m (pc + 1) ls rest)) : W p l e R s m args below meth c H locs cells slots Q (F0 m pc ls (.int v :: .int (nI j) :: .ref (b + 2) :: rest)) := by
  refine aZ_st C hR.2.2.1 hj (by omega) hz hdg fun H1 n e z oq => ?_
  refine kk _ H1 _ rfl (hR.put oq ?_ (by omega) ?_ (by omega) ?_ ?_ ?_ ?_) (hS.put z oq (by simp only [AX]; omega))
  · rw [if_neg (by omega)]; exact obF_f (by omega) (by omega)
  · rw [if_pos rfl, up2_upd]; exact e
  · intro i hi; rw [if_neg (by simp only [aSt]; omega)]; exact stF_f (by omega)
  · intro i hi; rw [if_neg (by simp only [aRg]; omega)]; exact rgF_f (by omega)
  · intro i hi; rw [if_neg (by simp only [aQ]; omega)]; exact quF_f (by omega)
  · intro i k hi hk; rw [if_neg (by simp only [aQA]; omega)]; exact quA_f (by omega) hk
theorem xA_st {q i k : Nat} {v : Int32} (C : Cx g p s m args c cc nL own) (hR : RepX g b N S Fl H) (hS : va_S (AX b N) H0 H locs) (hq : q < 2 * N) (hi : i < 3) (hk : k < 5) (hdg : decode cc pc = .ok (.iastore, 1))
    (kk : ∀ (S1 : SX) (H1 : Heap) (locs1 : List Loc), S1 = up2 S (42 + i) (5 * q + k) v → RepX g b N S1 Fl H1 → va_S (AX b N) H0 H1 locs1 → W p l e R s m args below meth c H1 locs1 cells slots Q (F0 m (pc + 1) ls rest)) : W p l e R s m args below meth c H locs cells slots Q (F0 m pc ls (.int v :: .int (nI k) :: .ref (aQA b q i) :: rest)) := by
  refine aI_st C (hR.2.2.2.2.2.2.2 q i hq hi) hk (by omega) hdg fun H1 n e z oq => ?_
  refine kk _ H1 _ rfl (hR.put oq ?_ (by simp only [aQA]; omega) ?_ (by simp only [aQA]; omega) ?_ ?_ ?_ ?_) (hS.put z oq (by simp only [AX, aQA]; omega))
  · rw [if_neg (by simp only [aQA]; omega)]; exact obF_f (by omega) (by omega)
  · rw [if_neg (by simp only [aQA]; omega)]; exact s40_f (by omega)
  · intro j hj; rw [if_neg (neQA_St hi)]; exact stF_f (by omega)
  · intro j hj; rw [if_neg (neQA_Rg hi)]; exact rgF_f (by omega)
  · intro j hj; rw [if_neg (neQ_QA hi).symm]; exact quF_f (by omega)
  · intro q' i' hq' hi'
    by_cases h : q' = q ∧ i' = i
    · obtain ⟨rfl, rfl⟩ := h
      rw [if_pos rfl]
      have : upd (quA S q' i') k v = quA (up2 S (42 + i') (5 * q' + k) v) q' i' := by
        funext x
        by_cases hx : x = k
        · subst hx; simp [upd, quA, up2, hk]
        · simp only [upd, if_neg hx, quA]; rw [up2_i (by omega)]
      rw [← this]; exact e
    · by_cases ha : aQA b q i = aQA b q' i'
      · exact absurd (by have := aQA_inj hi hi' ha; exact ⟨this.1.symm, this.2.symm⟩) h
      · rw [if_neg ha]
        funext x
        simp only [quA]
        by_cases hx5 : x < 5
        · rw [if_pos hx5, if_pos hx5]
          simp only [up2]
          rw [if_neg (by omega)]
        · rw [if_neg hx5, if_neg hx5]
end REPX
end
section
/-! the reference's picture -/
def mlen (k : Nat) : Nat := if k = 21 then 12 else if k = 22 ∨ k = 23 ∨ k = 24 then 60 else if k = 26 then 36 else 6
def mA (d k : Nat) : Nat := if k < 3 then d + k else d + (k - 2)
def mty (k : Nat) : Nat := if k = 1 ∨ k = 2 ∨ k = 12 ∨ k = 13 ∨ k = 27 then 1 else 0
def mAr (k : Nat) : Prop := 1 ≤ k ∧ k < 36 ∧ k ≠ 3 ∧ k ≠ 4 ∧ k ≠ 20
def moF (d N : Nat) (M : SX) : List Value := [.int (nI N), .ref (mA d 1), .ref (mA d 2), .int (M 3 0), .int (M 4 0), .ref (mA d 5), .ref (mA d 6), .ref (mA d 7), .ref (mA d 8), .ref (mA d 9), .ref (mA d 10), .ref (mA d 11), .ref (mA d 12), .ref (mA d 13), .ref (mA d 14), .ref (mA d 15), .ref (mA d 16), .ref (mA d 17), .ref (mA d 18), .ref (mA d 19), .ref (mA d 20), .ref (mA d 21), .ref (mA d 22), .ref (mA d 23), .ref (mA d 24), .ref (mA d 25), .ref (mA d 26), .ref (mA d 27), .ref (mA d 28), .ref (mA d 29), .ref (mA d 30), .ref (mA d 31), .ref (mA d 32), .ref (mA d 33), .ref (mA d 34), .ref (mA d 35)]
def AM (d : Nat) : Nat → Prop := fun a => d ≤ a ∧ a < d + 34
def RepM (g : GX) (d N : Nat) (M : SX) (G : FX) (H : Heap) : Prop :=
  va_at g.1 vwCl (d, .inr (4, moF d N M)) H ∧ (∀ k, mAr k → va_at g.1 vwCl (mA d k, .inl (g.2 (mty k), mlen k, .inl (M k))) H) ∧ va_at g.1 vwCl (mA d 20, .inl (g.2 2, 6, .inr (.inr (.inl G)))) H
theorem mA_in {d k : Nat} (h : mAr k ∨ k = 20) : AM d (mA d k) ∧ mA d k ≠ d := by
  simp only [mAr, mA, AM] at *
  split <;> omega
theorem mA_inj {d k k' : Nat} (h : mAr k ∨ k = 20) (h' : mAr k' ∨ k' = 20) (e : mA d k = mA d k') : k = k' := by
  simp only [mAr, mA] at *
  split at e <;> split at e <;> omega
theorem mlen_le (k : Nat) : mlen k ≤ 100 := by
  unfold mlen
  repeat' split
  all_goals decide
theorem RepM.keep {g : GX} {d N : Nat} {M : SX} {G : FX} {H H1 : Heap} (h : RepM g d N M G H) (oq : ∀ q : Nat, AM d q → H1[q]? = H[q]?) : RepM g d N M G H1 := by
  obtain ⟨r0, r1, r2⟩ := h
  exact ⟨at_eq r0 (oq _ (by simp only [AM]; omega)) rfl, fun k hk => at_eq (r1 k hk) (oq _ (mA_in (Or.inl hk)).1) rfl, at_eq r2 (oq _ (mA_in (Or.inr rfl)).1) rfl⟩
section REPM
variable {p : Program} {l : Launch} {e : Env} {R : Room} {s : State} {m : MethodId} {args : Array Value} {below : List Frame} {meth : Method} {c : Code} {H H0 : Heap} {locs : List Loc} {cells slots : Nat} {Q : State → Prop}
variable {cc : ByteArray} {nL pc index : Nat} {ls : Array Slot} {rest : List Value} {g : GX} {own : String} {d N : Nat} {M : SX} {G : FX}
theorem m_get (C : Cx g p s m args c cc nL own) (hR : RepM g d N M G H) (k : Nat) (hk : k < 36) (hcls : (TX4 k).1 = RX4) (hlink : Cond.fieldLink own index RX4 (TX4 k).2.1 (TX4 k).2.2.1 ∈ tb ∨ Cond.fieldLinkNest own index RX4 (TX4 k).2.1 (TX4 k).2.2.1 RX3 ∈ nb) {v : Value} (hv : (moF d N M)[k]? = some v) (hdg : decode cc pc = .ok (.getfield index, 3))
    (kk : W p l e R s m args below meth c H locs cells slots Q (F0 m (pc + 3) ls (v :: rest))) : W p l e R s m args below meth c H locs cells slots Q (F0 m pc ls (.ref d :: rest)) := gf C in4 rfl hR.1 k hk hcls hlink hv hdg kk
theorem m_put {v : Int32} (C : Cx g p s m args c cc nL own) (hR : RepM g d N M G H) (hS : va_S (AM d) H0 H locs) (k : Nat) (hk : k = 3 ∨ k = 4) (hlink : Cond.fieldLink own index RX4 (TX4 k).2.1 (TX4 k).2.2.1 ∈ tb ∨ Cond.fieldLinkNest own index RX4 (TX4 k).2.1 (TX4 k).2.2.1 RX3 ∈ nb) (hdg : decode cc pc = .ok (.putfield index, 3))
    (kk : ∀ (S1 : SX) (H1 : Heap) (locs1 : List Loc), S1 = up2 M k 0 v → RepM g d N S1 G H1 → va_S (AM d) H0 H1 locs1 → W p l e R s m args below meth c H1 locs1 cells slots Q (F0 m (pc + 3) ls rest)) : W p l e R s m args below meth c H locs cells slots Q (F0 m pc ls (.int v :: .ref d :: rest)) := by
  refine pf C in4 tyX4 tyX4_ok nmX4 rfl hR.1 k (by omega) (by rcases hk with rfl | rfl <;> rfl) (by rcases hk with rfl | rfl <;> rfl) hlink (by rcases hk with rfl | rfl <;> rfl) (by rcases hk with rfl | rfl <;> rfl) (by rcases hk with rfl | rfl <;> exact Nat.le_of_ble_eq_true rfl) hdg fun H1 n e z oq => ?_
  refine kk _ H1 _ rfl ⟨?_, fun i hi => at_eq (hR.2.1 i hi) (oq _ (mA_in (Or.inl hi)).2) (by rw [up2_ff (show i ≠ k by simp only [mAr] at hi; omega)]), at_eq hR.2.2 (oq _ (mA_in (Or.inr rfl)).2) rfl⟩ (hS.put z oq (by simp only [AM]; omega))
  have : (moF d N M).set k (.int v) = moF d N (up2 M k 0 v) := by rcases hk with rfl | rfl <;> simp [moF, up2]
  rw [← this]; exact e
theorem moF_f {j k : Nat} {v : Int32} (h : mAr k) : moF d N M = moF d N (up2 M k j v) := by
  simp only [mAr] at h
  unfold moF
  rw [up2_f (by omega), up2_f (by omega)]
theorem mI_ld {k j : Nat} (C : Cx g p s m args c cc nL own) (hR : RepM g d N M G H) (hk : mAr k) (ht : mty k = 0) (hj : j < mlen k) (hdg : decode cc pc = .ok (.iaload, 1)) (kk : W p l e R s m args below meth c H locs cells slots Q (F0 m (pc + 1) ls (.int (M k j) :: rest))) : W p l e R s m args below meth c H locs cells slots Q (F0 m pc ls (.int (nI j) :: .ref (mA d k) :: rest)) :=
  aI_ld C (by have := hR.2.1 k hk; rw [ht] at this; exact this) hj (mlen_le k) hdg kk
theorem mZ_ld {k j : Nat} (C : Cx g p s m args c cc nL own) (hR : RepM g d N M G H) (hk : mAr k) (ht : mty k = 1) (hj : j < mlen k) (hdg : decode cc pc = .ok (.baload, 1)) (kk : W p l e R s m args below meth c H locs cells slots Q (F0 m (pc + 1) ls (.int (M k j) :: rest))) : W p l e R s m args below meth c H locs cells slots Q (F0 m pc ls (.int (nI j) :: .ref (mA d k) :: rest)) :=
  aZ_ld C (by have := hR.2.1 k hk; rw [ht] at this; exact this) hj (mlen_le k) hdg kk
theorem mF_ld {j : Nat} (C : Cx g p s m args c cc nL own) (hR : RepM g d N M G H) (hj : j < 6) (hdg : decode cc pc = .ok (.faload, 1)) (kk : W p l e R s m args below meth c H locs cells slots Q (F0 m (pc + 1) ls (.float (G j) :: rest))) : W p l e R s m args below meth c H locs cells slots Q (F0 m pc ls (.int (nI j) :: .ref (mA d 20) :: rest)) :=
  aF_ld C hR.2.2 hj (by omega) hdg kk
theorem RepM.st {H1 : Heap} {k j : Nat} {v : Int32} (hR : RepM g d N M G H) (hk : mAr k) (e : va_at g.1 vwCl (mA d k, .inl (g.2 (mty k), mlen k, .inl (upd (M k) j v))) H1) (oq : ∀ q : Nat, q ≠ mA d k → H1[q]? = H[q]?) : RepM g d N (up2 M k j v) G H1 := by
  refine ⟨at_eq hR.1 (oq _ (mA_in (Or.inl hk)).2.symm) (by rw [← moF_f hk]), fun i hi => ?_, at_eq hR.2.2 (oq _ (fun h => ?_)) rfl⟩
  · by_cases hik : i = k
    · subst hik; rw [up2_upd]; exact e
    · exact at_eq (hR.2.1 i hi) (oq _ (fun h => hik (mA_inj (Or.inl hi) (Or.inl hk) h))) (by rw [up2_ff hik])
  · have := mA_inj (Or.inr rfl) (Or.inl hk) h
    simp only [mAr] at hk
    omega
theorem mI_st {k j : Nat} {v : Int32} (C : Cx g p s m args c cc nL own) (hR : RepM g d N M G H) (hS : va_S (AM d) H0 H locs) (hk : mAr k) (ht : mty k = 0) (hj : j < mlen k) (hdg : decode cc pc = .ok (.iastore, 1))
    (kk : ∀ (S1 : SX) (H1 : Heap) (locs1 : List Loc), S1 = up2 M k j v → RepM g d N S1 G H1 → va_S (AM d) H0 H1 locs1 → W p l e R s m args below meth c H1 locs1 cells slots Q (F0 m (pc + 1) ls rest)) : W p l e R s m args below meth c H locs cells slots Q (F0 m pc ls (.int v :: .int (nI j) :: .ref (mA d k) :: rest)) := by
  have h0 := hR.2.1 k hk
  rw [ht] at h0
  refine aI_st C h0 hj (mlen_le k) hdg fun H1 n e z oq => ?_
  exact kk _ H1 _ rfl (hR.st hk (by rw [ht]; exact e) oq) (hS.put z oq (mA_in (Or.inl hk)).1)
theorem mZ_st {k j : Nat} {v : Int32} (C : Cx g p s m args c cc nL own) (hR : RepM g d N M G H) (hS : va_S (AM d) H0 H locs) (hk : mAr k) (ht : mty k = 1) (hj : j < mlen k) (hz : v = 0 ∨ v = 1) (hdg : decode cc pc = .ok (.bastore, 1))
    (kk : ∀ (S1 : SX) (H1 : Heap) (locs1 : List Loc), S1 = up2 M k j v → RepM g d N S1 G H1 → va_S (AM d) H0 H1 locs1 → W p l e R s m args below meth c H1 locs1 cells slots Q (F0 m (pc + 1) ls rest)) : W p l e R s m args below meth c H locs cells slots Q (F0 m pc ls (.int v :: .int (nI j) :: .ref (mA d k) :: rest)) := by
  have h0 := hR.2.1 k hk
  rw [ht] at h0
  refine aZ_st C h0 hj (mlen_le k) hz hdg fun H1 n e z oq => ?_
  exact kk _ H1 _ rfl (hR.st hk (by rw [ht]; exact e) oq) (hS.put z oq (mA_in (Or.inl hk)).1)
theorem mF_st {j : Nat} {v : UInt32} (C : Cx g p s m args c cc nL own) (hR : RepM g d N M G H) (hS : va_S (AM d) H0 H locs) (hj : j < 6) (hdg : decode cc pc = .ok (.fastore, 1))
    (kk : ∀ (G1 : FX) (H1 : Heap) (locs1 : List Loc), G1 = va_up G j v → RepM g d N M G1 H1 → va_S (AM d) H0 H1 locs1 → W p l e R s m args below meth c H1 locs1 cells slots Q (F0 m (pc + 1) ls rest)) : W p l e R s m args below meth c H locs cells slots Q (F0 m pc ls (.float v :: .int (nI j) :: .ref (mA d 20) :: rest)) := by
  refine aF_st C hR.2.2 hj (by omega) hdg fun H1 n e z oq => ?_
  exact kk _ H1 _ rfl ⟨at_eq hR.1 (oq _ (mA_in (Or.inr rfl)).2.symm) rfl, fun i hi => at_eq (hR.2.1 i hi) (oq _ (fun h => by have := mA_inj (Or.inl hi) (Or.inr rfl) h; simp only [mAr] at hi; omega)) rfl, e⟩ (hS.put z oq (mA_in (Or.inr rfl)).1)
end REPM
end
section
theorem fl_X0_9 : Cond.fieldLink RX0 9 RX0 (TX0 0).2.1 (TX0 0).2.2.1 ∈ tb ∨ Cond.fieldLinkNest RX0 9 RX0 (TX0 0).2.1 (TX0 0).2.2.1 RX3 ∈ nb := Or.inl (tb_in 80 (by decide +kernel) (by decide +kernel))
theorem fl_X0_15 : Cond.fieldLink RX0 15 RX0 (TX0 1).2.1 (TX0 1).2.2.1 ∈ tb ∨ Cond.fieldLinkNest RX0 15 RX0 (TX0 1).2.1 (TX0 1).2.2.1 RX3 ∈ nb := Or.inl (tb_in 82 (by decide +kernel) (by decide +kernel))
theorem fl_X0_18 : Cond.fieldLink RX0 18 RX0 (TX0 2).2.1 (TX0 2).2.2.1 ∈ tb ∨ Cond.fieldLinkNest RX0 18 RX0 (TX0 2).2.1 (TX0 2).2.2.1 RX3 ∈ nb := Or.inl (tb_in 85 (by decide +kernel) (by decide +kernel))
theorem fl_X0_21 : Cond.fieldLink RX0 21 RX0 (TX0 3).2.1 (TX0 3).2.2.1 ∈ tb ∨ Cond.fieldLinkNest RX0 21 RX0 (TX0 3).2.1 (TX0 3).2.2.1 RX3 ∈ nb := Or.inl (tb_in 87 (by decide +kernel) (by decide +kernel))
theorem fl_X1_7 : Cond.fieldLink RX1 7 RX1 (TX1 0).2.1 (TX1 0).2.2.1 ∈ tb ∨ Cond.fieldLinkNest RX1 7 RX1 (TX1 0).2.1 (TX1 0).2.2.1 RX3 ∈ nb := Or.inl (tb_in 181 (by decide +kernel) (by decide +kernel))
theorem fl_X1_13 : Cond.fieldLink RX1 13 RX1 (TX1 3).2.1 (TX1 3).2.2.1 ∈ tb ∨ Cond.fieldLinkNest RX1 13 RX1 (TX1 3).2.1 (TX1 3).2.2.1 RX3 ∈ nb := Or.inl (tb_in 185 (by decide +kernel) (by decide +kernel))
theorem fl_X2_12 : Cond.fieldLink RX2 12 RX2 (TX2 0).2.1 (TX2 0).2.2.1 ∈ tb ∨ Cond.fieldLinkNest RX2 12 RX2 (TX2 0).2.1 (TX2 0).2.2.1 RX3 ∈ nb := Or.inl (tb_in 101 (by decide +kernel) (by decide +kernel))
theorem fl_X2_18 : Cond.fieldLink RX2 18 RX2 (TX2 1).2.1 (TX2 1).2.2.1 ∈ tb ∨ Cond.fieldLinkNest RX2 18 RX2 (TX2 1).2.1 (TX2 1).2.2.1 RX3 ∈ nb := Or.inl (tb_in 103 (by decide +kernel) (by decide +kernel))
theorem fl_X2_21 : Cond.fieldLink RX2 21 RX2 (TX2 2).2.1 (TX2 2).2.2.1 ∈ tb ∨ Cond.fieldLinkNest RX2 21 RX2 (TX2 2).2.1 (TX2 2).2.2.1 RX3 ∈ nb := Or.inl (tb_in 105 (by decide +kernel) (by decide +kernel))
theorem fl_X2_25 : Cond.fieldLink RX2 25 RX2 (TX2 3).2.1 (TX2 3).2.2.1 ∈ tb ∨ Cond.fieldLinkNest RX2 25 RX2 (TX2 3).2.1 (TX2 3).2.2.1 RX3 ∈ nb := Or.inl (tb_in 107 (by decide +kernel) (by decide +kernel))
theorem fl_X2_29 : Cond.fieldLink RX2 29 RX2 (TX2 4).2.1 (TX2 4).2.2.1 ∈ tb ∨ Cond.fieldLinkNest RX2 29 RX2 (TX2 4).2.1 (TX2 4).2.2.1 RX3 ∈ nb := Or.inl (tb_in 109 (by decide +kernel) (by decide +kernel))
theorem fl_X2_32 : Cond.fieldLink RX2 32 RX2 (TX2 12).2.1 (TX2 12).2.2.1 ∈ tb ∨ Cond.fieldLinkNest RX2 32 RX2 (TX2 12).2.1 (TX2 12).2.2.1 RX3 ∈ nb := Or.inl (tb_in 125 (by decide +kernel) (by decide +kernel))
theorem fl_X2_35 : Cond.fieldLink RX2 35 RX2 (TX2 16).2.1 (TX2 16).2.2.1 ∈ tb ∨ Cond.fieldLinkNest RX2 35 RX2 (TX2 16).2.1 (TX2 16).2.2.1 RX3 ∈ nb := Or.inl (tb_in 133 (by decide +kernel) (by decide +kernel))
theorem fl_X2_38 : Cond.fieldLink RX2 38 RX0 (TX0 3).2.1 (TX0 3).2.2.1 ∈ tb ∨ Cond.fieldLinkNest RX2 38 RX0 (TX0 3).2.1 (TX0 3).2.2.1 RX3 ∈ nb := Or.inr (nb_in 88 (by decide +kernel) rfl)
theorem fl_X2_41 : Cond.fieldLink RX2 41 RX2 (TX2 6).2.1 (TX2 6).2.2.1 ∈ tb ∨ Cond.fieldLinkNest RX2 41 RX2 (TX2 6).2.1 (TX2 6).2.2.1 RX3 ∈ nb := Or.inl (tb_in 113 (by decide +kernel) (by decide +kernel))
theorem fl_X2_44 : Cond.fieldLink RX2 44 RX2 (TX2 7).2.1 (TX2 7).2.2.1 ∈ tb ∨ Cond.fieldLinkNest RX2 44 RX2 (TX2 7).2.1 (TX2 7).2.2.1 RX3 ∈ nb := Or.inl (tb_in 115 (by decide +kernel) (by decide +kernel))
theorem fl_X2_47 : Cond.fieldLink RX2 47 RX2 (TX2 8).2.1 (TX2 8).2.2.1 ∈ tb ∨ Cond.fieldLinkNest RX2 47 RX2 (TX2 8).2.1 (TX2 8).2.2.1 RX3 ∈ nb := Or.inl (tb_in 117 (by decide +kernel) (by decide +kernel))
theorem fl_X2_50 : Cond.fieldLink RX2 50 RX2 (TX2 9).2.1 (TX2 9).2.2.1 ∈ tb ∨ Cond.fieldLinkNest RX2 50 RX2 (TX2 9).2.1 (TX2 9).2.2.1 RX3 ∈ nb := Or.inl (tb_in 119 (by decide +kernel) (by decide +kernel))
theorem fl_X2_53 : Cond.fieldLink RX2 53 RX2 (TX2 10).2.1 (TX2 10).2.2.1 ∈ tb ∨ Cond.fieldLinkNest RX2 53 RX2 (TX2 10).2.1 (TX2 10).2.2.1 RX3 ∈ nb := Or.inl (tb_in 121 (by decide +kernel) (by decide +kernel))
theorem fl_X2_56 : Cond.fieldLink RX2 56 RX2 (TX2 11).2.1 (TX2 11).2.2.1 ∈ tb ∨ Cond.fieldLinkNest RX2 56 RX2 (TX2 11).2.1 (TX2 11).2.2.1 RX3 ∈ nb := Or.inl (tb_in 123 (by decide +kernel) (by decide +kernel))
theorem fl_X2_59 : Cond.fieldLink RX2 59 RX2 (TX2 13).2.1 (TX2 13).2.2.1 ∈ tb ∨ Cond.fieldLinkNest RX2 59 RX2 (TX2 13).2.1 (TX2 13).2.2.1 RX3 ∈ nb := Or.inl (tb_in 127 (by decide +kernel) (by decide +kernel))
theorem fl_X2_64 : Cond.fieldLink RX2 64 RX2 (TX2 5).2.1 (TX2 5).2.2.1 ∈ tb ∨ Cond.fieldLinkNest RX2 64 RX2 (TX2 5).2.1 (TX2 5).2.2.1 RX3 ∈ nb := Or.inl (tb_in 112 (by decide +kernel) (by decide +kernel))
theorem fl_X2_67 : Cond.fieldLink RX2 67 RX0 (TX0 1).2.1 (TX0 1).2.2.1 ∈ tb ∨ Cond.fieldLinkNest RX2 67 RX0 (TX0 1).2.1 (TX0 1).2.2.1 RX3 ∈ nb := Or.inr (nb_in 83 (by decide +kernel) rfl)
theorem fl_X2_71 : Cond.fieldLink RX2 71 RX0 (TX0 2).2.1 (TX0 2).2.2.1 ∈ tb ∨ Cond.fieldLinkNest RX2 71 RX0 (TX0 2).2.1 (TX0 2).2.2.1 RX3 ∈ nb := Or.inr (nb_in 86 (by decide +kernel) rfl)
theorem fl_X2_74 : Cond.fieldLink RX2 74 RX2 (TX2 14).2.1 (TX2 14).2.2.1 ∈ tb ∨ Cond.fieldLinkNest RX2 74 RX2 (TX2 14).2.1 (TX2 14).2.2.1 RX3 ∈ nb := Or.inl (tb_in 129 (by decide +kernel) (by decide +kernel))
theorem fl_X2_77 : Cond.fieldLink RX2 77 RX2 (TX2 15).2.1 (TX2 15).2.2.1 ∈ tb ∨ Cond.fieldLinkNest RX2 77 RX2 (TX2 15).2.1 (TX2 15).2.2.1 RX3 ∈ nb := Or.inl (tb_in 131 (by decide +kernel) (by decide +kernel))
theorem fl_X3_9 : Cond.fieldLink RX3 9 RX3 (TX3 0).2.1 (TX3 0).2.2.1 ∈ tb ∨ Cond.fieldLinkNest RX3 9 RX3 (TX3 0).2.1 (TX3 0).2.2.1 RX3 ∈ nb := Or.inl (tb_in 262 (by decide +kernel) (by decide +kernel))
theorem fl_X3_15 : Cond.fieldLink RX3 15 RX3 (TX3 1).2.1 (TX3 1).2.2.1 ∈ tb ∨ Cond.fieldLinkNest RX3 15 RX3 (TX3 1).2.1 (TX3 1).2.2.1 RX3 ∈ nb := Or.inl (tb_in 263 (by decide +kernel) (by decide +kernel))
theorem fl_X3_19 : Cond.fieldLink RX3 19 RX3 (TX3 2).2.1 (TX3 2).2.2.1 ∈ tb ∨ Cond.fieldLinkNest RX3 19 RX3 (TX3 2).2.1 (TX3 2).2.2.1 RX3 ∈ nb := Or.inl (tb_in 264 (by decide +kernel) (by decide +kernel))
theorem fl_X3_25 : Cond.fieldLink RX3 25 RX3 (TX3 3).2.1 (TX3 3).2.2.1 ∈ tb ∨ Cond.fieldLinkNest RX3 25 RX3 (TX3 3).2.1 (TX3 3).2.2.1 RX3 ∈ nb := Or.inl (tb_in 265 (by decide +kernel) (by decide +kernel))
theorem fl_X3_40 : Cond.fieldLink RX3 40 RX2 (TX2 4).2.1 (TX2 4).2.2.1 ∈ tb ∨ Cond.fieldLinkNest RX3 40 RX2 (TX2 4).2.1 (TX2 4).2.2.1 RX3 ∈ nb := Or.inr (nb_in 110 (by decide +kernel) rfl)
theorem fl_X3_43 : Cond.fieldLink RX3 43 RX2 (TX2 5).2.1 (TX2 5).2.2.1 ∈ tb ∨ Cond.fieldLinkNest RX3 43 RX2 (TX2 5).2.1 (TX2 5).2.2.1 RX3 ∈ nb := Or.inr (nb_in 111 (by decide +kernel) rfl)
theorem fl_X3_56 : Cond.fieldLink RX3 56 RX2 (TX2 2).2.1 (TX2 2).2.2.1 ∈ tb ∨ Cond.fieldLinkNest RX3 56 RX2 (TX2 2).2.1 (TX2 2).2.2.1 RX3 ∈ nb := Or.inr (nb_in 106 (by decide +kernel) rfl)
theorem fl_X3_63 : Cond.fieldLink RX3 63 RX3 (TX3 4).2.1 (TX3 4).2.2.1 ∈ tb ∨ Cond.fieldLinkNest RX3 63 RX3 (TX3 4).2.1 (TX3 4).2.2.1 RX3 ∈ nb := Or.inl (tb_in 266 (by decide +kernel) (by decide +kernel))
theorem fl_X3_70 : Cond.fieldLink RX3 70 RX2 (TX2 3).2.1 (TX2 3).2.2.1 ∈ tb ∨ Cond.fieldLinkNest RX3 70 RX2 (TX2 3).2.1 (TX2 3).2.2.1 RX3 ∈ nb := Or.inr (nb_in 108 (by decide +kernel) rfl)
theorem fl_X3_81 : Cond.fieldLink RX3 81 RX1 (TX1 6).2.1 (TX1 6).2.2.1 ∈ tb ∨ Cond.fieldLinkNest RX3 81 RX1 (TX1 6).2.1 (TX1 6).2.2.1 RX3 ∈ nb := Or.inr (nb_in 189 (by decide +kernel) rfl)
theorem fl_X3_84 : Cond.fieldLink RX3 84 RX1 (TX1 5).2.1 (TX1 5).2.2.1 ∈ tb ∨ Cond.fieldLinkNest RX3 84 RX1 (TX1 5).2.1 (TX1 5).2.2.1 RX3 ∈ nb := Or.inr (nb_in 188 (by decide +kernel) rfl)
theorem fl_X3_91 : Cond.fieldLink RX3 91 RX1 (TX1 7).2.1 (TX1 7).2.2.1 ∈ tb ∨ Cond.fieldLinkNest RX3 91 RX1 (TX1 7).2.1 (TX1 7).2.2.1 RX3 ∈ nb := Or.inr (nb_in 190 (by decide +kernel) rfl)
theorem fl_X3_94 : Cond.fieldLink RX3 94 RX1 (TX1 4).2.1 (TX1 4).2.2.1 ∈ tb ∨ Cond.fieldLinkNest RX3 94 RX1 (TX1 4).2.1 (TX1 4).2.2.1 RX3 ∈ nb := Or.inr (nb_in 187 (by decide +kernel) rfl)
theorem fl_X3_97 : Cond.fieldLink RX3 97 RX2 (TX2 6).2.1 (TX2 6).2.2.1 ∈ tb ∨ Cond.fieldLinkNest RX3 97 RX2 (TX2 6).2.1 (TX2 6).2.2.1 RX3 ∈ nb := Or.inr (nb_in 114 (by decide +kernel) rfl)
theorem fl_X3_100 : Cond.fieldLink RX3 100 RX2 (TX2 7).2.1 (TX2 7).2.2.1 ∈ tb ∨ Cond.fieldLinkNest RX3 100 RX2 (TX2 7).2.1 (TX2 7).2.2.1 RX3 ∈ nb := Or.inr (nb_in 116 (by decide +kernel) rfl)
theorem fl_X3_103 : Cond.fieldLink RX3 103 RX2 (TX2 8).2.1 (TX2 8).2.2.1 ∈ tb ∨ Cond.fieldLinkNest RX3 103 RX2 (TX2 8).2.1 (TX2 8).2.2.1 RX3 ∈ nb := Or.inr (nb_in 118 (by decide +kernel) rfl)
theorem fl_X3_106 : Cond.fieldLink RX3 106 RX2 (TX2 9).2.1 (TX2 9).2.2.1 ∈ tb ∨ Cond.fieldLinkNest RX3 106 RX2 (TX2 9).2.1 (TX2 9).2.2.1 RX3 ∈ nb := Or.inr (nb_in 120 (by decide +kernel) rfl)
theorem fl_X3_109 : Cond.fieldLink RX3 109 RX2 (TX2 0).2.1 (TX2 0).2.2.1 ∈ tb ∨ Cond.fieldLinkNest RX3 109 RX2 (TX2 0).2.1 (TX2 0).2.2.1 RX3 ∈ nb := Or.inr (nb_in 102 (by decide +kernel) rfl)
theorem fl_X3_113 : Cond.fieldLink RX3 113 RX0 (TX0 3).2.1 (TX0 3).2.2.1 ∈ tb ∨ Cond.fieldLinkNest RX3 113 RX0 (TX0 3).2.1 (TX0 3).2.2.1 RX3 ∈ nb := Or.inr (nb_in 89 (by decide +kernel) rfl)
theorem fl_X3_116 : Cond.fieldLink RX3 116 RX2 (TX2 1).2.1 (TX2 1).2.2.1 ∈ tb ∨ Cond.fieldLinkNest RX3 116 RX2 (TX2 1).2.1 (TX2 1).2.2.1 RX3 ∈ nb := Or.inr (nb_in 104 (by decide +kernel) rfl)
theorem fl_X3_119 : Cond.fieldLink RX3 119 RX2 (TX2 12).2.1 (TX2 12).2.2.1 ∈ tb ∨ Cond.fieldLinkNest RX3 119 RX2 (TX2 12).2.1 (TX2 12).2.2.1 RX3 ∈ nb := Or.inr (nb_in 126 (by decide +kernel) rfl)
theorem fl_X3_122 : Cond.fieldLink RX3 122 RX2 (TX2 14).2.1 (TX2 14).2.2.1 ∈ tb ∨ Cond.fieldLinkNest RX3 122 RX2 (TX2 14).2.1 (TX2 14).2.2.1 RX3 ∈ nb := Or.inr (nb_in 130 (by decide +kernel) rfl)
theorem fl_X3_125 : Cond.fieldLink RX3 125 RX2 (TX2 15).2.1 (TX2 15).2.2.1 ∈ tb ∨ Cond.fieldLinkNest RX3 125 RX2 (TX2 15).2.1 (TX2 15).2.2.1 RX3 ∈ nb := Or.inr (nb_in 132 (by decide +kernel) rfl)
theorem fl_X3_128 : Cond.fieldLink RX3 128 RX2 (TX2 16).2.1 (TX2 16).2.2.1 ∈ tb ∨ Cond.fieldLinkNest RX3 128 RX2 (TX2 16).2.1 (TX2 16).2.2.1 RX3 ∈ nb := Or.inr (nb_in 134 (by decide +kernel) rfl)
theorem fl_X3_131 : Cond.fieldLink RX3 131 RX2 (TX2 17).2.1 (TX2 17).2.2.1 ∈ tb ∨ Cond.fieldLinkNest RX3 131 RX2 (TX2 17).2.1 (TX2 17).2.2.1 RX3 ∈ nb := Or.inr (nb_in 135 (by decide +kernel) rfl)
theorem fl_X3_134 : Cond.fieldLink RX3 134 RX2 (TX2 18).2.1 (TX2 18).2.2.1 ∈ tb ∨ Cond.fieldLinkNest RX3 134 RX2 (TX2 18).2.1 (TX2 18).2.2.1 RX3 ∈ nb := Or.inr (nb_in 136 (by decide +kernel) rfl)
theorem fl_X3_137 : Cond.fieldLink RX3 137 RX2 (TX2 13).2.1 (TX2 13).2.2.1 ∈ tb ∨ Cond.fieldLinkNest RX3 137 RX2 (TX2 13).2.1 (TX2 13).2.2.1 RX3 ∈ nb := Or.inr (nb_in 128 (by decide +kernel) rfl)
theorem fl_X3_141 : Cond.fieldLink RX3 141 RX3 (TX3 5).2.1 (TX3 5).2.2.1 ∈ tb ∨ Cond.fieldLinkNest RX3 141 RX3 (TX3 5).2.1 (TX3 5).2.2.1 RX3 ∈ nb := Or.inl (tb_in 267 (by decide +kernel) (by decide +kernel))
theorem fl_X3_144 : Cond.fieldLink RX3 144 RX1 (TX1 0).2.1 (TX1 0).2.2.1 ∈ tb ∨ Cond.fieldLinkNest RX3 144 RX1 (TX1 0).2.1 (TX1 0).2.2.1 RX3 ∈ nb := Or.inr (nb_in 182 (by decide +kernel) rfl)
theorem fl_X3_153 : Cond.fieldLink RX3 153 RX1 (TX1 1).2.1 (TX1 1).2.2.1 ∈ tb ∨ Cond.fieldLinkNest RX3 153 RX1 (TX1 1).2.1 (TX1 1).2.2.1 RX3 ∈ nb := Or.inr (nb_in 183 (by decide +kernel) rfl)
theorem fl_X3_156 : Cond.fieldLink RX3 156 RX1 (TX1 2).2.1 (TX1 2).2.2.1 ∈ tb ∨ Cond.fieldLinkNest RX3 156 RX1 (TX1 2).2.1 (TX1 2).2.2.1 RX3 ∈ nb := Or.inr (nb_in 184 (by decide +kernel) rfl)
theorem fl_X3_175 : Cond.fieldLink RX3 175 RX1 (TX1 3).2.1 (TX1 3).2.2.1 ∈ tb ∨ Cond.fieldLinkNest RX3 175 RX1 (TX1 3).2.1 (TX1 3).2.2.1 RX3 ∈ nb := Or.inr (nb_in 186 (by decide +kernel) rfl)
theorem fl_X3_182 : Cond.fieldLink RX3 182 RX1 (TX1 8).2.1 (TX1 8).2.2.1 ∈ tb ∨ Cond.fieldLinkNest RX3 182 RX1 (TX1 8).2.1 (TX1 8).2.2.1 RX3 ∈ nb := Or.inr (nb_in 191 (by decide +kernel) rfl)
theorem fl_X3_226 : Cond.fieldLink RX3 226 RX2 (TX2 11).2.1 (TX2 11).2.2.1 ∈ tb ∨ Cond.fieldLinkNest RX3 226 RX2 (TX2 11).2.1 (TX2 11).2.2.1 RX3 ∈ nb := Or.inr (nb_in 124 (by decide +kernel) rfl)
theorem fl_X3_229 : Cond.fieldLink RX3 229 RX2 (TX2 10).2.1 (TX2 10).2.2.1 ∈ tb ∨ Cond.fieldLinkNest RX3 229 RX2 (TX2 10).2.1 (TX2 10).2.2.1 RX3 ∈ nb := Or.inr (nb_in 122 (by decide +kernel) rfl)
theorem fl_X3_236 : Cond.fieldLink RX3 236 RX1 (TX1 9).2.1 (TX1 9).2.2.1 ∈ tb ∨ Cond.fieldLinkNest RX3 236 RX1 (TX1 9).2.1 (TX1 9).2.2.1 RX3 ∈ nb := Or.inr (nb_in 192 (by decide +kernel) rfl)
theorem fl_X3_243 : Cond.fieldLink RX3 243 RX0 (TX0 1).2.1 (TX0 1).2.2.1 ∈ tb ∨ Cond.fieldLinkNest RX3 243 RX0 (TX0 1).2.1 (TX0 1).2.2.1 RX3 ∈ nb := Or.inr (nb_in 84 (by decide +kernel) rfl)
theorem fl_X3_247 : Cond.fieldLink RX3 247 RX0 (TX0 0).2.1 (TX0 0).2.2.1 ∈ tb ∨ Cond.fieldLinkNest RX3 247 RX0 (TX0 0).2.1 (TX0 0).2.2.1 RX3 ∈ nb := Or.inr (nb_in 81 (by decide +kernel) rfl)
theorem fl_X4_7 : Cond.fieldLink RX4 7 RX4 (TX4 1).2.1 (TX4 1).2.2.1 ∈ tb ∨ Cond.fieldLinkNest RX4 7 RX4 (TX4 1).2.1 (TX4 1).2.2.1 RX3 ∈ nb := Or.inl (tb_in 465 (by decide +kernel) (by decide +kernel))
theorem fl_X4_13 : Cond.fieldLink RX4 13 RX4 (TX4 2).2.1 (TX4 2).2.2.1 ∈ tb ∨ Cond.fieldLinkNest RX4 13 RX4 (TX4 2).2.1 (TX4 2).2.2.1 RX3 ∈ nb := Or.inl (tb_in 466 (by decide +kernel) (by decide +kernel))
theorem fl_X4_16 : Cond.fieldLink RX4 16 RX4 (TX4 5).2.1 (TX4 5).2.2.1 ∈ tb ∨ Cond.fieldLinkNest RX4 16 RX4 (TX4 5).2.1 (TX4 5).2.2.1 RX3 ∈ nb := Or.inl (tb_in 469 (by decide +kernel) (by decide +kernel))
theorem fl_X4_20 : Cond.fieldLink RX4 20 RX4 (TX4 6).2.1 (TX4 6).2.2.1 ∈ tb ∨ Cond.fieldLinkNest RX4 20 RX4 (TX4 6).2.1 (TX4 6).2.2.1 RX3 ∈ nb := Or.inl (tb_in 470 (by decide +kernel) (by decide +kernel))
theorem fl_X4_23 : Cond.fieldLink RX4 23 RX4 (TX4 7).2.1 (TX4 7).2.2.1 ∈ tb ∨ Cond.fieldLinkNest RX4 23 RX4 (TX4 7).2.1 (TX4 7).2.2.1 RX3 ∈ nb := Or.inl (tb_in 471 (by decide +kernel) (by decide +kernel))
theorem fl_X4_26 : Cond.fieldLink RX4 26 RX4 (TX4 8).2.1 (TX4 8).2.2.1 ∈ tb ∨ Cond.fieldLinkNest RX4 26 RX4 (TX4 8).2.1 (TX4 8).2.2.1 RX3 ∈ nb := Or.inl (tb_in 472 (by decide +kernel) (by decide +kernel))
theorem fl_X4_29 : Cond.fieldLink RX4 29 RX4 (TX4 9).2.1 (TX4 9).2.2.1 ∈ tb ∨ Cond.fieldLinkNest RX4 29 RX4 (TX4 9).2.1 (TX4 9).2.2.1 RX3 ∈ nb := Or.inl (tb_in 473 (by decide +kernel) (by decide +kernel))
theorem fl_X4_32 : Cond.fieldLink RX4 32 RX4 (TX4 10).2.1 (TX4 10).2.2.1 ∈ tb ∨ Cond.fieldLinkNest RX4 32 RX4 (TX4 10).2.1 (TX4 10).2.2.1 RX3 ∈ nb := Or.inl (tb_in 474 (by decide +kernel) (by decide +kernel))
theorem fl_X4_35 : Cond.fieldLink RX4 35 RX4 (TX4 11).2.1 (TX4 11).2.2.1 ∈ tb ∨ Cond.fieldLinkNest RX4 35 RX4 (TX4 11).2.1 (TX4 11).2.2.1 RX3 ∈ nb := Or.inl (tb_in 475 (by decide +kernel) (by decide +kernel))
theorem fl_X4_38 : Cond.fieldLink RX4 38 RX4 (TX4 12).2.1 (TX4 12).2.2.1 ∈ tb ∨ Cond.fieldLinkNest RX4 38 RX4 (TX4 12).2.1 (TX4 12).2.2.1 RX3 ∈ nb := Or.inl (tb_in 476 (by decide +kernel) (by decide +kernel))
theorem fl_X4_41 : Cond.fieldLink RX4 41 RX4 (TX4 13).2.1 (TX4 13).2.2.1 ∈ tb ∨ Cond.fieldLinkNest RX4 41 RX4 (TX4 13).2.1 (TX4 13).2.2.1 RX3 ∈ nb := Or.inl (tb_in 477 (by decide +kernel) (by decide +kernel))
theorem fl_X4_44 : Cond.fieldLink RX4 44 RX4 (TX4 14).2.1 (TX4 14).2.2.1 ∈ tb ∨ Cond.fieldLinkNest RX4 44 RX4 (TX4 14).2.1 (TX4 14).2.2.1 RX3 ∈ nb := Or.inl (tb_in 478 (by decide +kernel) (by decide +kernel))
theorem fl_X4_47 : Cond.fieldLink RX4 47 RX4 (TX4 15).2.1 (TX4 15).2.2.1 ∈ tb ∨ Cond.fieldLinkNest RX4 47 RX4 (TX4 15).2.1 (TX4 15).2.2.1 RX3 ∈ nb := Or.inl (tb_in 479 (by decide +kernel) (by decide +kernel))
theorem fl_X4_50 : Cond.fieldLink RX4 50 RX4 (TX4 16).2.1 (TX4 16).2.2.1 ∈ tb ∨ Cond.fieldLinkNest RX4 50 RX4 (TX4 16).2.1 (TX4 16).2.2.1 RX3 ∈ nb := Or.inl (tb_in 480 (by decide +kernel) (by decide +kernel))
theorem fl_X4_53 : Cond.fieldLink RX4 53 RX4 (TX4 17).2.1 (TX4 17).2.2.1 ∈ tb ∨ Cond.fieldLinkNest RX4 53 RX4 (TX4 17).2.1 (TX4 17).2.2.1 RX3 ∈ nb := Or.inl (tb_in 481 (by decide +kernel) (by decide +kernel))
theorem fl_X4_56 : Cond.fieldLink RX4 56 RX4 (TX4 18).2.1 (TX4 18).2.2.1 ∈ tb ∨ Cond.fieldLinkNest RX4 56 RX4 (TX4 18).2.1 (TX4 18).2.2.1 RX3 ∈ nb := Or.inl (tb_in 482 (by decide +kernel) (by decide +kernel))
theorem fl_X4_59 : Cond.fieldLink RX4 59 RX4 (TX4 19).2.1 (TX4 19).2.2.1 ∈ tb ∨ Cond.fieldLinkNest RX4 59 RX4 (TX4 19).2.1 (TX4 19).2.2.1 RX3 ∈ nb := Or.inl (tb_in 483 (by decide +kernel) (by decide +kernel))
theorem fl_X4_62 : Cond.fieldLink RX4 62 RX4 (TX4 20).2.1 (TX4 20).2.2.1 ∈ tb ∨ Cond.fieldLinkNest RX4 62 RX4 (TX4 20).2.1 (TX4 20).2.2.1 RX3 ∈ nb := Or.inl (tb_in 484 (by decide +kernel) (by decide +kernel))
theorem fl_X4_66 : Cond.fieldLink RX4 66 RX4 (TX4 21).2.1 (TX4 21).2.2.1 ∈ tb ∨ Cond.fieldLinkNest RX4 66 RX4 (TX4 21).2.1 (TX4 21).2.2.1 RX3 ∈ nb := Or.inl (tb_in 485 (by decide +kernel) (by decide +kernel))
theorem fl_X4_69 : Cond.fieldLink RX4 69 RX4 (TX4 22).2.1 (TX4 22).2.2.1 ∈ tb ∨ Cond.fieldLinkNest RX4 69 RX4 (TX4 22).2.1 (TX4 22).2.2.1 RX3 ∈ nb := Or.inl (tb_in 486 (by decide +kernel) (by decide +kernel))
theorem fl_X4_72 : Cond.fieldLink RX4 72 RX4 (TX4 23).2.1 (TX4 23).2.2.1 ∈ tb ∨ Cond.fieldLinkNest RX4 72 RX4 (TX4 23).2.1 (TX4 23).2.2.1 RX3 ∈ nb := Or.inl (tb_in 487 (by decide +kernel) (by decide +kernel))
theorem fl_X4_75 : Cond.fieldLink RX4 75 RX4 (TX4 24).2.1 (TX4 24).2.2.1 ∈ tb ∨ Cond.fieldLinkNest RX4 75 RX4 (TX4 24).2.1 (TX4 24).2.2.1 RX3 ∈ nb := Or.inl (tb_in 488 (by decide +kernel) (by decide +kernel))
theorem fl_X4_78 : Cond.fieldLink RX4 78 RX4 (TX4 25).2.1 (TX4 25).2.2.1 ∈ tb ∨ Cond.fieldLinkNest RX4 78 RX4 (TX4 25).2.1 (TX4 25).2.2.1 RX3 ∈ nb := Or.inl (tb_in 489 (by decide +kernel) (by decide +kernel))
theorem fl_X4_81 : Cond.fieldLink RX4 81 RX4 (TX4 26).2.1 (TX4 26).2.2.1 ∈ tb ∨ Cond.fieldLinkNest RX4 81 RX4 (TX4 26).2.1 (TX4 26).2.2.1 RX3 ∈ nb := Or.inl (tb_in 490 (by decide +kernel) (by decide +kernel))
theorem fl_X4_84 : Cond.fieldLink RX4 84 RX4 (TX4 27).2.1 (TX4 27).2.2.1 ∈ tb ∨ Cond.fieldLinkNest RX4 84 RX4 (TX4 27).2.1 (TX4 27).2.2.1 RX3 ∈ nb := Or.inl (tb_in 491 (by decide +kernel) (by decide +kernel))
theorem fl_X4_87 : Cond.fieldLink RX4 87 RX4 (TX4 28).2.1 (TX4 28).2.2.1 ∈ tb ∨ Cond.fieldLinkNest RX4 87 RX4 (TX4 28).2.1 (TX4 28).2.2.1 RX3 ∈ nb := Or.inl (tb_in 492 (by decide +kernel) (by decide +kernel))
theorem fl_X4_90 : Cond.fieldLink RX4 90 RX4 (TX4 29).2.1 (TX4 29).2.2.1 ∈ tb ∨ Cond.fieldLinkNest RX4 90 RX4 (TX4 29).2.1 (TX4 29).2.2.1 RX3 ∈ nb := Or.inl (tb_in 493 (by decide +kernel) (by decide +kernel))
theorem fl_X4_93 : Cond.fieldLink RX4 93 RX4 (TX4 30).2.1 (TX4 30).2.2.1 ∈ tb ∨ Cond.fieldLinkNest RX4 93 RX4 (TX4 30).2.1 (TX4 30).2.2.1 RX3 ∈ nb := Or.inl (tb_in 494 (by decide +kernel) (by decide +kernel))
theorem fl_X4_96 : Cond.fieldLink RX4 96 RX4 (TX4 31).2.1 (TX4 31).2.2.1 ∈ tb ∨ Cond.fieldLinkNest RX4 96 RX4 (TX4 31).2.1 (TX4 31).2.2.1 RX3 ∈ nb := Or.inl (tb_in 495 (by decide +kernel) (by decide +kernel))
theorem fl_X4_99 : Cond.fieldLink RX4 99 RX4 (TX4 32).2.1 (TX4 32).2.2.1 ∈ tb ∨ Cond.fieldLinkNest RX4 99 RX4 (TX4 32).2.1 (TX4 32).2.2.1 RX3 ∈ nb := Or.inl (tb_in 496 (by decide +kernel) (by decide +kernel))
theorem fl_X4_102 : Cond.fieldLink RX4 102 RX4 (TX4 33).2.1 (TX4 33).2.2.1 ∈ tb ∨ Cond.fieldLinkNest RX4 102 RX4 (TX4 33).2.1 (TX4 33).2.2.1 RX3 ∈ nb := Or.inl (tb_in 497 (by decide +kernel) (by decide +kernel))
theorem fl_X4_105 : Cond.fieldLink RX4 105 RX4 (TX4 34).2.1 (TX4 34).2.2.1 ∈ tb ∨ Cond.fieldLinkNest RX4 105 RX4 (TX4 34).2.1 (TX4 34).2.2.1 RX3 ∈ nb := Or.inl (tb_in 498 (by decide +kernel) (by decide +kernel))
theorem fl_X4_108 : Cond.fieldLink RX4 108 RX4 (TX4 35).2.1 (TX4 35).2.2.1 ∈ tb ∨ Cond.fieldLinkNest RX4 108 RX4 (TX4 35).2.1 (TX4 35).2.2.1 RX3 ∈ nb := Or.inl (tb_in 499 (by decide +kernel) (by decide +kernel))
theorem fl_X4_111 : Cond.fieldLink RX4 111 RX4 (TX4 0).2.1 (TX4 0).2.2.1 ∈ tb ∨ Cond.fieldLinkNest RX4 111 RX4 (TX4 0).2.1 (TX4 0).2.2.1 RX3 ∈ nb := Or.inl (tb_in 464 (by decide +kernel) (by decide +kernel))
theorem fl_X4_150 : Cond.fieldLink RX4 150 RX4 (TX4 4).2.1 (TX4 4).2.2.1 ∈ tb ∨ Cond.fieldLinkNest RX4 150 RX4 (TX4 4).2.1 (TX4 4).2.2.1 RX3 ∈ nb := Or.inl (tb_in 468 (by decide +kernel) (by decide +kernel))
theorem fl_X4_171 : Cond.fieldLink RX4 171 RX4 (TX4 3).2.1 (TX4 3).2.2.1 ∈ tb ∨ Cond.fieldLinkNest RX4 171 RX4 (TX4 3).2.1 (TX4 3).2.2.1 RX3 ∈ nb := Or.inl (tb_in 467 (by decide +kernel) (by decide +kernel))
theorem ml_L_9 : Cond.methodLink RL 9 yL_cell ∈ tb ∨ Cond.methodLinkNest RL 9 yL_cell RX3 ∈ nb := Or.inl (tb_in 423 (by decide +kernel) (by decide +kernel))
theorem ml_L_15 : Cond.methodLink RL 15 yX3_init ∈ tb ∨ Cond.methodLinkNest RL 15 yX3_init RX3 ∈ nb := Or.inl (tb_in 59 (by decide +kernel) (by decide +kernel))
theorem ml_L_20 : Cond.methodLink RL 20 yX4_init ∈ tb ∨ Cond.methodLinkNest RL 20 yX4_init RX3 ∈ nb := Or.inl (tb_in 428 (by decide +kernel) (by decide +kernel))
theorem ml_L_21 : Cond.methodLink RL 21 yX3_bid ∈ tb ∨ Cond.methodLinkNest RL 21 yX3_bid RX3 ∈ nb := Or.inl (tb_in 281 (by decide +kernel) (by decide +kernel))
theorem ml_L_25 : Cond.methodLink RL 25 yX4_bid ∈ tb ∨ Cond.methodLinkNest RL 25 yX4_bid RX3 ∈ nb := Or.inl (tb_in 574 (by decide +kernel) (by decide +kernel))
theorem ml_L_26 : Cond.methodLink RL 26 yX3_allot ∈ tb ∨ Cond.methodLinkNest RL 26 yX3_allot RX3 ∈ nb := Or.inl (tb_in 289 (by decide +kernel) (by decide +kernel))
theorem ml_L_29 : Cond.methodLink RL 29 yX4_allot ∈ tb ∨ Cond.methodLinkNest RL 29 yX4_allot RX3 ∈ nb := Or.inl (tb_in 582 (by decide +kernel) (by decide +kernel))
theorem ml_L_30 : Cond.methodLink RL 30 yX3_send ∈ tb ∨ Cond.methodLinkNest RL 30 yX3_send RX3 ∈ nb := Or.inl (tb_in 293 (by decide +kernel) (by decide +kernel))
theorem ml_L_34 : Cond.methodLink RL 34 yX4_send ∈ tb ∨ Cond.methodLinkNest RL 34 yX4_send RX3 ∈ nb := Or.inl (tb_in 586 (by decide +kernel) (by decide +kernel))
theorem ml_L_35 : Cond.methodLink RL 35 yX3_cable ∈ tb ∨ Cond.methodLinkNest RL 35 yX3_cable RX3 ∈ nb := Or.inl (tb_in 301 (by decide +kernel) (by decide +kernel))
theorem ml_L_39 : Cond.methodLink RL 39 yX4_cable ∈ tb ∨ Cond.methodLinkNest RL 39 yX4_cable RX3 ∈ nb := Or.inl (tb_in 590 (by decide +kernel) (by decide +kernel))
theorem ml_L_40 : Cond.methodLink RL 40 yX3_power ∈ tb ∨ Cond.methodLinkNest RL 40 yX3_power RX3 ∈ nb := Or.inl (tb_in 305 (by decide +kernel) (by decide +kernel))
theorem ml_L_43 : Cond.methodLink RL 43 yX4_power ∈ tb ∨ Cond.methodLinkNest RL 43 yX4_power RX3 ∈ nb := Or.inl (tb_in 594 (by decide +kernel) (by decide +kernel))
theorem ml_L_44 : Cond.methodLink RL 44 yX3_tick ∈ tb ∨ Cond.methodLinkNest RL 44 yX3_tick RX3 ∈ nb := Or.inl (tb_in 313 (by decide +kernel) (by decide +kernel))
theorem ml_L_48 : Cond.methodLink RL 48 yX4_tick ∈ tb ∨ Cond.methodLinkNest RL 48 yX4_tick RX3 ∈ nb := Or.inl (tb_in 598 (by decide +kernel) (by decide +kernel))
theorem ml_L_49 : Cond.methodLink RL 49 yX3_ring ∈ tb ∨ Cond.methodLinkNest RL 49 yX3_ring RX3 ∈ nb := Or.inl (tb_in 394 (by decide +kernel) (by decide +kernel))
theorem ml_L_53 : Cond.methodLink RL 53 yX4_ring ∈ tb ∨ Cond.methodLinkNest RL 53 yX4_ring RX3 ∈ nb := Or.inl (tb_in 635 (by decide +kernel) (by decide +kernel))
theorem ml_L_54 : Cond.methodLink RL 54 yX3_state ∈ tb ∨ Cond.methodLinkNest RL 54 yX3_state RX3 ∈ nb := Or.inl (tb_in 398 (by decide +kernel) (by decide +kernel))
theorem ml_L_57 : Cond.methodLink RL 57 yX4_state ∈ tb ∨ Cond.methodLinkNest RL 57 yX4_state RX3 ∈ nb := Or.inl (tb_in 639 (by decide +kernel) (by decide +kernel))
theorem ml_L_58 : Cond.methodLink RL 58 yX3_operating ∈ tb ∨ Cond.methodLinkNest RL 58 yX3_operating RX3 ∈ nb := Or.inl (tb_in 403 (by decide +kernel) (by decide +kernel))
theorem ml_L_61 : Cond.methodLink RL 61 yX4_operating ∈ tb ∨ Cond.methodLinkNest RL 61 yX4_operating RX3 ∈ nb := Or.inl (tb_in 644 (by decide +kernel) (by decide +kernel))
theorem ml_L_62 : Cond.methodLink RL 62 yX3_station ∈ tb ∨ Cond.methodLinkNest RL 62 yX3_station RX3 ∈ nb := Or.inl (tb_in 407 (by decide +kernel) (by decide +kernel))
theorem ml_L_66 : Cond.methodLink RL 66 yX4_station ∈ tb ∨ Cond.methodLinkNest RL 66 yX4_station RX3 ∈ nb := Or.inl (tb_in 648 (by decide +kernel) (by decide +kernel))
theorem ml_L_67 : Cond.methodLink RL 67 yX3_rotation ∈ tb ∨ Cond.methodLinkNest RL 67 yX3_rotation RX3 ∈ nb := Or.inl (tb_in 411 (by decide +kernel) (by decide +kernel))
theorem ml_L_71 : Cond.methodLink RL 71 yX4_rotation ∈ tb ∨ Cond.methodLinkNest RL 71 yX4_rotation RX3 ∈ nb := Or.inl (tb_in 652 (by decide +kernel) (by decide +kernel))
theorem ml_L_72 : Cond.methodLink RL 72 yX3_share ∈ tb ∨ Cond.methodLinkNest RL 72 yX3_share RX3 ∈ nb := Or.inl (tb_in 415 (by decide +kernel) (by decide +kernel))
theorem ml_L_76 : Cond.methodLink RL 76 yX4_share ∈ tb ∨ Cond.methodLinkNest RL 76 yX4_share RX3 ∈ nb := Or.inl (tb_in 656 (by decide +kernel) (by decide +kernel))
theorem ml_L_77 : Cond.methodLink RL 77 yX3_longest ∈ tb ∨ Cond.methodLinkNest RL 77 yX3_longest RX3 ∈ nb := Or.inl (tb_in 419 (by decide +kernel) (by decide +kernel))
theorem ml_L_81 : Cond.methodLink RL 81 yX4_longest ∈ tb ∨ Cond.methodLinkNest RL 81 yX4_longest RX3 ∈ nb := Or.inl (tb_in 660 (by decide +kernel) (by decide +kernel))
theorem ml_X2_11 : Cond.methodLink RX2 11 yX0_init ∈ tb ∨ Cond.methodLinkNest RX2 11 yX0_init RX3 ∈ nb := Or.inr (nb_in 76 (by decide +kernel) rfl)
theorem ml_X3_29 : Cond.methodLink RX3 29 yX2_init ∈ tb ∨ Cond.methodLinkNest RX3 29 yX2_init RX3 ∈ nb := Or.inr (nb_in 70 (by decide +kernel) rfl)
theorem ml_X3_30 : Cond.methodLink RX3 30 yX1_init ∈ tb ∨ Cond.methodLinkNest RX3 30 yX1_init RX3 ∈ nb := Or.inr (nb_in 177 (by decide +kernel) rfl)
theorem ml_X3_33 : Cond.methodLink RX3 33 yX3_findRings ∈ tb ∨ Cond.methodLinkNest RX3 33 yX3_findRings RX3 ∈ nb := Or.inl (tb_in 214 (by decide +kernel) (by decide +kernel))
theorem ml_X3_36 : Cond.methodLink RX3 36 yX3_isStation ∈ tb ∨ Cond.methodLinkNest RX3 36 yX3_isStation RX3 ∈ nb := Or.inl (tb_in 285 (by decide +kernel) (by decide +kernel))
theorem ml_X3_46 : Cond.methodLink RX3 46 yX2_queueFor ∈ tb ∨ Cond.methodLinkNest RX3 46 yX2_queueFor RX3 ∈ nb := Or.inr (nb_in 254 (by decide +kernel) rfl)
theorem ml_X3_50 : Cond.methodLink RX3 50 yX0_addLast ∈ tb ∨ Cond.methodLinkNest RX3 50 yX0_addLast RX3 ∈ nb := Or.inr (nb_in 297 (by decide +kernel) rfl)
theorem ml_X3_60 : Cond.methodLink RX3 60 yX2_leaveRing ∈ tb ∨ Cond.methodLinkNest RX3 60 yX2_leaveRing RX3 ∈ nb := Or.inr (nb_in 309 (by decide +kernel) rfl)
theorem ml_X3_66 : Cond.methodLink RX3 66 yX3_passTick ∈ tb ∨ Cond.methodLinkNest RX3 66 yX3_passTick RX3 ∈ nb := Or.inl (tb_in 317 (by decide +kernel) (by decide +kernel))
theorem ml_X3_73 : Cond.methodLink RX3 73 yX3_ring ∈ tb ∨ Cond.methodLinkNest RX3 73 yX3_ring RX3 ∈ nb := Or.inl (tb_in 402 (by decide +kernel) (by decide +kernel))
theorem ml_X3_77 : Cond.methodLink RX3 77 yX1_claims ∈ tb ∨ Cond.methodLinkNest RX3 77 yX1_claims RX3 ∈ nb := Or.inr (nb_in 321 (by decide +kernel) rfl)
theorem ml_X3_87 : Cond.methodLink RX3 87 yX3_numberAt ∈ tb ∨ Cond.methodLinkNest RX3 87 yX3_numberAt RX3 ∈ nb := Or.inl (tb_in 250 (by decide +kernel) (by decide +kernel))
theorem ml_X3_147 : Cond.methodLink RX3 147 yX3_isUnbroken ∈ tb ∨ Cond.methodLinkNest RX3 147 yX3_isUnbroken RX3 ∈ nb := Or.inl (tb_in 218 (by decide +kernel) (by decide +kernel))
theorem ml_X3_150 : Cond.methodLink RX3 150 yX3_rowLength ∈ tb ∨ Cond.methodLinkNest RX3 150 yX3_rowLength RX3 ∈ nb := Or.inl (tb_in 230 (by decide +kernel) (by decide +kernel))
theorem ml_X3_159 : Cond.methodLink RX3 159 yX3_reform ∈ tb ∨ Cond.methodLinkNest RX3 159 yX3_reform RX3 ∈ nb := Or.inl (tb_in 238 (by decide +kernel) (by decide +kernel))
theorem ml_X3_163 : Cond.methodLink RX3 163 yX3_isJoinedToNext ∈ tb ∨ Cond.methodLinkNest RX3 163 yX3_isJoinedToNext RX3 ∈ nb := Or.inl (tb_in 222 (by decide +kernel) (by decide +kernel))
theorem ml_X3_166 : Cond.methodLink RX3 166 yX3_numberAfter ∈ tb ∨ Cond.methodLinkNest RX3 166 yX3_numberAfter RX3 ∈ nb := Or.inl (tb_in 226 (by decide +kernel) (by decide +kernel))
theorem ml_X3_169 : Cond.methodLink RX3 169 yX3_numberBefore ∈ tb ∨ Cond.methodLinkNest RX3 169 yX3_numberBefore RX3 ∈ nb := Or.inl (tb_in 234 (by decide +kernel) (by decide +kernel))
theorem ml_X3_172 : Cond.methodLink RX3 172 yX3_loseFrameBeingSent ∈ tb ∨ Cond.methodLinkNest RX3 172 yX3_loseFrameBeingSent RX3 ∈ nb := Or.inl (tb_in 242 (by decide +kernel) (by decide +kernel))
theorem ml_X3_178 : Cond.methodLink RX3 178 yX3_stationAt ∈ tb ∨ Cond.methodLinkNest RX3 178 yX3_stationAt RX3 ∈ nb := Or.inl (tb_in 246 (by decide +kernel) (by decide +kernel))
theorem ml_X3_185 : Cond.methodLink RX3 185 yX0_removeFirst ∈ tb ∨ Cond.methodLinkNest RX3 185 yX0_removeFirst RX3 ∈ nb := Or.inr (nb_in 258 (by decide +kernel) rfl)
theorem ml_X3_188 : Cond.methodLink RX3 188 yX3_passClaim ∈ tb ∨ Cond.methodLinkNest RX3 188 yX3_passClaim RX3 ∈ nb := Or.inl (tb_in 325 (by decide +kernel) (by decide +kernel))
theorem ml_X3_191 : Cond.methodLink RX3 191 yX3_runTimers ∈ tb ∨ Cond.methodLinkNest RX3 191 yX3_runTimers RX3 ∈ nb := Or.inl (tb_in 345 (by decide +kernel) (by decide +kernel))
theorem ml_X3_195 : Cond.methodLink RX3 195 yX3_passToken ∈ tb ∨ Cond.methodLinkNest RX3 195 yX3_passToken RX3 ∈ nb := Or.inl (tb_in 353 (by decide +kernel) (by decide +kernel))
theorem ml_X3_198 : Cond.methodLink RX3 198 yX3_claim ∈ tb ∨ Cond.methodLinkNest RX3 198 yX3_claim RX3 ∈ nb := Or.inl (tb_in 390 (by decide +kernel) (by decide +kernel))
theorem ml_X3_201 : Cond.methodLink RX3 201 yX3_operate ∈ tb ∨ Cond.methodLinkNest RX3 201 yX3_operate RX3 ∈ nb := Or.inl (tb_in 329 (by decide +kernel) (by decide +kernel))
theorem ml_X3_204 : Cond.methodLink RX3 204 yX3_winningPlace ∈ tb ∨ Cond.methodLinkNest RX3 204 yX3_winningPlace RX3 ∈ nb := Or.inl (tb_in 333 (by decide +kernel) (by decide +kernel))
theorem ml_X3_208 : Cond.methodLink RX3 208 yX2_resetTimers ∈ tb ∨ Cond.methodLinkNest RX3 208 yX2_resetTimers RX3 ∈ nb := Or.inr (nb_in 337 (by decide +kernel) rfl)
theorem ml_X3_211 : Cond.methodLink RX3 211 yX3_leave ∈ tb ∨ Cond.methodLinkNest RX3 211 yX3_leave RX3 ∈ nb := Or.inl (tb_in 341 (by decide +kernel) (by decide +kernel))
theorem ml_X3_214 : Cond.methodLink RX3 214 yX2_runTimer ∈ tb ∨ Cond.methodLinkNest RX3 214 yX2_runTimer RX3 ∈ nb := Or.inr (nb_in 349 (by decide +kernel) rfl)
theorem ml_X3_217 : Cond.methodLink RX3 217 yX3_arrive ∈ tb ∨ Cond.methodLinkNest RX3 217 yX3_arrive RX3 ∈ nb := Or.inl (tb_in 357 (by decide +kernel) (by decide +kernel))
theorem ml_X3_220 : Cond.methodLink RX3 220 yX3_passFrame ∈ tb ∨ Cond.methodLinkNest RX3 220 yX3_passFrame RX3 ∈ nb := Or.inl (tb_in 366 (by decide +kernel) (by decide +kernel))
theorem ml_X3_223 : Cond.methodLink RX3 223 yX3_beginFrameOrLeave ∈ tb ∨ Cond.methodLinkNest RX3 223 yX3_beginFrameOrLeave RX3 ∈ nb := Or.inl (tb_in 378 (by decide +kernel) (by decide +kernel))
theorem ml_X3_232 : Cond.methodLink RX3 232 yX2_takeToken ∈ tb ∨ Cond.methodLinkNest RX3 232 yX2_takeToken RX3 ∈ nb := Or.inr (nb_in 361 (by decide +kernel) rfl)
theorem ml_X3_239 : Cond.methodLink RX3 239 yX3_finishFrame ∈ tb ∨ Cond.methodLinkNest RX3 239 yX3_finishFrame RX3 ∈ nb := Or.inl (tb_in 370 (by decide +kernel) (by decide +kernel))
theorem ml_X3_250 : Cond.methodLink RX3 250 yX2_receive ∈ tb ∨ Cond.methodLinkNest RX3 250 yX2_receive RX3 ∈ nb := Or.inr (nb_in 374 (by decide +kernel) rfl)
theorem ml_X3_253 : Cond.methodLink RX3 253 yX2_mayBeginSynchronous ∈ tb ∨ Cond.methodLinkNest RX3 253 yX2_mayBeginSynchronous RX3 ∈ nb := Or.inr (nb_in 382 (by decide +kernel) rfl)
theorem ml_X3_256 : Cond.methodLink RX3 256 yX2_mayBeginAsynchronous ∈ tb ∨ Cond.methodLinkNest RX3 256 yX2_mayBeginAsynchronous RX3 ∈ nb := Or.inr (nb_in 386 (by decide +kernel) rfl)
theorem ml_X4_115 : Cond.methodLink RX4 115 yX4_arrange ∈ tb ∨ Cond.methodLinkNest RX4 115 yX4_arrange RX3 ∈ nb := Or.inl (tb_in 432 (by decide +kernel) (by decide +kernel))
theorem ml_X4_118 : Cond.methodLink RX4 118 yX4_next ∈ tb ∨ Cond.methodLinkNest RX4 118 yX4_next RX3 ∈ nb := Or.inl (tb_in 440 (by decide +kernel) (by decide +kernel))
theorem ml_X4_122 : Cond.methodLink RX4 122 yX4_isJoined ∈ tb ∨ Cond.methodLinkNest RX4 122 yX4_isJoined RX3 ∈ nb := Or.inl (tb_in 436 (by decide +kernel) (by decide +kernel))
theorem ml_X4_126 : Cond.methodLink RX4 126 yX4_takeOut ∈ tb ∨ Cond.methodLinkNest RX4 126 yX4_takeOut RX3 ∈ nb := Or.inl (tb_in 460 (by decide +kernel) (by decide +kernel))
theorem ml_X4_130 : Cond.methodLink RX4 130 yX4_previous ∈ tb ∨ Cond.methodLinkNest RX4 130 yX4_previous RX3 ∈ nb := Or.inl (tb_in 444 (by decide +kernel) (by decide +kernel))
theorem ml_X4_133 : Cond.methodLink RX4 133 yX4_follow ∈ tb ∨ Cond.methodLinkNest RX4 133 yX4_follow RX3 ∈ nb := Or.inl (tb_in 448 (by decide +kernel) (by decide +kernel))
theorem ml_X4_136 : Cond.methodLink RX4 136 yX4_isAsBefore ∈ tb ∨ Cond.methodLinkNest RX4 136 yX4_isAsBefore RX3 ∈ nb := Or.inl (tb_in 452 (by decide +kernel) (by decide +kernel))
theorem ml_X4_140 : Cond.methodLink RX4 140 yX4_claim ∈ tb ∨ Cond.methodLinkNest RX4 140 yX4_claim RX3 ∈ nb := Or.inl (tb_in 456 (by decide +kernel) (by decide +kernel))
theorem ml_X4_143 : Cond.methodLink RX4 143 yX4_leave ∈ tb ∨ Cond.methodLinkNest RX4 143 yX4_leave RX3 ∈ nb := Or.inl (tb_in 610 (by decide +kernel) (by decide +kernel))
theorem ml_X4_146 : Cond.methodLink RX4 146 yX4_holder ∈ tb ∨ Cond.methodLinkNest RX4 146 yX4_holder RX3 ∈ nb := Or.inl (tb_in 622 (by decide +kernel) (by decide +kernel))
theorem ml_X4_153 : Cond.methodLink RX4 153 yX4_operate ∈ tb ∨ Cond.methodLinkNest RX4 153 yX4_operate RX3 ∈ nb := Or.inl (tb_in 606 (by decide +kernel) (by decide +kernel))
theorem ml_X4_156 : Cond.methodLink RX4 156 yX4_age ∈ tb ∨ Cond.methodLinkNest RX4 156 yX4_age RX3 ∈ nb := Or.inl (tb_in 614 (by decide +kernel) (by decide +kernel))
theorem ml_X4_159 : Cond.methodLink RX4 159 yX4_arrive ∈ tb ∨ Cond.methodLinkNest RX4 159 yX4_arrive RX3 ∈ nb := Or.inl (tb_in 618 (by decide +kernel) (by decide +kernel))
theorem ml_X4_162 : Cond.methodLink RX4 162 yX4_finish ∈ tb ∨ Cond.methodLinkNest RX4 162 yX4_finish RX3 ∈ nb := Or.inl (tb_in 627 (by decide +kernel) (by decide +kernel))
theorem ml_X4_165 : Cond.methodLink RX4 165 yX4_begin ∈ tb ∨ Cond.methodLinkNest RX4 165 yX4_begin RX3 ∈ nb := Or.inl (tb_in 631 (by decide +kernel) (by decide +kernel))
theorem ml_X4_168 : Cond.methodLink RX4 168 yX4_isStation ∈ tb ∨ Cond.methodLinkNest RX4 168 yX4_isStation RX3 ∈ nb := Or.inl (tb_in 578 (by decide +kernel) (by decide +kernel))
theorem ml_X4_174 : Cond.methodLink RX4 174 yX4_tickRing ∈ tb ∨ Cond.methodLinkNest RX4 174 yX4_tickRing RX3 ∈ nb := Or.inl (tb_in 602 (by decide +kernel) (by decide +kernel))
theorem ml_X4_177 : Cond.methodLink RX4 177 yX4_ring ∈ tb ∨ Cond.methodLinkNest RX4 177 yX4_ring RX3 ∈ nb := Or.inl (tb_in 643 (by decide +kernel) (by decide +kernel))
set_option maxRecDepth 40000 in
theorem cf_X0_addLast : (yX0_addLast.cls = ((RX0, TX0, 4) : vw_C).1 ∧ yX0_addLast.cls ≠ "java/lang/invoke/MethodHandle" ∧ yX0_addLast.cls ≠ "java/lang/invoke/VarHandle" ∧ (parseMethodDescriptor yX0_addLast.desc).map (fun d => d.parameters.length) = some 3) ∧ Cond.instanceMethod yX0_addLast ∈ tb ∧ Cond.selects ((RX0, TX0, 4) : vw_C).1 yX0_addLast yX0_addLast ∈ tb ∧ Cond.initialized ((RX0, TX0, 4) : vw_C).1 ∈ tb ∧ Cond.code yX0_addLast cX0_addLast 4 (some .boolean) ∈ tb := ⟨⟨rfl, by decide, by decide, by decide +kernel⟩, tb_in 299 (by decide +kernel) (by decide +kernel), tb_in 13 (by decide +kernel) (by decide +kernel), tb_in 54 (by decide +kernel) (by decide +kernel), tb_in 300 rfl (by decide +kernel)⟩
set_option maxRecDepth 40000 in
theorem cf_X0_removeFirst : (yX0_removeFirst.cls = ((RX0, TX0, 4) : vw_C).1 ∧ yX0_removeFirst.cls ≠ "java/lang/invoke/MethodHandle" ∧ yX0_removeFirst.cls ≠ "java/lang/invoke/VarHandle" ∧ (parseMethodDescriptor yX0_removeFirst.desc).map (fun d => d.parameters.length) = some 0) ∧ Cond.instanceMethod yX0_removeFirst ∈ tb ∧ Cond.selects ((RX0, TX0, 4) : vw_C).1 yX0_removeFirst yX0_removeFirst ∈ tb ∧ Cond.initialized ((RX0, TX0, 4) : vw_C).1 ∈ tb ∧ Cond.code yX0_removeFirst cX0_removeFirst 2 none ∈ tb := ⟨⟨rfl, by decide, by decide, by decide +kernel⟩, tb_in 260 (by decide +kernel) (by decide +kernel), tb_in 11 (by decide +kernel) (by decide +kernel), tb_in 54 (by decide +kernel) (by decide +kernel), tb_in 261 rfl (by decide +kernel)⟩
set_option maxRecDepth 40000 in
theorem cf_X1_claims : (yX1_claims.cls = ((RX1, TX1, 10) : vw_C).1 ∧ yX1_claims.cls ≠ "java/lang/invoke/MethodHandle" ∧ yX1_claims.cls ≠ "java/lang/invoke/VarHandle" ∧ (parseMethodDescriptor yX1_claims.desc).map (fun d => d.parameters.length) = some 0) ∧ Cond.instanceMethod yX1_claims ∈ tb ∧ Cond.selects ((RX1, TX1, 10) : vw_C).1 yX1_claims yX1_claims ∈ tb ∧ Cond.initialized ((RX1, TX1, 10) : vw_C).1 ∈ tb ∧ Cond.code yX1_claims cX1_claims 1 (some .boolean) ∈ tb := ⟨⟨rfl, by decide, by decide, by decide +kernel⟩, tb_in 323 (by decide +kernel) (by decide +kernel), tb_in 16 (by decide +kernel) (by decide +kernel), tb_in 55 (by decide +kernel) (by decide +kernel), tb_in 324 rfl (by decide +kernel)⟩
set_option maxRecDepth 40000 in
theorem cf_X2_leaveRing : (yX2_leaveRing.cls = ((RX2, TX2, 19) : vw_C).1 ∧ yX2_leaveRing.cls ≠ "java/lang/invoke/MethodHandle" ∧ yX2_leaveRing.cls ≠ "java/lang/invoke/VarHandle" ∧ (parseMethodDescriptor yX2_leaveRing.desc).map (fun d => d.parameters.length) = some 0) ∧ Cond.instanceMethod yX2_leaveRing ∈ tb ∧ Cond.selects ((RX2, TX2, 19) : vw_C).1 yX2_leaveRing yX2_leaveRing ∈ tb ∧ Cond.initialized ((RX2, TX2, 19) : vw_C).1 ∈ tb ∧ Cond.code yX2_leaveRing cX2_leaveRing 1 none ∈ tb := ⟨⟨rfl, by decide, by decide, by decide +kernel⟩, tb_in 311 (by decide +kernel) (by decide +kernel), tb_in 14 (by decide +kernel) (by decide +kernel), tb_in 53 (by decide +kernel) (by decide +kernel), tb_in 312 rfl (by decide +kernel)⟩
set_option maxRecDepth 40000 in
theorem cf_X2_mayBeginAsynchronous : (yX2_mayBeginAsynchronous.cls = ((RX2, TX2, 19) : vw_C).1 ∧ yX2_mayBeginAsynchronous.cls ≠ "java/lang/invoke/MethodHandle" ∧ yX2_mayBeginAsynchronous.cls ≠ "java/lang/invoke/VarHandle" ∧ (parseMethodDescriptor yX2_mayBeginAsynchronous.desc).map (fun d => d.parameters.length) = some 1) ∧ Cond.instanceMethod yX2_mayBeginAsynchronous ∈ tb ∧ Cond.selects ((RX2, TX2, 19) : vw_C).1 yX2_mayBeginAsynchronous yX2_mayBeginAsynchronous ∈ tb ∧ Cond.initialized ((RX2, TX2, 19) : vw_C).1 ∈ tb ∧ Cond.code yX2_mayBeginAsynchronous cX2_mayBeginAsynchronous 3 (some .boolean) ∈ tb := ⟨⟨rfl, by decide, by decide, by decide +kernel⟩, tb_in 388 (by decide +kernel) (by decide +kernel), tb_in 32 (by decide +kernel) (by decide +kernel), tb_in 53 (by decide +kernel) (by decide +kernel), tb_in 389 rfl (by decide +kernel)⟩
set_option maxRecDepth 40000 in
theorem cf_X2_mayBeginSynchronous : (yX2_mayBeginSynchronous.cls = ((RX2, TX2, 19) : vw_C).1 ∧ yX2_mayBeginSynchronous.cls ≠ "java/lang/invoke/MethodHandle" ∧ yX2_mayBeginSynchronous.cls ≠ "java/lang/invoke/VarHandle" ∧ (parseMethodDescriptor yX2_mayBeginSynchronous.desc).map (fun d => d.parameters.length) = some 0) ∧ Cond.instanceMethod yX2_mayBeginSynchronous ∈ tb ∧ Cond.selects ((RX2, TX2, 19) : vw_C).1 yX2_mayBeginSynchronous yX2_mayBeginSynchronous ∈ tb ∧ Cond.initialized ((RX2, TX2, 19) : vw_C).1 ∈ tb ∧ Cond.code yX2_mayBeginSynchronous cX2_mayBeginSynchronous 1 (some .boolean) ∈ tb := ⟨⟨rfl, by decide, by decide, by decide +kernel⟩, tb_in 384 (by decide +kernel) (by decide +kernel), tb_in 31 (by decide +kernel) (by decide +kernel), tb_in 53 (by decide +kernel) (by decide +kernel), tb_in 385 rfl (by decide +kernel)⟩
set_option maxRecDepth 40000 in
theorem cf_X2_queueFor : (yX2_queueFor.cls = ((RX2, TX2, 19) : vw_C).1 ∧ yX2_queueFor.cls ≠ "java/lang/invoke/MethodHandle" ∧ yX2_queueFor.cls ≠ "java/lang/invoke/VarHandle" ∧ (parseMethodDescriptor yX2_queueFor.desc).map (fun d => d.parameters.length) = some 1) ∧ Cond.instanceMethod yX2_queueFor ∈ tb ∧ Cond.selects ((RX2, TX2, 19) : vw_C).1 yX2_queueFor yX2_queueFor ∈ tb ∧ Cond.initialized ((RX2, TX2, 19) : vw_C).1 ∈ tb ∧ Cond.code yX2_queueFor cX2_queueFor 2 (some (.object "DualRing$FrameQueue")) ∈ tb := ⟨⟨rfl, by decide, by decide, by decide +kernel⟩, tb_in 256 (by decide +kernel) (by decide +kernel), tb_in 10 (by decide +kernel) (by decide +kernel), tb_in 53 (by decide +kernel) (by decide +kernel), tb_in 257 rfl (by decide +kernel)⟩
set_option maxRecDepth 40000 in
theorem cf_X2_receive : (yX2_receive.cls = ((RX2, TX2, 19) : vw_C).1 ∧ yX2_receive.cls ≠ "java/lang/invoke/MethodHandle" ∧ yX2_receive.cls ≠ "java/lang/invoke/VarHandle" ∧ (parseMethodDescriptor yX2_receive.desc).map (fun d => d.parameters.length) = some 2) ∧ Cond.instanceMethod yX2_receive ∈ tb ∧ Cond.selects ((RX2, TX2, 19) : vw_C).1 yX2_receive yX2_receive ∈ tb ∧ Cond.initialized ((RX2, TX2, 19) : vw_C).1 ∈ tb ∧ Cond.code yX2_receive cX2_receive 3 none ∈ tb := ⟨⟨rfl, by decide, by decide, by decide +kernel⟩, tb_in 376 (by decide +kernel) (by decide +kernel), tb_in 29 (by decide +kernel) (by decide +kernel), tb_in 53 (by decide +kernel) (by decide +kernel), tb_in 377 rfl (by decide +kernel)⟩
set_option maxRecDepth 40000 in
theorem cf_X2_resetTimers : (yX2_resetTimers.cls = ((RX2, TX2, 19) : vw_C).1 ∧ yX2_resetTimers.cls ≠ "java/lang/invoke/MethodHandle" ∧ yX2_resetTimers.cls ≠ "java/lang/invoke/VarHandle" ∧ (parseMethodDescriptor yX2_resetTimers.desc).map (fun d => d.parameters.length) = some 0) ∧ Cond.instanceMethod yX2_resetTimers ∈ tb ∧ Cond.selects ((RX2, TX2, 19) : vw_C).1 yX2_resetTimers yX2_resetTimers ∈ tb ∧ Cond.initialized ((RX2, TX2, 19) : vw_C).1 ∈ tb ∧ Cond.code yX2_resetTimers cX2_resetTimers 1 none ∈ tb := ⟨⟨rfl, by decide, by decide, by decide +kernel⟩, tb_in 339 (by decide +kernel) (by decide +kernel), tb_in 20 (by decide +kernel) (by decide +kernel), tb_in 53 (by decide +kernel) (by decide +kernel), tb_in 340 rfl (by decide +kernel)⟩
set_option maxRecDepth 40000 in
theorem cf_X2_runTimer : (yX2_runTimer.cls = ((RX2, TX2, 19) : vw_C).1 ∧ yX2_runTimer.cls ≠ "java/lang/invoke/MethodHandle" ∧ yX2_runTimer.cls ≠ "java/lang/invoke/VarHandle" ∧ (parseMethodDescriptor yX2_runTimer.desc).map (fun d => d.parameters.length) = some 1) ∧ Cond.instanceMethod yX2_runTimer ∈ tb ∧ Cond.selects ((RX2, TX2, 19) : vw_C).1 yX2_runTimer yX2_runTimer ∈ tb ∧ Cond.initialized ((RX2, TX2, 19) : vw_C).1 ∈ tb ∧ Cond.code yX2_runTimer cX2_runTimer 2 none ∈ tb := ⟨⟨rfl, by decide, by decide, by decide +kernel⟩, tb_in 351 (by decide +kernel) (by decide +kernel), tb_in 23 (by decide +kernel) (by decide +kernel), tb_in 53 (by decide +kernel) (by decide +kernel), tb_in 352 rfl (by decide +kernel)⟩
set_option maxRecDepth 40000 in
theorem cf_X2_takeToken : (yX2_takeToken.cls = ((RX2, TX2, 19) : vw_C).1 ∧ yX2_takeToken.cls ≠ "java/lang/invoke/MethodHandle" ∧ yX2_takeToken.cls ≠ "java/lang/invoke/VarHandle" ∧ (parseMethodDescriptor yX2_takeToken.desc).map (fun d => d.parameters.length) = some 2) ∧ Cond.instanceMethod yX2_takeToken ∈ tb ∧ Cond.selects ((RX2, TX2, 19) : vw_C).1 yX2_takeToken yX2_takeToken ∈ tb ∧ Cond.initialized ((RX2, TX2, 19) : vw_C).1 ∈ tb ∧ Cond.code yX2_takeToken cX2_takeToken 3 none ∈ tb := ⟨⟨rfl, by decide, by decide, by decide +kernel⟩, tb_in 363 (by decide +kernel) (by decide +kernel), tb_in 26 (by decide +kernel) (by decide +kernel), tb_in 53 (by decide +kernel) (by decide +kernel), tb_in 364 rfl (by decide +kernel)⟩
set_option maxRecDepth 40000 in
theorem cf_X3_allot : (yX3_allot.cls = ((RX3, TX3, 6) : vw_C).1 ∧ yX3_allot.cls ≠ "java/lang/invoke/MethodHandle" ∧ yX3_allot.cls ≠ "java/lang/invoke/VarHandle" ∧ (parseMethodDescriptor yX3_allot.desc).map (fun d => d.parameters.length) = some 2) ∧ Cond.instanceMethod yX3_allot ∈ tb ∧ Cond.selects ((RX3, TX3, 6) : vw_C).1 yX3_allot yX3_allot ∈ tb ∧ Cond.initialized ((RX3, TX3, 6) : vw_C).1 ∈ tb ∧ Cond.code yX3_allot cX3_allot 3 (some .boolean) ∈ tb := ⟨⟨rfl, by decide, by decide, by decide +kernel⟩, tb_in 290 (by decide +kernel) (by decide +kernel), tb_in 291 (by decide +kernel) (by decide +kernel), tb_in 52 (by decide +kernel) (by decide +kernel), tb_in 292 rfl (by decide +kernel)⟩
set_option maxRecDepth 40000 in
theorem cf_X3_arrive : (yX3_arrive.cls = ((RX3, TX3, 6) : vw_C).1 ∧ yX3_arrive.cls ≠ "java/lang/invoke/MethodHandle" ∧ yX3_arrive.cls ≠ "java/lang/invoke/VarHandle" ∧ (parseMethodDescriptor yX3_arrive.desc).map (fun d => d.parameters.length) = some 1) ∧ Cond.instanceMethod yX3_arrive ∈ tb ∧ Cond.selects ((RX3, TX3, 6) : vw_C).1 yX3_arrive yX3_arrive ∈ tb ∧ Cond.initialized ((RX3, TX3, 6) : vw_C).1 ∈ tb ∧ Cond.code yX3_arrive cX3_arrive 4 none ∈ tb := ⟨⟨rfl, by decide, by decide, by decide +kernel⟩, tb_in 359 (by decide +kernel) (by decide +kernel), tb_in 25 (by decide +kernel) (by decide +kernel), tb_in 52 (by decide +kernel) (by decide +kernel), tb_in 360 rfl (by decide +kernel)⟩
set_option maxRecDepth 40000 in
theorem cf_X3_beginFrameOrLeave : (yX3_beginFrameOrLeave.cls = ((RX3, TX3, 6) : vw_C).1 ∧ yX3_beginFrameOrLeave.cls ≠ "java/lang/invoke/MethodHandle" ∧ yX3_beginFrameOrLeave.cls ≠ "java/lang/invoke/VarHandle" ∧ (parseMethodDescriptor yX3_beginFrameOrLeave.desc).map (fun d => d.parameters.length) = some 1) ∧ Cond.instanceMethod yX3_beginFrameOrLeave ∈ tb ∧ Cond.selects ((RX3, TX3, 6) : vw_C).1 yX3_beginFrameOrLeave yX3_beginFrameOrLeave ∈ tb ∧ Cond.initialized ((RX3, TX3, 6) : vw_C).1 ∈ tb ∧ Cond.code yX3_beginFrameOrLeave cX3_beginFrameOrLeave 3 none ∈ tb := ⟨⟨rfl, by decide, by decide, by decide +kernel⟩, tb_in 380 (by decide +kernel) (by decide +kernel), tb_in 30 (by decide +kernel) (by decide +kernel), tb_in 52 (by decide +kernel) (by decide +kernel), tb_in 381 rfl (by decide +kernel)⟩
set_option maxRecDepth 40000 in
theorem cf_X3_bid : (yX3_bid.cls = ((RX3, TX3, 6) : vw_C).1 ∧ yX3_bid.cls ≠ "java/lang/invoke/MethodHandle" ∧ yX3_bid.cls ≠ "java/lang/invoke/VarHandle" ∧ (parseMethodDescriptor yX3_bid.desc).map (fun d => d.parameters.length) = some 2) ∧ Cond.instanceMethod yX3_bid ∈ tb ∧ Cond.selects ((RX3, TX3, 6) : vw_C).1 yX3_bid yX3_bid ∈ tb ∧ Cond.initialized ((RX3, TX3, 6) : vw_C).1 ∈ tb ∧ Cond.code yX3_bid cX3_bid 3 (some .boolean) ∈ tb := ⟨⟨rfl, by decide, by decide, by decide +kernel⟩, tb_in 282 (by decide +kernel) (by decide +kernel), tb_in 283 (by decide +kernel) (by decide +kernel), tb_in 52 (by decide +kernel) (by decide +kernel), tb_in 284 rfl (by decide +kernel)⟩
set_option maxRecDepth 40000 in
theorem cf_X3_cable : (yX3_cable.cls = ((RX3, TX3, 6) : vw_C).1 ∧ yX3_cable.cls ≠ "java/lang/invoke/MethodHandle" ∧ yX3_cable.cls ≠ "java/lang/invoke/VarHandle" ∧ (parseMethodDescriptor yX3_cable.desc).map (fun d => d.parameters.length) = some 2) ∧ Cond.instanceMethod yX3_cable ∈ tb ∧ Cond.selects ((RX3, TX3, 6) : vw_C).1 yX3_cable yX3_cable ∈ tb ∧ Cond.initialized ((RX3, TX3, 6) : vw_C).1 ∈ tb ∧ Cond.code yX3_cable cX3_cable 3 (some .boolean) ∈ tb := ⟨⟨rfl, by decide, by decide, by decide +kernel⟩, tb_in 302 (by decide +kernel) (by decide +kernel), tb_in 303 (by decide +kernel) (by decide +kernel), tb_in 52 (by decide +kernel) (by decide +kernel), tb_in 304 rfl (by decide +kernel)⟩
set_option maxRecDepth 40000 in
theorem cf_X3_claim : (yX3_claim.cls = ((RX3, TX3, 6) : vw_C).1 ∧ yX3_claim.cls ≠ "java/lang/invoke/MethodHandle" ∧ yX3_claim.cls ≠ "java/lang/invoke/VarHandle" ∧ (parseMethodDescriptor yX3_claim.desc).map (fun d => d.parameters.length) = some 1) ∧ Cond.instanceMethod yX3_claim ∈ tb ∧ Cond.selects ((RX3, TX3, 6) : vw_C).1 yX3_claim yX3_claim ∈ tb ∧ Cond.initialized ((RX3, TX3, 6) : vw_C).1 ∈ tb ∧ Cond.code yX3_claim cX3_claim 2 none ∈ tb := ⟨⟨rfl, by decide, by decide, by decide +kernel⟩, tb_in 392 (by decide +kernel) (by decide +kernel), tb_in 33 (by decide +kernel) (by decide +kernel), tb_in 52 (by decide +kernel) (by decide +kernel), tb_in 393 rfl (by decide +kernel)⟩
set_option maxRecDepth 40000 in
theorem cf_X3_findRings : (yX3_findRings.cls = ((RX3, TX3, 6) : vw_C).1 ∧ yX3_findRings.cls ≠ "java/lang/invoke/MethodHandle" ∧ yX3_findRings.cls ≠ "java/lang/invoke/VarHandle" ∧ (parseMethodDescriptor yX3_findRings.desc).map (fun d => d.parameters.length) = some 0) ∧ Cond.instanceMethod yX3_findRings ∈ tb ∧ Cond.selects ((RX3, TX3, 6) : vw_C).1 yX3_findRings yX3_findRings ∈ tb ∧ Cond.initialized ((RX3, TX3, 6) : vw_C).1 ∈ tb ∧ Cond.code yX3_findRings cX3_findRings 6 none ∈ tb := ⟨⟨rfl, by decide, by decide, by decide +kernel⟩, tb_in 216 (by decide +kernel) (by decide +kernel), tb_in 0 (by decide +kernel) (by decide +kernel), tb_in 52 (by decide +kernel) (by decide +kernel), tb_in 217 rfl (by decide +kernel)⟩
set_option maxRecDepth 40000 in
theorem cf_X3_finishFrame : (yX3_finishFrame.cls = ((RX3, TX3, 6) : vw_C).1 ∧ yX3_finishFrame.cls ≠ "java/lang/invoke/MethodHandle" ∧ yX3_finishFrame.cls ≠ "java/lang/invoke/VarHandle" ∧ (parseMethodDescriptor yX3_finishFrame.desc).map (fun d => d.parameters.length) = some 2) ∧ Cond.instanceMethod yX3_finishFrame ∈ tb ∧ Cond.selects ((RX3, TX3, 6) : vw_C).1 yX3_finishFrame yX3_finishFrame ∈ tb ∧ Cond.initialized ((RX3, TX3, 6) : vw_C).1 ∈ tb ∧ Cond.code yX3_finishFrame cX3_finishFrame 6 none ∈ tb := ⟨⟨rfl, by decide, by decide, by decide +kernel⟩, tb_in 372 (by decide +kernel) (by decide +kernel), tb_in 28 (by decide +kernel) (by decide +kernel), tb_in 52 (by decide +kernel) (by decide +kernel), tb_in 373 rfl (by decide +kernel)⟩
set_option maxRecDepth 40000 in
theorem cf_X3_isJoinedToNext : (yX3_isJoinedToNext.cls = ((RX3, TX3, 6) : vw_C).1 ∧ yX3_isJoinedToNext.cls ≠ "java/lang/invoke/MethodHandle" ∧ yX3_isJoinedToNext.cls ≠ "java/lang/invoke/VarHandle" ∧ (parseMethodDescriptor yX3_isJoinedToNext.desc).map (fun d => d.parameters.length) = some 1) ∧ Cond.instanceMethod yX3_isJoinedToNext ∈ tb ∧ Cond.selects ((RX3, TX3, 6) : vw_C).1 yX3_isJoinedToNext yX3_isJoinedToNext ∈ tb ∧ Cond.initialized ((RX3, TX3, 6) : vw_C).1 ∈ tb ∧ Cond.code yX3_isJoinedToNext cX3_isJoinedToNext 2 (some .boolean) ∈ tb := ⟨⟨rfl, by decide, by decide, by decide +kernel⟩, tb_in 224 (by decide +kernel) (by decide +kernel), tb_in 2 (by decide +kernel) (by decide +kernel), tb_in 52 (by decide +kernel) (by decide +kernel), tb_in 225 rfl (by decide +kernel)⟩
set_option maxRecDepth 40000 in
theorem cf_X3_isStation : (yX3_isStation.cls = ((RX3, TX3, 6) : vw_C).1 ∧ yX3_isStation.cls ≠ "java/lang/invoke/MethodHandle" ∧ yX3_isStation.cls ≠ "java/lang/invoke/VarHandle" ∧ (parseMethodDescriptor yX3_isStation.desc).map (fun d => d.parameters.length) = some 1) ∧ Cond.instanceMethod yX3_isStation ∈ tb ∧ Cond.selects ((RX3, TX3, 6) : vw_C).1 yX3_isStation yX3_isStation ∈ tb ∧ Cond.initialized ((RX3, TX3, 6) : vw_C).1 ∈ tb ∧ Cond.code yX3_isStation cX3_isStation 2 (some .boolean) ∈ tb := ⟨⟨rfl, by decide, by decide, by decide +kernel⟩, tb_in 287 (by decide +kernel) (by decide +kernel), tb_in 12 (by decide +kernel) (by decide +kernel), tb_in 52 (by decide +kernel) (by decide +kernel), tb_in 288 rfl (by decide +kernel)⟩
set_option maxRecDepth 40000 in
theorem cf_X3_isUnbroken : (yX3_isUnbroken.cls = ((RX3, TX3, 6) : vw_C).1 ∧ yX3_isUnbroken.cls ≠ "java/lang/invoke/MethodHandle" ∧ yX3_isUnbroken.cls ≠ "java/lang/invoke/VarHandle" ∧ (parseMethodDescriptor yX3_isUnbroken.desc).map (fun d => d.parameters.length) = some 0) ∧ Cond.instanceMethod yX3_isUnbroken ∈ tb ∧ Cond.selects ((RX3, TX3, 6) : vw_C).1 yX3_isUnbroken yX3_isUnbroken ∈ tb ∧ Cond.initialized ((RX3, TX3, 6) : vw_C).1 ∈ tb ∧ Cond.code yX3_isUnbroken cX3_isUnbroken 2 (some .boolean) ∈ tb := ⟨⟨rfl, by decide, by decide, by decide +kernel⟩, tb_in 220 (by decide +kernel) (by decide +kernel), tb_in 1 (by decide +kernel) (by decide +kernel), tb_in 52 (by decide +kernel) (by decide +kernel), tb_in 221 rfl (by decide +kernel)⟩
set_option maxRecDepth 40000 in
theorem cf_X3_leave : (yX3_leave.cls = ((RX3, TX3, 6) : vw_C).1 ∧ yX3_leave.cls ≠ "java/lang/invoke/MethodHandle" ∧ yX3_leave.cls ≠ "java/lang/invoke/VarHandle" ∧ (parseMethodDescriptor yX3_leave.desc).map (fun d => d.parameters.length) = some 1) ∧ Cond.instanceMethod yX3_leave ∈ tb ∧ Cond.selects ((RX3, TX3, 6) : vw_C).1 yX3_leave yX3_leave ∈ tb ∧ Cond.initialized ((RX3, TX3, 6) : vw_C).1 ∈ tb ∧ Cond.code yX3_leave cX3_leave 3 none ∈ tb := ⟨⟨rfl, by decide, by decide, by decide +kernel⟩, tb_in 343 (by decide +kernel) (by decide +kernel), tb_in 21 (by decide +kernel) (by decide +kernel), tb_in 52 (by decide +kernel) (by decide +kernel), tb_in 344 rfl (by decide +kernel)⟩
set_option maxRecDepth 40000 in
theorem cf_X3_longest : (yX3_longest.cls = ((RX3, TX3, 6) : vw_C).1 ∧ yX3_longest.cls ≠ "java/lang/invoke/MethodHandle" ∧ yX3_longest.cls ≠ "java/lang/invoke/VarHandle" ∧ (parseMethodDescriptor yX3_longest.desc).map (fun d => d.parameters.length) = some 0) ∧ Cond.instanceMethod yX3_longest ∈ tb ∧ Cond.selects ((RX3, TX3, 6) : vw_C).1 yX3_longest yX3_longest ∈ tb ∧ Cond.initialized ((RX3, TX3, 6) : vw_C).1 ∈ tb ∧ Cond.code yX3_longest cX3_longest 1 (some .int) ∈ tb := ⟨⟨rfl, by decide, by decide, by decide +kernel⟩, tb_in 420 (by decide +kernel) (by decide +kernel), tb_in 421 (by decide +kernel) (by decide +kernel), tb_in 52 (by decide +kernel) (by decide +kernel), tb_in 422 rfl (by decide +kernel)⟩
set_option maxRecDepth 40000 in
theorem cf_X3_loseFrameBeingSent : (yX3_loseFrameBeingSent.cls = ((RX3, TX3, 6) : vw_C).1 ∧ yX3_loseFrameBeingSent.cls ≠ "java/lang/invoke/MethodHandle" ∧ yX3_loseFrameBeingSent.cls ≠ "java/lang/invoke/VarHandle" ∧ (parseMethodDescriptor yX3_loseFrameBeingSent.desc).map (fun d => d.parameters.length) = some 1) ∧ Cond.instanceMethod yX3_loseFrameBeingSent ∈ tb ∧ Cond.selects ((RX3, TX3, 6) : vw_C).1 yX3_loseFrameBeingSent yX3_loseFrameBeingSent ∈ tb ∧ Cond.initialized ((RX3, TX3, 6) : vw_C).1 ∈ tb ∧ Cond.code yX3_loseFrameBeingSent cX3_loseFrameBeingSent 3 none ∈ tb := ⟨⟨rfl, by decide, by decide, by decide +kernel⟩, tb_in 244 (by decide +kernel) (by decide +kernel), tb_in 7 (by decide +kernel) (by decide +kernel), tb_in 52 (by decide +kernel) (by decide +kernel), tb_in 245 rfl (by decide +kernel)⟩
set_option maxRecDepth 40000 in
theorem cf_X3_numberAfter : (yX3_numberAfter.cls = ((RX3, TX3, 6) : vw_C).1 ∧ yX3_numberAfter.cls ≠ "java/lang/invoke/MethodHandle" ∧ yX3_numberAfter.cls ≠ "java/lang/invoke/VarHandle" ∧ (parseMethodDescriptor yX3_numberAfter.desc).map (fun d => d.parameters.length) = some 1) ∧ Cond.instanceMethod yX3_numberAfter ∈ tb ∧ Cond.selects ((RX3, TX3, 6) : vw_C).1 yX3_numberAfter yX3_numberAfter ∈ tb ∧ Cond.initialized ((RX3, TX3, 6) : vw_C).1 ∈ tb ∧ Cond.code yX3_numberAfter cX3_numberAfter 2 (some .int) ∈ tb := ⟨⟨rfl, by decide, by decide, by decide +kernel⟩, tb_in 228 (by decide +kernel) (by decide +kernel), tb_in 3 (by decide +kernel) (by decide +kernel), tb_in 52 (by decide +kernel) (by decide +kernel), tb_in 229 rfl (by decide +kernel)⟩
set_option maxRecDepth 40000 in
theorem cf_X3_numberAt : (yX3_numberAt.cls = ((RX3, TX3, 6) : vw_C).1 ∧ yX3_numberAt.cls ≠ "java/lang/invoke/MethodHandle" ∧ yX3_numberAt.cls ≠ "java/lang/invoke/VarHandle" ∧ (parseMethodDescriptor yX3_numberAt.desc).map (fun d => d.parameters.length) = some 2) ∧ Cond.instanceMethod yX3_numberAt ∈ tb ∧ Cond.selects ((RX3, TX3, 6) : vw_C).1 yX3_numberAt yX3_numberAt ∈ tb ∧ Cond.initialized ((RX3, TX3, 6) : vw_C).1 ∈ tb ∧ Cond.code yX3_numberAt cX3_numberAt 4 (some .int) ∈ tb := ⟨⟨rfl, by decide, by decide, by decide +kernel⟩, tb_in 252 (by decide +kernel) (by decide +kernel), tb_in 9 (by decide +kernel) (by decide +kernel), tb_in 52 (by decide +kernel) (by decide +kernel), tb_in 253 rfl (by decide +kernel)⟩
set_option maxRecDepth 40000 in
theorem cf_X3_numberBefore : (yX3_numberBefore.cls = ((RX3, TX3, 6) : vw_C).1 ∧ yX3_numberBefore.cls ≠ "java/lang/invoke/MethodHandle" ∧ yX3_numberBefore.cls ≠ "java/lang/invoke/VarHandle" ∧ (parseMethodDescriptor yX3_numberBefore.desc).map (fun d => d.parameters.length) = some 1) ∧ Cond.instanceMethod yX3_numberBefore ∈ tb ∧ Cond.selects ((RX3, TX3, 6) : vw_C).1 yX3_numberBefore yX3_numberBefore ∈ tb ∧ Cond.initialized ((RX3, TX3, 6) : vw_C).1 ∈ tb ∧ Cond.code yX3_numberBefore cX3_numberBefore 2 (some .int) ∈ tb := ⟨⟨rfl, by decide, by decide, by decide +kernel⟩, tb_in 236 (by decide +kernel) (by decide +kernel), tb_in 5 (by decide +kernel) (by decide +kernel), tb_in 52 (by decide +kernel) (by decide +kernel), tb_in 237 rfl (by decide +kernel)⟩
set_option maxRecDepth 40000 in
theorem cf_X3_operate : (yX3_operate.cls = ((RX3, TX3, 6) : vw_C).1 ∧ yX3_operate.cls ≠ "java/lang/invoke/MethodHandle" ∧ yX3_operate.cls ≠ "java/lang/invoke/VarHandle" ∧ (parseMethodDescriptor yX3_operate.desc).map (fun d => d.parameters.length) = some 1) ∧ Cond.instanceMethod yX3_operate ∈ tb ∧ Cond.selects ((RX3, TX3, 6) : vw_C).1 yX3_operate yX3_operate ∈ tb ∧ Cond.initialized ((RX3, TX3, 6) : vw_C).1 ∈ tb ∧ Cond.code yX3_operate cX3_operate 4 none ∈ tb := ⟨⟨rfl, by decide, by decide, by decide +kernel⟩, tb_in 331 (by decide +kernel) (by decide +kernel), tb_in 18 (by decide +kernel) (by decide +kernel), tb_in 52 (by decide +kernel) (by decide +kernel), tb_in 332 rfl (by decide +kernel)⟩
set_option maxRecDepth 40000 in
theorem cf_X3_operating : (yX3_operating.cls = ((RX3, TX3, 6) : vw_C).1 ∧ yX3_operating.cls ≠ "java/lang/invoke/MethodHandle" ∧ yX3_operating.cls ≠ "java/lang/invoke/VarHandle" ∧ (parseMethodDescriptor yX3_operating.desc).map (fun d => d.parameters.length) = some 1) ∧ Cond.instanceMethod yX3_operating ∈ tb ∧ Cond.selects ((RX3, TX3, 6) : vw_C).1 yX3_operating yX3_operating ∈ tb ∧ Cond.initialized ((RX3, TX3, 6) : vw_C).1 ∈ tb ∧ Cond.code yX3_operating cX3_operating 3 (some .int) ∈ tb := ⟨⟨rfl, by decide, by decide, by decide +kernel⟩, tb_in 404 (by decide +kernel) (by decide +kernel), tb_in 405 (by decide +kernel) (by decide +kernel), tb_in 52 (by decide +kernel) (by decide +kernel), tb_in 406 rfl (by decide +kernel)⟩
set_option maxRecDepth 40000 in
theorem cf_X3_passClaim : (yX3_passClaim.cls = ((RX3, TX3, 6) : vw_C).1 ∧ yX3_passClaim.cls ≠ "java/lang/invoke/MethodHandle" ∧ yX3_passClaim.cls ≠ "java/lang/invoke/VarHandle" ∧ (parseMethodDescriptor yX3_passClaim.desc).map (fun d => d.parameters.length) = some 1) ∧ Cond.instanceMethod yX3_passClaim ∈ tb ∧ Cond.selects ((RX3, TX3, 6) : vw_C).1 yX3_passClaim yX3_passClaim ∈ tb ∧ Cond.initialized ((RX3, TX3, 6) : vw_C).1 ∈ tb ∧ Cond.code yX3_passClaim cX3_passClaim 2 none ∈ tb := ⟨⟨rfl, by decide, by decide, by decide +kernel⟩, tb_in 327 (by decide +kernel) (by decide +kernel), tb_in 17 (by decide +kernel) (by decide +kernel), tb_in 52 (by decide +kernel) (by decide +kernel), tb_in 328 rfl (by decide +kernel)⟩
set_option maxRecDepth 40000 in
theorem cf_X3_passFrame : (yX3_passFrame.cls = ((RX3, TX3, 6) : vw_C).1 ∧ yX3_passFrame.cls ≠ "java/lang/invoke/MethodHandle" ∧ yX3_passFrame.cls ≠ "java/lang/invoke/VarHandle" ∧ (parseMethodDescriptor yX3_passFrame.desc).map (fun d => d.parameters.length) = some 1) ∧ Cond.instanceMethod yX3_passFrame ∈ tb ∧ Cond.selects ((RX3, TX3, 6) : vw_C).1 yX3_passFrame yX3_passFrame ∈ tb ∧ Cond.initialized ((RX3, TX3, 6) : vw_C).1 ∈ tb ∧ Cond.code yX3_passFrame cX3_passFrame 3 none ∈ tb := ⟨⟨rfl, by decide, by decide, by decide +kernel⟩, tb_in 368 (by decide +kernel) (by decide +kernel), tb_in 27 (by decide +kernel) (by decide +kernel), tb_in 52 (by decide +kernel) (by decide +kernel), tb_in 369 rfl (by decide +kernel)⟩
set_option maxRecDepth 40000 in
theorem cf_X3_passTick : (yX3_passTick.cls = ((RX3, TX3, 6) : vw_C).1 ∧ yX3_passTick.cls ≠ "java/lang/invoke/MethodHandle" ∧ yX3_passTick.cls ≠ "java/lang/invoke/VarHandle" ∧ (parseMethodDescriptor yX3_passTick.desc).map (fun d => d.parameters.length) = some 1) ∧ Cond.instanceMethod yX3_passTick ∈ tb ∧ Cond.selects ((RX3, TX3, 6) : vw_C).1 yX3_passTick yX3_passTick ∈ tb ∧ Cond.initialized ((RX3, TX3, 6) : vw_C).1 ∈ tb ∧ Cond.code yX3_passTick cX3_passTick 2 none ∈ tb := ⟨⟨rfl, by decide, by decide, by decide +kernel⟩, tb_in 319 (by decide +kernel) (by decide +kernel), tb_in 15 (by decide +kernel) (by decide +kernel), tb_in 52 (by decide +kernel) (by decide +kernel), tb_in 320 rfl (by decide +kernel)⟩
set_option maxRecDepth 40000 in
theorem cf_X3_passToken : (yX3_passToken.cls = ((RX3, TX3, 6) : vw_C).1 ∧ yX3_passToken.cls ≠ "java/lang/invoke/MethodHandle" ∧ yX3_passToken.cls ≠ "java/lang/invoke/VarHandle" ∧ (parseMethodDescriptor yX3_passToken.desc).map (fun d => d.parameters.length) = some 1) ∧ Cond.instanceMethod yX3_passToken ∈ tb ∧ Cond.selects ((RX3, TX3, 6) : vw_C).1 yX3_passToken yX3_passToken ∈ tb ∧ Cond.initialized ((RX3, TX3, 6) : vw_C).1 ∈ tb ∧ Cond.code yX3_passToken cX3_passToken 2 none ∈ tb := ⟨⟨rfl, by decide, by decide, by decide +kernel⟩, tb_in 355 (by decide +kernel) (by decide +kernel), tb_in 24 (by decide +kernel) (by decide +kernel), tb_in 52 (by decide +kernel) (by decide +kernel), tb_in 356 rfl (by decide +kernel)⟩
set_option maxRecDepth 40000 in
theorem cf_X3_power : (yX3_power.cls = ((RX3, TX3, 6) : vw_C).1 ∧ yX3_power.cls ≠ "java/lang/invoke/MethodHandle" ∧ yX3_power.cls ≠ "java/lang/invoke/VarHandle" ∧ (parseMethodDescriptor yX3_power.desc).map (fun d => d.parameters.length) = some 2) ∧ Cond.instanceMethod yX3_power ∈ tb ∧ Cond.selects ((RX3, TX3, 6) : vw_C).1 yX3_power yX3_power ∈ tb ∧ Cond.initialized ((RX3, TX3, 6) : vw_C).1 ∈ tb ∧ Cond.code yX3_power cX3_power 3 (some .boolean) ∈ tb := ⟨⟨rfl, by decide, by decide, by decide +kernel⟩, tb_in 306 (by decide +kernel) (by decide +kernel), tb_in 307 (by decide +kernel) (by decide +kernel), tb_in 52 (by decide +kernel) (by decide +kernel), tb_in 308 rfl (by decide +kernel)⟩
set_option maxRecDepth 40000 in
theorem cf_X3_reform : (yX3_reform.cls = ((RX3, TX3, 6) : vw_C).1 ∧ yX3_reform.cls ≠ "java/lang/invoke/MethodHandle" ∧ yX3_reform.cls ≠ "java/lang/invoke/VarHandle" ∧ (parseMethodDescriptor yX3_reform.desc).map (fun d => d.parameters.length) = some 3) ∧ Cond.instanceMethod yX3_reform ∈ tb ∧ Cond.selects ((RX3, TX3, 6) : vw_C).1 yX3_reform yX3_reform ∈ tb ∧ Cond.initialized ((RX3, TX3, 6) : vw_C).1 ∈ tb ∧ Cond.code yX3_reform cX3_reform 5 none ∈ tb := ⟨⟨rfl, by decide, by decide, by decide +kernel⟩, tb_in 240 (by decide +kernel) (by decide +kernel), tb_in 6 (by decide +kernel) (by decide +kernel), tb_in 52 (by decide +kernel) (by decide +kernel), tb_in 241 rfl (by decide +kernel)⟩
set_option maxRecDepth 40000 in
theorem cf_X3_ring : (yX3_ring.cls = ((RX3, TX3, 6) : vw_C).1 ∧ yX3_ring.cls ≠ "java/lang/invoke/MethodHandle" ∧ yX3_ring.cls ≠ "java/lang/invoke/VarHandle" ∧ (parseMethodDescriptor yX3_ring.desc).map (fun d => d.parameters.length) = some 1) ∧ Cond.instanceMethod yX3_ring ∈ tb ∧ Cond.selects ((RX3, TX3, 6) : vw_C).1 yX3_ring yX3_ring ∈ tb ∧ Cond.initialized ((RX3, TX3, 6) : vw_C).1 ∈ tb ∧ Cond.code yX3_ring cX3_ring 2 (some .int) ∈ tb := ⟨⟨rfl, by decide, by decide, by decide +kernel⟩, tb_in 395 (by decide +kernel) (by decide +kernel), tb_in 396 (by decide +kernel) (by decide +kernel), tb_in 52 (by decide +kernel) (by decide +kernel), tb_in 397 rfl (by decide +kernel)⟩
set_option maxRecDepth 40000 in
theorem cf_X3_rotation : (yX3_rotation.cls = ((RX3, TX3, 6) : vw_C).1 ∧ yX3_rotation.cls ≠ "java/lang/invoke/MethodHandle" ∧ yX3_rotation.cls ≠ "java/lang/invoke/VarHandle" ∧ (parseMethodDescriptor yX3_rotation.desc).map (fun d => d.parameters.length) = some 1) ∧ Cond.instanceMethod yX3_rotation ∈ tb ∧ Cond.selects ((RX3, TX3, 6) : vw_C).1 yX3_rotation yX3_rotation ∈ tb ∧ Cond.initialized ((RX3, TX3, 6) : vw_C).1 ∈ tb ∧ Cond.code yX3_rotation cX3_rotation 2 (some .float) ∈ tb := ⟨⟨rfl, by decide, by decide, by decide +kernel⟩, tb_in 412 (by decide +kernel) (by decide +kernel), tb_in 413 (by decide +kernel) (by decide +kernel), tb_in 52 (by decide +kernel) (by decide +kernel), tb_in 414 rfl (by decide +kernel)⟩
set_option maxRecDepth 40000 in
theorem cf_X3_rowLength : (yX3_rowLength.cls = ((RX3, TX3, 6) : vw_C).1 ∧ yX3_rowLength.cls ≠ "java/lang/invoke/MethodHandle" ∧ yX3_rowLength.cls ≠ "java/lang/invoke/VarHandle" ∧ (parseMethodDescriptor yX3_rowLength.desc).map (fun d => d.parameters.length) = some 1) ∧ Cond.instanceMethod yX3_rowLength ∈ tb ∧ Cond.selects ((RX3, TX3, 6) : vw_C).1 yX3_rowLength yX3_rowLength ∈ tb ∧ Cond.initialized ((RX3, TX3, 6) : vw_C).1 ∈ tb ∧ Cond.code yX3_rowLength cX3_rowLength 4 (some .int) ∈ tb := ⟨⟨rfl, by decide, by decide, by decide +kernel⟩, tb_in 232 (by decide +kernel) (by decide +kernel), tb_in 4 (by decide +kernel) (by decide +kernel), tb_in 52 (by decide +kernel) (by decide +kernel), tb_in 233 rfl (by decide +kernel)⟩
set_option maxRecDepth 40000 in
theorem cf_X3_runTimers : (yX3_runTimers.cls = ((RX3, TX3, 6) : vw_C).1 ∧ yX3_runTimers.cls ≠ "java/lang/invoke/MethodHandle" ∧ yX3_runTimers.cls ≠ "java/lang/invoke/VarHandle" ∧ (parseMethodDescriptor yX3_runTimers.desc).map (fun d => d.parameters.length) = some 1) ∧ Cond.instanceMethod yX3_runTimers ∈ tb ∧ Cond.selects ((RX3, TX3, 6) : vw_C).1 yX3_runTimers yX3_runTimers ∈ tb ∧ Cond.initialized ((RX3, TX3, 6) : vw_C).1 ∈ tb ∧ Cond.code yX3_runTimers cX3_runTimers 4 (some .boolean) ∈ tb := ⟨⟨rfl, by decide, by decide, by decide +kernel⟩, tb_in 347 (by decide +kernel) (by decide +kernel), tb_in 22 (by decide +kernel) (by decide +kernel), tb_in 52 (by decide +kernel) (by decide +kernel), tb_in 348 rfl (by decide +kernel)⟩
set_option maxRecDepth 40000 in
theorem cf_X3_send : (yX3_send.cls = ((RX3, TX3, 6) : vw_C).1 ∧ yX3_send.cls ≠ "java/lang/invoke/MethodHandle" ∧ yX3_send.cls ≠ "java/lang/invoke/VarHandle" ∧ (parseMethodDescriptor yX3_send.desc).map (fun d => d.parameters.length) = some 4) ∧ Cond.instanceMethod yX3_send ∈ tb ∧ Cond.selects ((RX3, TX3, 6) : vw_C).1 yX3_send yX3_send ∈ tb ∧ Cond.initialized ((RX3, TX3, 6) : vw_C).1 ∈ tb ∧ Cond.code yX3_send cX3_send 5 (some .boolean) ∈ tb := ⟨⟨rfl, by decide, by decide, by decide +kernel⟩, tb_in 294 (by decide +kernel) (by decide +kernel), tb_in 295 (by decide +kernel) (by decide +kernel), tb_in 52 (by decide +kernel) (by decide +kernel), tb_in 296 rfl (by decide +kernel)⟩
set_option maxRecDepth 40000 in
theorem cf_X3_share : (yX3_share.cls = ((RX3, TX3, 6) : vw_C).1 ∧ yX3_share.cls ≠ "java/lang/invoke/MethodHandle" ∧ yX3_share.cls ≠ "java/lang/invoke/VarHandle" ∧ (parseMethodDescriptor yX3_share.desc).map (fun d => d.parameters.length) = some 1) ∧ Cond.instanceMethod yX3_share ∈ tb ∧ Cond.selects ((RX3, TX3, 6) : vw_C).1 yX3_share yX3_share ∈ tb ∧ Cond.initialized ((RX3, TX3, 6) : vw_C).1 ∈ tb ∧ Cond.code yX3_share cX3_share 2 (some .double) ∈ tb := ⟨⟨rfl, by decide, by decide, by decide +kernel⟩, tb_in 416 (by decide +kernel) (by decide +kernel), tb_in 417 (by decide +kernel) (by decide +kernel), tb_in 52 (by decide +kernel) (by decide +kernel), tb_in 418 rfl (by decide +kernel)⟩
set_option maxRecDepth 40000 in
theorem cf_X3_state : (yX3_state.cls = ((RX3, TX3, 6) : vw_C).1 ∧ yX3_state.cls ≠ "java/lang/invoke/MethodHandle" ∧ yX3_state.cls ≠ "java/lang/invoke/VarHandle" ∧ (parseMethodDescriptor yX3_state.desc).map (fun d => d.parameters.length) = some 1) ∧ Cond.instanceMethod yX3_state ∈ tb ∧ Cond.selects ((RX3, TX3, 6) : vw_C).1 yX3_state yX3_state ∈ tb ∧ Cond.initialized ((RX3, TX3, 6) : vw_C).1 ∈ tb ∧ Cond.code yX3_state cX3_state 3 (some .int) ∈ tb := ⟨⟨rfl, by decide, by decide, by decide +kernel⟩, tb_in 399 (by decide +kernel) (by decide +kernel), tb_in 400 (by decide +kernel) (by decide +kernel), tb_in 52 (by decide +kernel) (by decide +kernel), tb_in 401 rfl (by decide +kernel)⟩
set_option maxRecDepth 40000 in
theorem cf_X3_station : (yX3_station.cls = ((RX3, TX3, 6) : vw_C).1 ∧ yX3_station.cls ≠ "java/lang/invoke/MethodHandle" ∧ yX3_station.cls ≠ "java/lang/invoke/VarHandle" ∧ (parseMethodDescriptor yX3_station.desc).map (fun d => d.parameters.length) = some 2) ∧ Cond.instanceMethod yX3_station ∈ tb ∧ Cond.selects ((RX3, TX3, 6) : vw_C).1 yX3_station yX3_station ∈ tb ∧ Cond.initialized ((RX3, TX3, 6) : vw_C).1 ∈ tb ∧ Cond.code yX3_station cX3_station 4 (some .int) ∈ tb := ⟨⟨rfl, by decide, by decide, by decide +kernel⟩, tb_in 408 (by decide +kernel) (by decide +kernel), tb_in 409 (by decide +kernel) (by decide +kernel), tb_in 52 (by decide +kernel) (by decide +kernel), tb_in 410 rfl (by decide +kernel)⟩
set_option maxRecDepth 40000 in
theorem cf_X3_stationAt : (yX3_stationAt.cls = ((RX3, TX3, 6) : vw_C).1 ∧ yX3_stationAt.cls ≠ "java/lang/invoke/MethodHandle" ∧ yX3_stationAt.cls ≠ "java/lang/invoke/VarHandle" ∧ (parseMethodDescriptor yX3_stationAt.desc).map (fun d => d.parameters.length) = some 2) ∧ Cond.instanceMethod yX3_stationAt ∈ tb ∧ Cond.selects ((RX3, TX3, 6) : vw_C).1 yX3_stationAt yX3_stationAt ∈ tb ∧ Cond.initialized ((RX3, TX3, 6) : vw_C).1 ∈ tb ∧ Cond.code yX3_stationAt cX3_stationAt 3 (some (.object "DualRing$Station")) ∈ tb := ⟨⟨rfl, by decide, by decide, by decide +kernel⟩, tb_in 248 (by decide +kernel) (by decide +kernel), tb_in 8 (by decide +kernel) (by decide +kernel), tb_in 52 (by decide +kernel) (by decide +kernel), tb_in 249 rfl (by decide +kernel)⟩
set_option maxRecDepth 40000 in
theorem cf_X3_tick : (yX3_tick.cls = ((RX3, TX3, 6) : vw_C).1 ∧ yX3_tick.cls ≠ "java/lang/invoke/MethodHandle" ∧ yX3_tick.cls ≠ "java/lang/invoke/VarHandle" ∧ (parseMethodDescriptor yX3_tick.desc).map (fun d => d.parameters.length) = some 1) ∧ Cond.instanceMethod yX3_tick ∈ tb ∧ Cond.selects ((RX3, TX3, 6) : vw_C).1 yX3_tick yX3_tick ∈ tb ∧ Cond.initialized ((RX3, TX3, 6) : vw_C).1 ∈ tb ∧ Cond.code yX3_tick cX3_tick 4 (some .boolean) ∈ tb := ⟨⟨rfl, by decide, by decide, by decide +kernel⟩, tb_in 314 (by decide +kernel) (by decide +kernel), tb_in 315 (by decide +kernel) (by decide +kernel), tb_in 52 (by decide +kernel) (by decide +kernel), tb_in 316 rfl (by decide +kernel)⟩
set_option maxRecDepth 40000 in
theorem cf_X3_winningPlace : (yX3_winningPlace.cls = ((RX3, TX3, 6) : vw_C).1 ∧ yX3_winningPlace.cls ≠ "java/lang/invoke/MethodHandle" ∧ yX3_winningPlace.cls ≠ "java/lang/invoke/VarHandle" ∧ (parseMethodDescriptor yX3_winningPlace.desc).map (fun d => d.parameters.length) = some 1) ∧ Cond.instanceMethod yX3_winningPlace ∈ tb ∧ Cond.selects ((RX3, TX3, 6) : vw_C).1 yX3_winningPlace yX3_winningPlace ∈ tb ∧ Cond.initialized ((RX3, TX3, 6) : vw_C).1 ∈ tb ∧ Cond.code yX3_winningPlace cX3_winningPlace 7 (some .int) ∈ tb := ⟨⟨rfl, by decide, by decide, by decide +kernel⟩, tb_in 335 (by decide +kernel) (by decide +kernel), tb_in 19 (by decide +kernel) (by decide +kernel), tb_in 52 (by decide +kernel) (by decide +kernel), tb_in 336 rfl (by decide +kernel)⟩
set_option maxRecDepth 40000 in
theorem cf_X4_age : (yX4_age.cls = ((RX4, TX4, 36) : vw_C).1 ∧ yX4_age.cls ≠ "java/lang/invoke/MethodHandle" ∧ yX4_age.cls ≠ "java/lang/invoke/VarHandle" ∧ (parseMethodDescriptor yX4_age.desc).map (fun d => d.parameters.length) = some 1) ∧ Cond.instanceMethod yX4_age ∈ tb ∧ Cond.selects ((RX4, TX4, 36) : vw_C).1 yX4_age yX4_age ∈ tb ∧ Cond.initialized ((RX4, TX4, 36) : vw_C).1 ∈ tb ∧ Cond.code yX4_age cX4_age 4 (some .boolean) ∈ tb := ⟨⟨rfl, by decide, by decide, by decide +kernel⟩, tb_in 616 (by decide +kernel) (by decide +kernel), tb_in 46 (by decide +kernel) (by decide +kernel), tb_in 56 (by decide +kernel) (by decide +kernel), tb_in 617 rfl (by decide +kernel)⟩
set_option maxRecDepth 40000 in
theorem cf_X4_allot : (yX4_allot.cls = ((RX4, TX4, 36) : vw_C).1 ∧ yX4_allot.cls ≠ "java/lang/invoke/MethodHandle" ∧ yX4_allot.cls ≠ "java/lang/invoke/VarHandle" ∧ (parseMethodDescriptor yX4_allot.desc).map (fun d => d.parameters.length) = some 2) ∧ Cond.instanceMethod yX4_allot ∈ tb ∧ Cond.selects ((RX4, TX4, 36) : vw_C).1 yX4_allot yX4_allot ∈ tb ∧ Cond.initialized ((RX4, TX4, 36) : vw_C).1 ∈ tb ∧ Cond.code yX4_allot cX4_allot 3 (some .boolean) ∈ tb := ⟨⟨rfl, by decide, by decide, by decide +kernel⟩, tb_in 583 (by decide +kernel) (by decide +kernel), tb_in 584 (by decide +kernel) (by decide +kernel), tb_in 56 (by decide +kernel) (by decide +kernel), tb_in 585 rfl (by decide +kernel)⟩
set_option maxRecDepth 40000 in
theorem cf_X4_arrange : (yX4_arrange.cls = ((RX4, TX4, 36) : vw_C).1 ∧ yX4_arrange.cls ≠ "java/lang/invoke/MethodHandle" ∧ yX4_arrange.cls ≠ "java/lang/invoke/VarHandle" ∧ (parseMethodDescriptor yX4_arrange.desc).map (fun d => d.parameters.length) = some 0) ∧ Cond.instanceMethod yX4_arrange ∈ tb ∧ Cond.selects ((RX4, TX4, 36) : vw_C).1 yX4_arrange yX4_arrange ∈ tb ∧ Cond.initialized ((RX4, TX4, 36) : vw_C).1 ∈ tb ∧ Cond.code yX4_arrange cX4_arrange 7 none ∈ tb := ⟨⟨rfl, by decide, by decide, by decide +kernel⟩, tb_in 434 (by decide +kernel) (by decide +kernel), tb_in 34 (by decide +kernel) (by decide +kernel), tb_in 56 (by decide +kernel) (by decide +kernel), tb_in 435 rfl (by decide +kernel)⟩
set_option maxRecDepth 40000 in
theorem cf_X4_arrive : (yX4_arrive.cls = ((RX4, TX4, 36) : vw_C).1 ∧ yX4_arrive.cls ≠ "java/lang/invoke/MethodHandle" ∧ yX4_arrive.cls ≠ "java/lang/invoke/VarHandle" ∧ (parseMethodDescriptor yX4_arrive.desc).map (fun d => d.parameters.length) = some 1) ∧ Cond.instanceMethod yX4_arrive ∈ tb ∧ Cond.selects ((RX4, TX4, 36) : vw_C).1 yX4_arrive yX4_arrive ∈ tb ∧ Cond.initialized ((RX4, TX4, 36) : vw_C).1 ∈ tb ∧ Cond.code yX4_arrive cX4_arrive 4 none ∈ tb := ⟨⟨rfl, by decide, by decide, by decide +kernel⟩, tb_in 620 (by decide +kernel) (by decide +kernel), tb_in 47 (by decide +kernel) (by decide +kernel), tb_in 56 (by decide +kernel) (by decide +kernel), tb_in 621 rfl (by decide +kernel)⟩
set_option maxRecDepth 40000 in
theorem cf_X4_begin : (yX4_begin.cls = ((RX4, TX4, 36) : vw_C).1 ∧ yX4_begin.cls ≠ "java/lang/invoke/MethodHandle" ∧ yX4_begin.cls ≠ "java/lang/invoke/VarHandle" ∧ (parseMethodDescriptor yX4_begin.desc).map (fun d => d.parameters.length) = some 1) ∧ Cond.instanceMethod yX4_begin ∈ tb ∧ Cond.selects ((RX4, TX4, 36) : vw_C).1 yX4_begin yX4_begin ∈ tb ∧ Cond.initialized ((RX4, TX4, 36) : vw_C).1 ∈ tb ∧ Cond.code yX4_begin cX4_begin 5 none ∈ tb := ⟨⟨rfl, by decide, by decide, by decide +kernel⟩, tb_in 633 (by decide +kernel) (by decide +kernel), tb_in 50 (by decide +kernel) (by decide +kernel), tb_in 56 (by decide +kernel) (by decide +kernel), tb_in 634 rfl (by decide +kernel)⟩
set_option maxRecDepth 40000 in
theorem cf_X4_bid : (yX4_bid.cls = ((RX4, TX4, 36) : vw_C).1 ∧ yX4_bid.cls ≠ "java/lang/invoke/MethodHandle" ∧ yX4_bid.cls ≠ "java/lang/invoke/VarHandle" ∧ (parseMethodDescriptor yX4_bid.desc).map (fun d => d.parameters.length) = some 2) ∧ Cond.instanceMethod yX4_bid ∈ tb ∧ Cond.selects ((RX4, TX4, 36) : vw_C).1 yX4_bid yX4_bid ∈ tb ∧ Cond.initialized ((RX4, TX4, 36) : vw_C).1 ∈ tb ∧ Cond.code yX4_bid cX4_bid 3 (some .boolean) ∈ tb := ⟨⟨rfl, by decide, by decide, by decide +kernel⟩, tb_in 575 (by decide +kernel) (by decide +kernel), tb_in 576 (by decide +kernel) (by decide +kernel), tb_in 56 (by decide +kernel) (by decide +kernel), tb_in 577 rfl (by decide +kernel)⟩
set_option maxRecDepth 40000 in
theorem cf_X4_cable : (yX4_cable.cls = ((RX4, TX4, 36) : vw_C).1 ∧ yX4_cable.cls ≠ "java/lang/invoke/MethodHandle" ∧ yX4_cable.cls ≠ "java/lang/invoke/VarHandle" ∧ (parseMethodDescriptor yX4_cable.desc).map (fun d => d.parameters.length) = some 2) ∧ Cond.instanceMethod yX4_cable ∈ tb ∧ Cond.selects ((RX4, TX4, 36) : vw_C).1 yX4_cable yX4_cable ∈ tb ∧ Cond.initialized ((RX4, TX4, 36) : vw_C).1 ∈ tb ∧ Cond.code yX4_cable cX4_cable 3 (some .boolean) ∈ tb := ⟨⟨rfl, by decide, by decide, by decide +kernel⟩, tb_in 591 (by decide +kernel) (by decide +kernel), tb_in 592 (by decide +kernel) (by decide +kernel), tb_in 56 (by decide +kernel) (by decide +kernel), tb_in 593 rfl (by decide +kernel)⟩
set_option maxRecDepth 40000 in
theorem cf_X4_claim : (yX4_claim.cls = ((RX4, TX4, 36) : vw_C).1 ∧ yX4_claim.cls ≠ "java/lang/invoke/MethodHandle" ∧ yX4_claim.cls ≠ "java/lang/invoke/VarHandle" ∧ (parseMethodDescriptor yX4_claim.desc).map (fun d => d.parameters.length) = some 1) ∧ Cond.instanceMethod yX4_claim ∈ tb ∧ Cond.selects ((RX4, TX4, 36) : vw_C).1 yX4_claim yX4_claim ∈ tb ∧ Cond.initialized ((RX4, TX4, 36) : vw_C).1 ∈ tb ∧ Cond.code yX4_claim cX4_claim 3 none ∈ tb := ⟨⟨rfl, by decide, by decide, by decide +kernel⟩, tb_in 458 (by decide +kernel) (by decide +kernel), tb_in 40 (by decide +kernel) (by decide +kernel), tb_in 56 (by decide +kernel) (by decide +kernel), tb_in 459 rfl (by decide +kernel)⟩
set_option maxRecDepth 40000 in
theorem cf_X4_finish : (yX4_finish.cls = ((RX4, TX4, 36) : vw_C).1 ∧ yX4_finish.cls ≠ "java/lang/invoke/MethodHandle" ∧ yX4_finish.cls ≠ "java/lang/invoke/VarHandle" ∧ (parseMethodDescriptor yX4_finish.desc).map (fun d => d.parameters.length) = some 1) ∧ Cond.instanceMethod yX4_finish ∈ tb ∧ Cond.selects ((RX4, TX4, 36) : vw_C).1 yX4_finish yX4_finish ∈ tb ∧ Cond.initialized ((RX4, TX4, 36) : vw_C).1 ∈ tb ∧ Cond.code yX4_finish cX4_finish 6 none ∈ tb := ⟨⟨rfl, by decide, by decide, by decide +kernel⟩, tb_in 629 (by decide +kernel) (by decide +kernel), tb_in 49 (by decide +kernel) (by decide +kernel), tb_in 56 (by decide +kernel) (by decide +kernel), tb_in 630 rfl (by decide +kernel)⟩
set_option maxRecDepth 40000 in
theorem cf_X4_follow : (yX4_follow.cls = ((RX4, TX4, 36) : vw_C).1 ∧ yX4_follow.cls ≠ "java/lang/invoke/MethodHandle" ∧ yX4_follow.cls ≠ "java/lang/invoke/VarHandle" ∧ (parseMethodDescriptor yX4_follow.desc).map (fun d => d.parameters.length) = some 1) ∧ Cond.instanceMethod yX4_follow ∈ tb ∧ Cond.selects ((RX4, TX4, 36) : vw_C).1 yX4_follow yX4_follow ∈ tb ∧ Cond.initialized ((RX4, TX4, 36) : vw_C).1 ∈ tb ∧ Cond.code yX4_follow cX4_follow 3 (some .int) ∈ tb := ⟨⟨rfl, by decide, by decide, by decide +kernel⟩, tb_in 450 (by decide +kernel) (by decide +kernel), tb_in 38 (by decide +kernel) (by decide +kernel), tb_in 56 (by decide +kernel) (by decide +kernel), tb_in 451 rfl (by decide +kernel)⟩
set_option maxRecDepth 40000 in
theorem cf_X4_holder : (yX4_holder.cls = ((RX4, TX4, 36) : vw_C).1 ∧ yX4_holder.cls ≠ "java/lang/invoke/MethodHandle" ∧ yX4_holder.cls ≠ "java/lang/invoke/VarHandle" ∧ (parseMethodDescriptor yX4_holder.desc).map (fun d => d.parameters.length) = some 1) ∧ Cond.instanceMethod yX4_holder ∈ tb ∧ Cond.selects ((RX4, TX4, 36) : vw_C).1 yX4_holder yX4_holder ∈ tb ∧ Cond.initialized ((RX4, TX4, 36) : vw_C).1 ∈ tb ∧ Cond.code yX4_holder cX4_holder 2 (some .int) ∈ tb := ⟨⟨rfl, by decide, by decide, by decide +kernel⟩, tb_in 624 (by decide +kernel) (by decide +kernel), tb_in 48 (by decide +kernel) (by decide +kernel), tb_in 56 (by decide +kernel) (by decide +kernel), tb_in 625 rfl (by decide +kernel)⟩
set_option maxRecDepth 40000 in
theorem cf_X4_isAsBefore : (yX4_isAsBefore.cls = ((RX4, TX4, 36) : vw_C).1 ∧ yX4_isAsBefore.cls ≠ "java/lang/invoke/MethodHandle" ∧ yX4_isAsBefore.cls ≠ "java/lang/invoke/VarHandle" ∧ (parseMethodDescriptor yX4_isAsBefore.desc).map (fun d => d.parameters.length) = some 3) ∧ Cond.instanceMethod yX4_isAsBefore ∈ tb ∧ Cond.selects ((RX4, TX4, 36) : vw_C).1 yX4_isAsBefore yX4_isAsBefore ∈ tb ∧ Cond.initialized ((RX4, TX4, 36) : vw_C).1 ∈ tb ∧ Cond.code yX4_isAsBefore cX4_isAsBefore 6 (some .boolean) ∈ tb := ⟨⟨rfl, by decide, by decide, by decide +kernel⟩, tb_in 454 (by decide +kernel) (by decide +kernel), tb_in 39 (by decide +kernel) (by decide +kernel), tb_in 56 (by decide +kernel) (by decide +kernel), tb_in 455 rfl (by decide +kernel)⟩
set_option maxRecDepth 40000 in
theorem cf_X4_isJoined : (yX4_isJoined.cls = ((RX4, TX4, 36) : vw_C).1 ∧ yX4_isJoined.cls ≠ "java/lang/invoke/MethodHandle" ∧ yX4_isJoined.cls ≠ "java/lang/invoke/VarHandle" ∧ (parseMethodDescriptor yX4_isJoined.desc).map (fun d => d.parameters.length) = some 1) ∧ Cond.instanceMethod yX4_isJoined ∈ tb ∧ Cond.selects ((RX4, TX4, 36) : vw_C).1 yX4_isJoined yX4_isJoined ∈ tb ∧ Cond.initialized ((RX4, TX4, 36) : vw_C).1 ∈ tb ∧ Cond.code yX4_isJoined cX4_isJoined 2 (some .boolean) ∈ tb := ⟨⟨rfl, by decide, by decide, by decide +kernel⟩, tb_in 438 (by decide +kernel) (by decide +kernel), tb_in 35 (by decide +kernel) (by decide +kernel), tb_in 56 (by decide +kernel) (by decide +kernel), tb_in 439 rfl (by decide +kernel)⟩
set_option maxRecDepth 40000 in
theorem cf_X4_isStation : (yX4_isStation.cls = ((RX4, TX4, 36) : vw_C).1 ∧ yX4_isStation.cls ≠ "java/lang/invoke/MethodHandle" ∧ yX4_isStation.cls ≠ "java/lang/invoke/VarHandle" ∧ (parseMethodDescriptor yX4_isStation.desc).map (fun d => d.parameters.length) = some 1) ∧ Cond.instanceMethod yX4_isStation ∈ tb ∧ Cond.selects ((RX4, TX4, 36) : vw_C).1 yX4_isStation yX4_isStation ∈ tb ∧ Cond.initialized ((RX4, TX4, 36) : vw_C).1 ∈ tb ∧ Cond.code yX4_isStation cX4_isStation 2 (some .boolean) ∈ tb := ⟨⟨rfl, by decide, by decide, by decide +kernel⟩, tb_in 580 (by decide +kernel) (by decide +kernel), tb_in 42 (by decide +kernel) (by decide +kernel), tb_in 56 (by decide +kernel) (by decide +kernel), tb_in 581 rfl (by decide +kernel)⟩
set_option maxRecDepth 40000 in
theorem cf_X4_leave : (yX4_leave.cls = ((RX4, TX4, 36) : vw_C).1 ∧ yX4_leave.cls ≠ "java/lang/invoke/MethodHandle" ∧ yX4_leave.cls ≠ "java/lang/invoke/VarHandle" ∧ (parseMethodDescriptor yX4_leave.desc).map (fun d => d.parameters.length) = some 1) ∧ Cond.instanceMethod yX4_leave ∈ tb ∧ Cond.selects ((RX4, TX4, 36) : vw_C).1 yX4_leave yX4_leave ∈ tb ∧ Cond.initialized ((RX4, TX4, 36) : vw_C).1 ∈ tb ∧ Cond.code yX4_leave cX4_leave 2 none ∈ tb := ⟨⟨rfl, by decide, by decide, by decide +kernel⟩, tb_in 612 (by decide +kernel) (by decide +kernel), tb_in 45 (by decide +kernel) (by decide +kernel), tb_in 56 (by decide +kernel) (by decide +kernel), tb_in 613 rfl (by decide +kernel)⟩
set_option maxRecDepth 40000 in
theorem cf_X4_longest : (yX4_longest.cls = ((RX4, TX4, 36) : vw_C).1 ∧ yX4_longest.cls ≠ "java/lang/invoke/MethodHandle" ∧ yX4_longest.cls ≠ "java/lang/invoke/VarHandle" ∧ (parseMethodDescriptor yX4_longest.desc).map (fun d => d.parameters.length) = some 0) ∧ Cond.instanceMethod yX4_longest ∈ tb ∧ Cond.selects ((RX4, TX4, 36) : vw_C).1 yX4_longest yX4_longest ∈ tb ∧ Cond.initialized ((RX4, TX4, 36) : vw_C).1 ∈ tb ∧ Cond.code yX4_longest cX4_longest 1 (some .int) ∈ tb := ⟨⟨rfl, by decide, by decide, by decide +kernel⟩, tb_in 661 (by decide +kernel) (by decide +kernel), tb_in 662 (by decide +kernel) (by decide +kernel), tb_in 56 (by decide +kernel) (by decide +kernel), tb_in 663 rfl (by decide +kernel)⟩
set_option maxRecDepth 40000 in
theorem cf_X4_next : (yX4_next.cls = ((RX4, TX4, 36) : vw_C).1 ∧ yX4_next.cls ≠ "java/lang/invoke/MethodHandle" ∧ yX4_next.cls ≠ "java/lang/invoke/VarHandle" ∧ (parseMethodDescriptor yX4_next.desc).map (fun d => d.parameters.length) = some 1) ∧ Cond.instanceMethod yX4_next ∈ tb ∧ Cond.selects ((RX4, TX4, 36) : vw_C).1 yX4_next yX4_next ∈ tb ∧ Cond.initialized ((RX4, TX4, 36) : vw_C).1 ∈ tb ∧ Cond.code yX4_next cX4_next 2 (some .int) ∈ tb := ⟨⟨rfl, by decide, by decide, by decide +kernel⟩, tb_in 442 (by decide +kernel) (by decide +kernel), tb_in 36 (by decide +kernel) (by decide +kernel), tb_in 56 (by decide +kernel) (by decide +kernel), tb_in 443 rfl (by decide +kernel)⟩
set_option maxRecDepth 40000 in
theorem cf_X4_operate : (yX4_operate.cls = ((RX4, TX4, 36) : vw_C).1 ∧ yX4_operate.cls ≠ "java/lang/invoke/MethodHandle" ∧ yX4_operate.cls ≠ "java/lang/invoke/VarHandle" ∧ (parseMethodDescriptor yX4_operate.desc).map (fun d => d.parameters.length) = some 1) ∧ Cond.instanceMethod yX4_operate ∈ tb ∧ Cond.selects ((RX4, TX4, 36) : vw_C).1 yX4_operate yX4_operate ∈ tb ∧ Cond.initialized ((RX4, TX4, 36) : vw_C).1 ∈ tb ∧ Cond.code yX4_operate cX4_operate 6 none ∈ tb := ⟨⟨rfl, by decide, by decide, by decide +kernel⟩, tb_in 608 (by decide +kernel) (by decide +kernel), tb_in 44 (by decide +kernel) (by decide +kernel), tb_in 56 (by decide +kernel) (by decide +kernel), tb_in 609 rfl (by decide +kernel)⟩
set_option maxRecDepth 40000 in
theorem cf_X4_operating : (yX4_operating.cls = ((RX4, TX4, 36) : vw_C).1 ∧ yX4_operating.cls ≠ "java/lang/invoke/MethodHandle" ∧ yX4_operating.cls ≠ "java/lang/invoke/VarHandle" ∧ (parseMethodDescriptor yX4_operating.desc).map (fun d => d.parameters.length) = some 1) ∧ Cond.instanceMethod yX4_operating ∈ tb ∧ Cond.selects ((RX4, TX4, 36) : vw_C).1 yX4_operating yX4_operating ∈ tb ∧ Cond.initialized ((RX4, TX4, 36) : vw_C).1 ∈ tb ∧ Cond.code yX4_operating cX4_operating 2 (some .int) ∈ tb := ⟨⟨rfl, by decide, by decide, by decide +kernel⟩, tb_in 645 (by decide +kernel) (by decide +kernel), tb_in 646 (by decide +kernel) (by decide +kernel), tb_in 56 (by decide +kernel) (by decide +kernel), tb_in 647 rfl (by decide +kernel)⟩
set_option maxRecDepth 40000 in
theorem cf_X4_power : (yX4_power.cls = ((RX4, TX4, 36) : vw_C).1 ∧ yX4_power.cls ≠ "java/lang/invoke/MethodHandle" ∧ yX4_power.cls ≠ "java/lang/invoke/VarHandle" ∧ (parseMethodDescriptor yX4_power.desc).map (fun d => d.parameters.length) = some 2) ∧ Cond.instanceMethod yX4_power ∈ tb ∧ Cond.selects ((RX4, TX4, 36) : vw_C).1 yX4_power yX4_power ∈ tb ∧ Cond.initialized ((RX4, TX4, 36) : vw_C).1 ∈ tb ∧ Cond.code yX4_power cX4_power 3 (some .boolean) ∈ tb := ⟨⟨rfl, by decide, by decide, by decide +kernel⟩, tb_in 595 (by decide +kernel) (by decide +kernel), tb_in 596 (by decide +kernel) (by decide +kernel), tb_in 56 (by decide +kernel) (by decide +kernel), tb_in 597 rfl (by decide +kernel)⟩
set_option maxRecDepth 40000 in
theorem cf_X4_previous : (yX4_previous.cls = ((RX4, TX4, 36) : vw_C).1 ∧ yX4_previous.cls ≠ "java/lang/invoke/MethodHandle" ∧ yX4_previous.cls ≠ "java/lang/invoke/VarHandle" ∧ (parseMethodDescriptor yX4_previous.desc).map (fun d => d.parameters.length) = some 1) ∧ Cond.instanceMethod yX4_previous ∈ tb ∧ Cond.selects ((RX4, TX4, 36) : vw_C).1 yX4_previous yX4_previous ∈ tb ∧ Cond.initialized ((RX4, TX4, 36) : vw_C).1 ∈ tb ∧ Cond.code yX4_previous cX4_previous 2 (some .int) ∈ tb := ⟨⟨rfl, by decide, by decide, by decide +kernel⟩, tb_in 446 (by decide +kernel) (by decide +kernel), tb_in 37 (by decide +kernel) (by decide +kernel), tb_in 56 (by decide +kernel) (by decide +kernel), tb_in 447 rfl (by decide +kernel)⟩
set_option maxRecDepth 40000 in
theorem cf_X4_ring : (yX4_ring.cls = ((RX4, TX4, 36) : vw_C).1 ∧ yX4_ring.cls ≠ "java/lang/invoke/MethodHandle" ∧ yX4_ring.cls ≠ "java/lang/invoke/VarHandle" ∧ (parseMethodDescriptor yX4_ring.desc).map (fun d => d.parameters.length) = some 1) ∧ Cond.instanceMethod yX4_ring ∈ tb ∧ Cond.selects ((RX4, TX4, 36) : vw_C).1 yX4_ring yX4_ring ∈ tb ∧ Cond.initialized ((RX4, TX4, 36) : vw_C).1 ∈ tb ∧ Cond.code yX4_ring cX4_ring 2 (some .int) ∈ tb := ⟨⟨rfl, by decide, by decide, by decide +kernel⟩, tb_in 636 (by decide +kernel) (by decide +kernel), tb_in 637 (by decide +kernel) (by decide +kernel), tb_in 56 (by decide +kernel) (by decide +kernel), tb_in 638 rfl (by decide +kernel)⟩
set_option maxRecDepth 40000 in
theorem cf_X4_rotation : (yX4_rotation.cls = ((RX4, TX4, 36) : vw_C).1 ∧ yX4_rotation.cls ≠ "java/lang/invoke/MethodHandle" ∧ yX4_rotation.cls ≠ "java/lang/invoke/VarHandle" ∧ (parseMethodDescriptor yX4_rotation.desc).map (fun d => d.parameters.length) = some 1) ∧ Cond.instanceMethod yX4_rotation ∈ tb ∧ Cond.selects ((RX4, TX4, 36) : vw_C).1 yX4_rotation yX4_rotation ∈ tb ∧ Cond.initialized ((RX4, TX4, 36) : vw_C).1 ∈ tb ∧ Cond.code yX4_rotation cX4_rotation 2 (some .float) ∈ tb := ⟨⟨rfl, by decide, by decide, by decide +kernel⟩, tb_in 653 (by decide +kernel) (by decide +kernel), tb_in 654 (by decide +kernel) (by decide +kernel), tb_in 56 (by decide +kernel) (by decide +kernel), tb_in 655 rfl (by decide +kernel)⟩
set_option maxRecDepth 40000 in
theorem cf_X4_send : (yX4_send.cls = ((RX4, TX4, 36) : vw_C).1 ∧ yX4_send.cls ≠ "java/lang/invoke/MethodHandle" ∧ yX4_send.cls ≠ "java/lang/invoke/VarHandle" ∧ (parseMethodDescriptor yX4_send.desc).map (fun d => d.parameters.length) = some 4) ∧ Cond.instanceMethod yX4_send ∈ tb ∧ Cond.selects ((RX4, TX4, 36) : vw_C).1 yX4_send yX4_send ∈ tb ∧ Cond.initialized ((RX4, TX4, 36) : vw_C).1 ∈ tb ∧ Cond.code yX4_send cX4_send 7 (some .boolean) ∈ tb := ⟨⟨rfl, by decide, by decide, by decide +kernel⟩, tb_in 587 (by decide +kernel) (by decide +kernel), tb_in 588 (by decide +kernel) (by decide +kernel), tb_in 56 (by decide +kernel) (by decide +kernel), tb_in 589 rfl (by decide +kernel)⟩
set_option maxRecDepth 40000 in
theorem cf_X4_share : (yX4_share.cls = ((RX4, TX4, 36) : vw_C).1 ∧ yX4_share.cls ≠ "java/lang/invoke/MethodHandle" ∧ yX4_share.cls ≠ "java/lang/invoke/VarHandle" ∧ (parseMethodDescriptor yX4_share.desc).map (fun d => d.parameters.length) = some 1) ∧ Cond.instanceMethod yX4_share ∈ tb ∧ Cond.selects ((RX4, TX4, 36) : vw_C).1 yX4_share yX4_share ∈ tb ∧ Cond.initialized ((RX4, TX4, 36) : vw_C).1 ∈ tb ∧ Cond.code yX4_share cX4_share 2 (some .double) ∈ tb := ⟨⟨rfl, by decide, by decide, by decide +kernel⟩, tb_in 657 (by decide +kernel) (by decide +kernel), tb_in 658 (by decide +kernel) (by decide +kernel), tb_in 56 (by decide +kernel) (by decide +kernel), tb_in 659 rfl (by decide +kernel)⟩
set_option maxRecDepth 40000 in
theorem cf_X4_state : (yX4_state.cls = ((RX4, TX4, 36) : vw_C).1 ∧ yX4_state.cls ≠ "java/lang/invoke/MethodHandle" ∧ yX4_state.cls ≠ "java/lang/invoke/VarHandle" ∧ (parseMethodDescriptor yX4_state.desc).map (fun d => d.parameters.length) = some 1) ∧ Cond.instanceMethod yX4_state ∈ tb ∧ Cond.selects ((RX4, TX4, 36) : vw_C).1 yX4_state yX4_state ∈ tb ∧ Cond.initialized ((RX4, TX4, 36) : vw_C).1 ∈ tb ∧ Cond.code yX4_state cX4_state 3 (some .int) ∈ tb := ⟨⟨rfl, by decide, by decide, by decide +kernel⟩, tb_in 640 (by decide +kernel) (by decide +kernel), tb_in 641 (by decide +kernel) (by decide +kernel), tb_in 56 (by decide +kernel) (by decide +kernel), tb_in 642 rfl (by decide +kernel)⟩
set_option maxRecDepth 40000 in
theorem cf_X4_station : (yX4_station.cls = ((RX4, TX4, 36) : vw_C).1 ∧ yX4_station.cls ≠ "java/lang/invoke/MethodHandle" ∧ yX4_station.cls ≠ "java/lang/invoke/VarHandle" ∧ (parseMethodDescriptor yX4_station.desc).map (fun d => d.parameters.length) = some 2) ∧ Cond.instanceMethod yX4_station ∈ tb ∧ Cond.selects ((RX4, TX4, 36) : vw_C).1 yX4_station yX4_station ∈ tb ∧ Cond.initialized ((RX4, TX4, 36) : vw_C).1 ∈ tb ∧ Cond.code yX4_station cX4_station 3 (some .int) ∈ tb := ⟨⟨rfl, by decide, by decide, by decide +kernel⟩, tb_in 649 (by decide +kernel) (by decide +kernel), tb_in 650 (by decide +kernel) (by decide +kernel), tb_in 56 (by decide +kernel) (by decide +kernel), tb_in 651 rfl (by decide +kernel)⟩
set_option maxRecDepth 40000 in
theorem cf_X4_takeOut : (yX4_takeOut.cls = ((RX4, TX4, 36) : vw_C).1 ∧ yX4_takeOut.cls ≠ "java/lang/invoke/MethodHandle" ∧ yX4_takeOut.cls ≠ "java/lang/invoke/VarHandle" ∧ (parseMethodDescriptor yX4_takeOut.desc).map (fun d => d.parameters.length) = some 1) ∧ Cond.instanceMethod yX4_takeOut ∈ tb ∧ Cond.selects ((RX4, TX4, 36) : vw_C).1 yX4_takeOut yX4_takeOut ∈ tb ∧ Cond.initialized ((RX4, TX4, 36) : vw_C).1 ∈ tb ∧ Cond.code yX4_takeOut cX4_takeOut 4 none ∈ tb := ⟨⟨rfl, by decide, by decide, by decide +kernel⟩, tb_in 462 (by decide +kernel) (by decide +kernel), tb_in 41 (by decide +kernel) (by decide +kernel), tb_in 56 (by decide +kernel) (by decide +kernel), tb_in 463 rfl (by decide +kernel)⟩
set_option maxRecDepth 40000 in
theorem cf_X4_tick : (yX4_tick.cls = ((RX4, TX4, 36) : vw_C).1 ∧ yX4_tick.cls ≠ "java/lang/invoke/MethodHandle" ∧ yX4_tick.cls ≠ "java/lang/invoke/VarHandle" ∧ (parseMethodDescriptor yX4_tick.desc).map (fun d => d.parameters.length) = some 1) ∧ Cond.instanceMethod yX4_tick ∈ tb ∧ Cond.selects ((RX4, TX4, 36) : vw_C).1 yX4_tick yX4_tick ∈ tb ∧ Cond.initialized ((RX4, TX4, 36) : vw_C).1 ∈ tb ∧ Cond.code yX4_tick cX4_tick 4 (some .boolean) ∈ tb := ⟨⟨rfl, by decide, by decide, by decide +kernel⟩, tb_in 599 (by decide +kernel) (by decide +kernel), tb_in 600 (by decide +kernel) (by decide +kernel), tb_in 56 (by decide +kernel) (by decide +kernel), tb_in 601 rfl (by decide +kernel)⟩
set_option maxRecDepth 40000 in
theorem cf_X4_tickRing : (yX4_tickRing.cls = ((RX4, TX4, 36) : vw_C).1 ∧ yX4_tickRing.cls ≠ "java/lang/invoke/MethodHandle" ∧ yX4_tickRing.cls ≠ "java/lang/invoke/VarHandle" ∧ (parseMethodDescriptor yX4_tickRing.desc).map (fun d => d.parameters.length) = some 1) ∧ Cond.instanceMethod yX4_tickRing ∈ tb ∧ Cond.selects ((RX4, TX4, 36) : vw_C).1 yX4_tickRing yX4_tickRing ∈ tb ∧ Cond.initialized ((RX4, TX4, 36) : vw_C).1 ∈ tb ∧ Cond.code yX4_tickRing cX4_tickRing 3 none ∈ tb := ⟨⟨rfl, by decide, by decide, by decide +kernel⟩, tb_in 604 (by decide +kernel) (by decide +kernel), tb_in 43 (by decide +kernel) (by decide +kernel), tb_in 56 (by decide +kernel) (by decide +kernel), tb_in 605 rfl (by decide +kernel)⟩
end
section
theorem nz_n {v : Int32} (h : v = 0 ∨ v = 1) : narrow .boolean (.int v) = .int v := by rcases h with rfl | rfl <;> rfl
theorem nz_f {v : Int32} (h : v = 0 ∨ v = 1) : fits .boolean (.int v) = true := by rcases h with rfl | rfl <;> rfl
theorem kf_X2_63 : Cond.constantFloat RX2 63 1048576000 ∈ tb := tb_in 365 (by decide +kernel) (by decide +kernel)
theorem kf_X4_149 : Cond.constantFloat RX4 149 1048576000 ∈ tb := tb_in 626 (by decide +kernel) (by decide +kernel)
section ROWS
variable {p : Program} {l : Launch} {e : Env} {R : Room} {s : State} {m : MethodId} {args : Array Value} {below : List Frame} {meth : Method} {c : Code} {H H0 : Heap} {locs : List Loc} {cells slots : Nat} {Q : State → Prop}
variable {cc : ByteArray} {nL pc index : Nat} {ls : Array Slot} {rest : List Value} {g : GX} {own : String}
theorem lv_re {x y : Int32} (h : x = y) (k : W p l e R s m args below meth c H locs cells slots Q (F0 m pc ls (.int y :: rest))) : W p l e R s m args below meth c H locs cells slots Q (F0 m pc ls (.int x :: rest)) := by subst h; exact k
theorem n_iadd {x y z : Nat} (C : Cx g p s m args c cc nL own) (hdg : decode cc pc = .ok (.iadd, 1)) (h : x + y = z) (k : W p l e R s m args below meth c H locs cells slots Q (F0 m (pc + 1) ls (.int (nI z) :: rest))) : W p l e R s m args below meth c H locs cells slots Q (F0 m pc ls (.int (nI y) :: .int (nI x) :: rest)) :=
  lv_iadd C.1 C.2.1 hdg (lv_re (y := nI z) (by rw [nI_add, h]) k)
theorem n_imul {x y z : Nat} (C : Cx g p s m args c cc nL own) (hdg : decode cc pc = .ok (.imul, 1)) (h : x * y = z) (k : W p l e R s m args below meth c H locs cells slots Q (F0 m (pc + 1) ls (.int (nI z) :: rest))) : W p l e R s m args below meth c H locs cells slots Q (F0 m pc ls (.int (nI y) :: .int (nI x) :: rest)) :=
  lv_imul C.1 C.2.1 hdg (lv_re (y := nI z) (by rw [pk_mul, h]) k)
theorem n_isub {x y : Nat} (C : Cx g p s m args c cc nL own) (h : y ≤ x) (hdg : decode cc pc = .ok (.isub, 1)) (k : W p l e R s m args below meth c H locs cells slots Q (F0 m (pc + 1) ls (.int (nI (x - y)) :: rest))) : W p l e R s m args below meth c H locs cells slots Q (F0 m pc ls (.int (nI y) :: .int (nI x) :: rest)) :=
  lv_isub C.1 C.2.1 hdg (lv_re (y := nI (x - y)) (pk_sub h) k)
theorem n_idiv {x y : Nat} (C : Cx g p s m args c cc nL own) (ha : x < 2147483648) (h0 : 0 < y) (hb : y < 2147483648) (hdg : decode cc pc = .ok (.idiv, 1)) (k : W p l e R s m args below meth c H locs cells slots Q (F0 m (pc + 1) ls (.int (nI (x / y)) :: rest))) : W p l e R s m args below meth c H locs cells slots Q (F0 m pc ls (.int (nI y) :: .int (nI x) :: rest)) :=
  lv_idiv C.1 C.2.1 hdg (nI_ne0 h0 hb) (lv_re (y := nI (x / y)) (pk_div ha h0 hb) k)
theorem n_irem {x y : Nat} (C : Cx g p s m args c cc nL own) (ha : x < 2147483648) (h0 : 0 < y) (hb : y < 2147483648) (hdg : decode cc pc = .ok (.irem, 1)) (k : W p l e R s m args below meth c H locs cells slots Q (F0 m (pc + 1) ls (.int (nI (x % y)) :: rest))) : W p l e R s m args below meth c H locs cells slots Q (F0 m pc ls (.int (nI y) :: .int (nI x) :: rest)) :=
  lv_irem C.1 C.2.1 hdg (nI_ne0 h0 hb) (lv_re (y := nI (x % y)) (pk_rem ha h0 hb) k)
end ROWS
/-! floats: a rotation that stays a number -/
def fOK (r : UInt32) : Prop := ∃ (s : Bool) (c : Nat) (q : Int), FP.Core.decode FP.Core.b32 r.toNat = FP.Core.Datum.fin s c q ∧ c * 2 ^ (q + 149).toNat ≤ 2 ^ 180
def rotf (r : UInt32) (x : Int32) : UInt32 := FP.fadd r (FP.fmul (FP.fsub (FP.i2f x) r) 1048576000)
theorem fOK_step {r : UInt32} (h : fOK r) (x : Int32) : vf_n32 (FP.fsub (FP.i2f x) r) ∧ vf_n32 (FP.fmul (FP.fsub (FP.i2f x) r) 1048576000) ∧ vf_n32 (rotf r x) ∧ fOK (rotf r x) := sorry
end
section
def r_X1_claims (S : SX) (j : Nat) : Int32 := if S 23 j ≤ 0 then (nI 0) else (nI 1)
set_option maxHeartbeats 4000000 in
set_option maxRecDepth 100000 in
theorem k_X1_claims (l : Launch) (g : GX) (b N : Nat) (S : SX) (Fl : FX) (hN : N ≤ 6) (j : Nat) (hj : j < N)  : MR l yX1_claims (.code yX1_claims cX1_claims 1 (some .boolean) :: tb) (rmk 0 0) g (RepX g b N S Fl) (RepX g b N S Fl) (AX b N) [.ref (aRg b j)] (some (.int (r_X1_claims S j))) := by
  refine MR.start RX1 (by decide) rfl (Nat.le_of_ble_eq_true rfl) (fun zp ze zs zm zb zt zc ls C hr hlk hR hS hl => ?_)
  have hl : lv_has ls 1 [(0, .ref (aRg b j))] := hl
  refine lv_aload_n C.1 C.2.1 dX1_claims_0 rfl (lv_at hl 0 rfl) ?_
  refine xR_get (j := j) C hR (by omega) 3 (by decide) rfl fl_X1_13 (v := .int (S 23 j)) rfl dX1_claims_1 ?_
  refine lv_if_le (tgt := 11) C.1 C.2.1 dX1_claims_4 (by decide) (fun c4 => ?_) (fun c4 => ?_)
  · skip
    refine lv_iconst (v := nI 0) C.1 C.2.1 dX1_claims_11 (by decide) ?_
    have hv : r_X1_claims S j = nI 0 := (if_pos c4).trans (rfl)
    rw [hv]
    exact endz C hr hlk (Or.inl rfl) hR hS dX1_claims_12
  · skip
    refine lv_iconst (v := nI 1) C.1 C.2.1 dX1_claims_7 (by decide) ?_
    refine lv_goto (tgt := 12) C.1 C.2.1 dX1_claims_8 (by decide) ?_
    have hv : r_X1_claims S j = nI 1 := (if_neg c4).trans (rfl)
    rw [hv]
    exact endz C hr hlk (Or.inr rfl) hR hS dX1_claims_12

def s_X2_leaveRing (S : SX) (j : Nat) : SX := up2 (up2 (up2 S 3 j (-1)) 41 (2 * j) (nI 0)) 41 (2 * j + 1) (nI 0)
set_option maxHeartbeats 4000000 in
set_option maxRecDepth 100000 in
theorem k_X2_leaveRing (l : Launch) (g : GX) (b N : Nat) (S : SX) (Fl : FX) (hN : N ≤ 6) (j : Nat) (hj : j < N)  : MR l yX2_leaveRing (.code yX2_leaveRing cX2_leaveRing 1 none :: tb) (rmk 0 0) g (RepX g b N S Fl) (RepX g b N (s_X2_leaveRing S j) Fl) (AX b N) [.ref (aSt b j)] none := by
  refine MR.start RX2 (by decide) rfl (Nat.le_of_ble_eq_true rfl) (fun zp ze zs zm zb zt zc ls C hr hlk hR hS hl => ?_)
  have hl : lv_has ls 1 [(0, .ref (aSt b j))] := hl
  refine lv_aload_n C.1 C.2.1 dX2_leaveRing_0 rfl (lv_at hl 0 rfl) ?_
  refine lv_iconst (v := (-1)) C.1 C.2.1 dX2_leaveRing_1 (by decide) ?_
  refine xS_put (j := j) C hR hS (by omega) 3 (by decide) rfl rfl fl_X2_25 rfl rfl stS_3 dX2_leaveRing_2 (fun S1 H locs eS1 hR hS => ?_)
  refine lv_aload_n C.1 C.2.1 dX2_leaveRing_5 rfl (lv_at hl 0 rfl) ?_
  refine xS_get (j := j) C hR (by omega) 0 (by decide) rfl fl_X2_12 (v := .ref (aQ b (2 * j))) rfl dX2_leaveRing_6 ?_
  refine lv_iconst (v := nI 0) C.1 C.2.1 dX2_leaveRing_9 (by decide) ?_
  refine xQ_put (q := 2 * j) C hR hS (by omega) fl_X2_38 dX2_leaveRing_10 (fun S2 H locs eS2 hR hS => ?_)
  refine lv_aload_n C.1 C.2.1 dX2_leaveRing_13 rfl (lv_at hl 0 rfl) ?_
  refine xS_get (j := j) C hR (by omega) 1 (by decide) rfl fl_X2_18 (v := .ref (aQ b (2 * j + 1))) rfl dX2_leaveRing_14 ?_
  refine lv_iconst (v := nI 0) C.1 C.2.1 dX2_leaveRing_17 (by decide) ?_
  refine xQ_put (q := 2 * j + 1) C hR hS (by omega) fl_X2_38 dX2_leaveRing_18 (fun S3 H locs eS3 hR hS => ?_)
  have hs : s_X2_leaveRing S j = S3 := (show _ = up2 (up2 (up2 S 3 j (-1)) 41 (2 * j) (nI 0)) 41 (2 * j + 1) (nI 0) from rfl).trans (by rw [eS3, eS2, eS1])
  rw [hs]
  exact endv C hr hlk hR hS dX2_leaveRing_21

def s_X2_resetTimers (S : SX) (j : Nat) : SX := up2 (up2 (up2 (up2 (up2 (up2 S 6 j (nI 0)) 7 j (nI 0)) 8 j (nI 0)) 9 j (nI 0)) 10 j (nI 0)) 11 j (nI 0)
set_option maxHeartbeats 4000000 in
set_option maxRecDepth 100000 in
theorem k_X2_resetTimers (l : Launch) (g : GX) (b N : Nat) (S : SX) (Fl : FX) (hN : N ≤ 6) (j : Nat) (hj : j < N)  : MR l yX2_resetTimers (.code yX2_resetTimers cX2_resetTimers 1 none :: tb) (rmk 0 0) g (RepX g b N S Fl) (RepX g b N (s_X2_resetTimers S j) Fl) (AX b N) [.ref (aSt b j)] none := by
  refine MR.start RX2 (by decide) rfl (Nat.le_of_ble_eq_true rfl) (fun zp ze zs zm zb zt zc ls C hr hlk hR hS hl => ?_)
  have hl : lv_has ls 1 [(0, .ref (aSt b j))] := hl
  refine lv_aload_n C.1 C.2.1 dX2_resetTimers_0 rfl (lv_at hl 0 rfl) ?_
  refine lv_iconst (v := nI 0) C.1 C.2.1 dX2_resetTimers_1 (by decide) ?_
  refine xS_put (j := j) C hR hS (by omega) 6 (by decide) rfl rfl fl_X2_41 rfl rfl stS_6 dX2_resetTimers_2 (fun S1 H locs eS1 hR hS => ?_)
  refine lv_aload_n C.1 C.2.1 dX2_resetTimers_5 rfl (lv_at hl 0 rfl) ?_
  refine lv_iconst (v := nI 0) C.1 C.2.1 dX2_resetTimers_6 (by decide) ?_
  refine xS_put (j := j) C hR hS (by omega) 7 (by decide) rfl rfl fl_X2_44 rfl rfl stS_7 dX2_resetTimers_7 (fun S2 H locs eS2 hR hS => ?_)
  refine lv_aload_n C.1 C.2.1 dX2_resetTimers_10 rfl (lv_at hl 0 rfl) ?_
  refine lv_iconst (v := nI 0) C.1 C.2.1 dX2_resetTimers_11 (by decide) ?_
  refine xS_put (j := j) C hR hS (by omega) 8 (by decide) rfl rfl fl_X2_47 rfl rfl stS_8 dX2_resetTimers_12 (fun S3 H locs eS3 hR hS => ?_)
  refine lv_aload_n C.1 C.2.1 dX2_resetTimers_15 rfl (lv_at hl 0 rfl) ?_
  refine lv_iconst (v := nI 0) C.1 C.2.1 dX2_resetTimers_16 (by decide) ?_
  refine xS_put (j := j) C hR hS (by omega) 9 (by decide) rfl rfl fl_X2_50 rfl rfl stS_9 dX2_resetTimers_17 (fun S4 H locs eS4 hR hS => ?_)
  refine lv_aload_n C.1 C.2.1 dX2_resetTimers_20 rfl (lv_at hl 0 rfl) ?_
  refine lv_iconst (v := nI 0) C.1 C.2.1 dX2_resetTimers_21 (by decide) ?_
  refine xS_put (j := j) C hR hS (by omega) 10 (by decide) rfl rfl fl_X2_53 rfl rfl stS_10 dX2_resetTimers_22 (fun S5 H locs eS5 hR hS => ?_)
  refine lv_aload_n C.1 C.2.1 dX2_resetTimers_25 rfl (lv_at hl 0 rfl) ?_
  refine lv_iconst (v := nI 0) C.1 C.2.1 dX2_resetTimers_26 (by decide) ?_
  refine xS_put (j := j) C hR hS (by omega) 11 (by decide) rfl rfl fl_X2_56 (nz_n (Or.inl rfl)) (nz_f (Or.inl rfl)) stS_11 dX2_resetTimers_27 (fun S6 H locs eS6 hR hS => ?_)
  have hs : s_X2_resetTimers S j = S6 := (show _ = up2 (up2 (up2 (up2 (up2 (up2 S 6 j (nI 0)) 7 j (nI 0)) 8 j (nI 0)) 9 j (nI 0)) 10 j (nI 0)) 11 j (nI 0) from rfl).trans (by rw [eS6, eS5, eS4, eS3, eS2, eS1])
  rw [hs]
  exact endv C hr hlk hR hS dX2_resetTimers_30

def s_X2_runTimer (S : SX) (j : Nat) (T : Int32) : SX := if S 6 j + (nI 1) = T then (up2 (up2 (up2 (up2 S 10 j (S 10 j + (nI 1))) 6 j (S 6 j + (nI 1))) 6 j (nI 0)) 7 j (S 7 j + (nI 1))) else (up2 (up2 S 10 j (S 10 j + (nI 1))) 6 j (S 6 j + (nI 1)))
set_option maxHeartbeats 4000000 in
set_option maxRecDepth 100000 in
theorem k_X2_runTimer (l : Launch) (g : GX) (b N : Nat) (S : SX) (Fl : FX) (hN : N ≤ 6) (j : Nat) (hj : j < N) (T : Int32)  : MR l yX2_runTimer (.code yX2_runTimer cX2_runTimer 2 none :: tb) (rmk 0 0) g (RepX g b N S Fl) (RepX g b N (s_X2_runTimer S j T) Fl) (AX b N) [.ref (aSt b j), .int T] none := by
  refine MR.start RX2 (by decide) rfl (Nat.le_of_ble_eq_true rfl) (fun zp ze zs zm zb zt zc ls C hr hlk hR hS hl => ?_)
  have hl : lv_has ls 2 [(0, .ref (aSt b j)), (1, .int T)] := hl
  refine lv_aload_n C.1 C.2.1 dX2_runTimer_0 rfl (lv_at hl 0 rfl) ?_
  refine lv_dup C.1 C.2.1 dX2_runTimer_1 rfl ?_
  refine xS_get (j := j) C hR (by omega) 10 (by decide) rfl fl_X2_53 (v := .int (S 10 j)) rfl dX2_runTimer_2 ?_
  refine lv_iconst (v := nI 1) C.1 C.2.1 dX2_runTimer_5 (by decide) ?_
  refine lv_iadd C.1 C.2.1 dX2_runTimer_6 ?_
  refine xS_put (j := j) C hR hS (by omega) 10 (by decide) rfl rfl fl_X2_53 rfl rfl stS_10 dX2_runTimer_7 (fun S1 H locs eS1 hR hS => ?_)
  refine lv_aload_n C.1 C.2.1 dX2_runTimer_10 rfl (lv_at hl 0 rfl) ?_
  refine lv_dup C.1 C.2.1 dX2_runTimer_11 rfl ?_
  refine xS_get (j := j) C hR (by omega) 6 (by decide) rfl fl_X2_41 (v := .int (S1 6 j)) rfl dX2_runTimer_12 ?_
  refine lv_re (y := S 6 j) (by rw [eS1, up2_f (by decide)]) ?_
  refine lv_iconst (v := nI 1) C.1 C.2.1 dX2_runTimer_15 (by decide) ?_
  refine lv_iadd C.1 C.2.1 dX2_runTimer_16 ?_
  refine xS_put (j := j) C hR hS (by omega) 6 (by decide) rfl rfl fl_X2_41 rfl rfl stS_6 dX2_runTimer_17 (fun S2 H locs eS2 hR hS => ?_)
  refine lv_aload_n C.1 C.2.1 dX2_runTimer_20 rfl (lv_at hl 0 rfl) ?_
  refine xS_get (j := j) C hR (by omega) 6 (by decide) rfl fl_X2_41 (v := .int (S2 6 j)) rfl dX2_runTimer_21 ?_
  refine lv_re (y := S 6 j + (nI 1)) (by rw [eS2, up2_eq]) ?_
  refine lv_iload_n C.1 C.2.1 dX2_runTimer_24 rfl (lv_at hl 1 rfl) ?_
  refine lv_icmp_ne (tgt := 43) C.1 C.2.1 dX2_runTimer_25 (by decide) (fun c25 => ?_) (fun c25 => ?_)
  · skip
    have hs : s_X2_runTimer S j T = S2 := (if_neg c25).trans (by rw [eS2, eS1])
    rw [hs]
    exact endv C hr hlk hR hS dX2_runTimer_43
  · skip
    refine lv_aload_n C.1 C.2.1 dX2_runTimer_28 rfl (lv_at hl 0 rfl) ?_
    refine lv_iconst (v := nI 0) C.1 C.2.1 dX2_runTimer_29 (by decide) ?_
    refine xS_put (j := j) C hR hS (by omega) 6 (by decide) rfl rfl fl_X2_41 rfl rfl stS_6 dX2_runTimer_30 (fun S3 H locs eS3 hR hS => ?_)
    refine lv_aload_n C.1 C.2.1 dX2_runTimer_33 rfl (lv_at hl 0 rfl) ?_
    refine lv_dup C.1 C.2.1 dX2_runTimer_34 rfl ?_
    refine xS_get (j := j) C hR (by omega) 7 (by decide) rfl fl_X2_44 (v := .int (S3 7 j)) rfl dX2_runTimer_35 ?_
    refine lv_re (y := S 7 j) (by rw [eS3, up2_f (by decide), eS2, up2_f (by decide), eS1, up2_f (by decide)]) ?_
    refine lv_iconst (v := nI 1) C.1 C.2.1 dX2_runTimer_38 (by decide) ?_
    refine lv_iadd C.1 C.2.1 dX2_runTimer_39 ?_
    refine xS_put (j := j) C hR hS (by omega) 7 (by decide) rfl rfl fl_X2_44 rfl rfl stS_7 dX2_runTimer_40 (fun S4 H locs eS4 hR hS => ?_)
    have hs : s_X2_runTimer S j T = S4 := (if_pos c25).trans (by rw [eS4, eS3, eS2, eS1])
    rw [hs]
    exact endv C hr hlk hR hS dX2_runTimer_43

def s_X2_receive (S : SX) (j : Nat) (n sd : Int32) : SX := up2 (up2 (up2 S 14 j (S 14 j + (nI 1))) 15 j (S 15 j + n)) 16 j sd
set_option maxHeartbeats 4000000 in
set_option maxRecDepth 100000 in
theorem k_X2_receive (l : Launch) (g : GX) (b N : Nat) (S : SX) (Fl : FX) (hN : N ≤ 6) (j : Nat) (hj : j < N) (n sd : Int32)  : MR l yX2_receive (.code yX2_receive cX2_receive 3 none :: tb) (rmk 0 0) g (RepX g b N S Fl) (RepX g b N (s_X2_receive S j n sd) Fl) (AX b N) [.ref (aSt b j), .int n, .int sd] none := by
  refine MR.start RX2 (by decide) rfl (Nat.le_of_ble_eq_true rfl) (fun zp ze zs zm zb zt zc ls C hr hlk hR hS hl => ?_)
  have hl : lv_has ls 3 [(0, .ref (aSt b j)), (1, .int n), (2, .int sd)] := hl
  refine lv_aload_n C.1 C.2.1 dX2_receive_0 rfl (lv_at hl 0 rfl) ?_
  refine lv_dup C.1 C.2.1 dX2_receive_1 rfl ?_
  refine xS_get (j := j) C hR (by omega) 14 (by decide) rfl fl_X2_74 (v := .int (S 14 j)) rfl dX2_receive_2 ?_
  refine lv_iconst (v := nI 1) C.1 C.2.1 dX2_receive_5 (by decide) ?_
  refine lv_iadd C.1 C.2.1 dX2_receive_6 ?_
  refine xS_put (j := j) C hR hS (by omega) 14 (by decide) rfl rfl fl_X2_74 rfl rfl stS_14 dX2_receive_7 (fun S1 H locs eS1 hR hS => ?_)
  refine lv_aload_n C.1 C.2.1 dX2_receive_10 rfl (lv_at hl 0 rfl) ?_
  refine lv_dup C.1 C.2.1 dX2_receive_11 rfl ?_
  refine xS_get (j := j) C hR (by omega) 15 (by decide) rfl fl_X2_77 (v := .int (S1 15 j)) rfl dX2_receive_12 ?_
  refine lv_re (y := S 15 j) (by rw [eS1, up2_f (by decide)]) ?_
  refine lv_iload_n C.1 C.2.1 dX2_receive_15 rfl (lv_at hl 1 rfl) ?_
  refine lv_iadd C.1 C.2.1 dX2_receive_16 ?_
  refine xS_put (j := j) C hR hS (by omega) 15 (by decide) rfl rfl fl_X2_77 rfl rfl stS_15 dX2_receive_17 (fun S2 H locs eS2 hR hS => ?_)
  refine lv_aload_n C.1 C.2.1 dX2_receive_20 rfl (lv_at hl 0 rfl) ?_
  refine lv_iload_n C.1 C.2.1 dX2_receive_21 rfl (lv_at hl 2 rfl) ?_
  refine xS_put (j := j) C hR hS (by omega) 16 (by decide) rfl rfl fl_X2_35 rfl rfl stS_16 dX2_receive_22 (fun S3 H locs eS3 hR hS => ?_)
  have hs : s_X2_receive S j n sd = S3 := (show _ = up2 (up2 (up2 S 14 j (S 14 j + (nI 1))) 15 j (S 15 j + n)) 16 j sd from rfl).trans (by rw [eS3, eS2, eS1])
  rw [hs]
  exact endv C hr hlk hR hS dX2_receive_25

def r_X2_mayBeginSynchronous (S : SX) (j : Nat) : Int32 := if S 41 (2 * j) ≤ 0 then (nI 0) else (if S 9 j < S 43 (5 * (2 * j)) then (nI 0) else (nI 1))
set_option maxHeartbeats 4000000 in
set_option maxRecDepth 100000 in
theorem k_X2_mayBeginSynchronous (l : Launch) (g : GX) (b N : Nat) (S : SX) (Fl : FX) (hN : N ≤ 6) (j : Nat) (hj : j < N)  : MR l yX2_mayBeginSynchronous (.code yX2_mayBeginSynchronous cX2_mayBeginSynchronous 1 (some .boolean) :: tb) (rmk 0 0) g (RepX g b N S Fl) (RepX g b N S Fl) (AX b N) [.ref (aSt b j)] (some (.int (r_X2_mayBeginSynchronous S j))) := by
  refine MR.start RX2 (by decide) rfl (Nat.le_of_ble_eq_true rfl) (fun zp ze zs zm zb zt zc ls C hr hlk hR hS hl => ?_)
  have hl : lv_has ls 1 [(0, .ref (aSt b j))] := hl
  refine lv_aload_n C.1 C.2.1 dX2_mayBeginSynchronous_0 rfl (lv_at hl 0 rfl) ?_
  refine xS_get (j := j) C hR (by omega) 0 (by decide) rfl fl_X2_12 (v := .ref (aQ b (2 * j))) rfl dX2_mayBeginSynchronous_1 ?_
  refine xQ_get (q := 2 * j) C hR (by omega) 3 (by decide) rfl fl_X2_38 (v := .int (S 41 (2 * j))) rfl dX2_mayBeginSynchronous_4 ?_
  refine lv_if_le (tgt := 30) C.1 C.2.1 dX2_mayBeginSynchronous_7 (by decide) (fun c7 => ?_) (fun c7 => ?_)
  · skip
    refine lv_iconst (v := nI 0) C.1 C.2.1 dX2_mayBeginSynchronous_30 (by decide) ?_
    have hv : r_X2_mayBeginSynchronous S j = nI 0 := (if_pos c7).trans (rfl)
    rw [hv]
    exact endz C hr hlk (Or.inl rfl) hR hS dX2_mayBeginSynchronous_31
  · skip
    refine lv_aload_n C.1 C.2.1 dX2_mayBeginSynchronous_10 rfl (lv_at hl 0 rfl) ?_
    refine xS_get (j := j) C hR (by omega) 0 (by decide) rfl fl_X2_12 (v := .ref (aQ b (2 * j))) rfl dX2_mayBeginSynchronous_11 ?_
    refine xQ_get (q := 2 * j) C hR (by omega) 1 (by decide) rfl fl_X2_67 (v := .ref (aQA b (2 * j) 1)) rfl dX2_mayBeginSynchronous_14 ?_
    refine lv_iconst (v := nI 0) C.1 C.2.1 dX2_mayBeginSynchronous_17 (by decide) ?_
    refine xA_ld (q := 2 * j) (i := 1) (k := 0) C hR (by omega) (by decide) (by omega) (v := S 43 (5 * (2 * j))) rfl dX2_mayBeginSynchronous_18 ?_
    refine lv_aload_n C.1 C.2.1 dX2_mayBeginSynchronous_19 rfl (lv_at hl 0 rfl) ?_
    refine xS_get (j := j) C hR (by omega) 9 (by decide) rfl fl_X2_50 (v := .int (S 9 j)) rfl dX2_mayBeginSynchronous_20 ?_
    refine lv_icmp_gt (tgt := 30) C.1 C.2.1 dX2_mayBeginSynchronous_23 (by decide) (fun c23 => ?_) (fun c23 => ?_)
    · skip
      refine lv_iconst (v := nI 0) C.1 C.2.1 dX2_mayBeginSynchronous_30 (by decide) ?_
      have hv : r_X2_mayBeginSynchronous S j = nI 0 := (if_neg c7).trans ((if_pos c23).trans (rfl))
      rw [hv]
      exact endz C hr hlk (Or.inl rfl) hR hS dX2_mayBeginSynchronous_31
    · skip
      refine lv_iconst (v := nI 1) C.1 C.2.1 dX2_mayBeginSynchronous_26 (by decide) ?_
      refine lv_goto (tgt := 31) C.1 C.2.1 dX2_mayBeginSynchronous_27 (by decide) ?_
      have hv : r_X2_mayBeginSynchronous S j = nI 1 := (if_neg c7).trans ((if_neg c23).trans (rfl))
      rw [hv]
      exact endz C hr hlk (Or.inr rfl) hR hS dX2_mayBeginSynchronous_31

def r_X2_mayBeginAsynchronous (S : SX) (j : Nat) (T : Int32) : Int32 := if S 41 (2 * j + 1) = 0 then (nI 0) else (if 0 < S 8 j then (if S 8 j < (((nI 3) - (S 44 (5 * (2 * j + 1)))) * T) / (nI 4) then (nI 0) else (nI 1)) else (nI 0))
set_option maxHeartbeats 4000000 in
set_option maxRecDepth 100000 in
theorem k_X2_mayBeginAsynchronous (l : Launch) (g : GX) (b N : Nat) (S : SX) (Fl : FX) (hN : N ≤ 6) (j : Nat) (hj : j < N) (T : Int32)  : MR l yX2_mayBeginAsynchronous (.code yX2_mayBeginAsynchronous cX2_mayBeginAsynchronous 3 (some .boolean) :: tb) (rmk 0 0) g (RepX g b N S Fl) (RepX g b N S Fl) (AX b N) [.ref (aSt b j), .int T] (some (.int (r_X2_mayBeginAsynchronous S j T))) := by
  refine MR.start RX2 (by decide) rfl (Nat.le_of_ble_eq_true rfl) (fun zp ze zs zm zb zt zc ls C hr hlk hR hS hl => ?_)
  have hl : lv_has ls 3 [(0, .ref (aSt b j)), (1, .int T)] := hl
  refine lv_aload_n C.1 C.2.1 dX2_mayBeginAsynchronous_0 rfl (lv_at hl 0 rfl) ?_
  refine xS_get (j := j) C hR (by omega) 1 (by decide) rfl fl_X2_18 (v := .ref (aQ b (2 * j + 1))) rfl dX2_mayBeginAsynchronous_1 ?_
  refine xQ_get (q := 2 * j + 1) C hR (by omega) 3 (by decide) rfl fl_X2_38 (v := .int (S 41 (2 * j + 1))) rfl dX2_mayBeginAsynchronous_4 ?_
  refine lv_if_eq (tgt := 17) C.1 C.2.1 dX2_mayBeginAsynchronous_7 (by decide) (fun c7 => ?_) (fun c7 => ?_)
  · skip
    refine lv_iconst (v := nI 0) C.1 C.2.1 dX2_mayBeginAsynchronous_17 (by decide) ?_
    have hv : r_X2_mayBeginAsynchronous S j T = nI 0 := (if_pos c7).trans (rfl)
    rw [hv]
    exact endz C hr hlk (Or.inl rfl) hR hS dX2_mayBeginAsynchronous_18
  · skip
    refine lv_aload_n C.1 C.2.1 dX2_mayBeginAsynchronous_10 rfl (lv_at hl 0 rfl) ?_
    refine xS_get (j := j) C hR (by omega) 8 (by decide) rfl fl_X2_47 (v := .int (S 8 j)) rfl dX2_mayBeginAsynchronous_11 ?_
    refine lv_if_gt (tgt := 19) C.1 C.2.1 dX2_mayBeginAsynchronous_14 (by decide) (fun c14 => ?_) (fun c14 => ?_)
    · skip
      refine lv_iconst (v := nI 3) C.1 C.2.1 dX2_mayBeginAsynchronous_19 (by decide) ?_
      refine lv_aload_n C.1 C.2.1 dX2_mayBeginAsynchronous_20 rfl (lv_at hl 0 rfl) ?_
      refine xS_get (j := j) C hR (by omega) 1 (by decide) rfl fl_X2_18 (v := .ref (aQ b (2 * j + 1))) rfl dX2_mayBeginAsynchronous_21 ?_
      refine xQ_get (q := 2 * j + 1) C hR (by omega) 2 (by decide) rfl fl_X2_71 (v := .ref (aQA b (2 * j + 1) 2)) rfl dX2_mayBeginAsynchronous_24 ?_
      refine lv_iconst (v := nI 0) C.1 C.2.1 dX2_mayBeginAsynchronous_27 (by decide) ?_
      refine xA_ld (q := 2 * j + 1) (i := 2) (k := 0) C hR (by omega) (by decide) (by omega) (v := S 44 (5 * (2 * j + 1))) rfl dX2_mayBeginAsynchronous_28 ?_
      refine lv_isub C.1 C.2.1 dX2_mayBeginAsynchronous_29 ?_
      refine lv_iload_n C.1 C.2.1 dX2_mayBeginAsynchronous_30 rfl (lv_at hl 1 rfl) ?_
      refine lv_imul C.1 C.2.1 dX2_mayBeginAsynchronous_31 ?_
      refine lv_iconst (v := nI 4) C.1 C.2.1 dX2_mayBeginAsynchronous_32 (by decide) ?_
      refine lv_idiv C.1 C.2.1 dX2_mayBeginAsynchronous_33 (by decide) ?_
      refine lv_istore_n (lv' := [(2, .int ((((nI 3) - (S 44 (5 * (2 * j + 1)))) * T) / (nI 4))), (0, .ref (aSt b j)), (1, .int T)]) C.1 C.2.1 dX2_mayBeginAsynchronous_34 rfl hl (by decide) rfl (fun ls hl => ?_)
      refine lv_aload_n C.1 C.2.1 dX2_mayBeginAsynchronous_35 rfl (lv_at hl 1 rfl) ?_
      refine xS_get (j := j) C hR (by omega) 8 (by decide) rfl fl_X2_47 (v := .int (S 8 j)) rfl dX2_mayBeginAsynchronous_36 ?_
      refine lv_iload_n C.1 C.2.1 dX2_mayBeginAsynchronous_39 rfl (lv_at hl 0 rfl) ?_
      refine lv_icmp_lt (tgt := 47) C.1 C.2.1 dX2_mayBeginAsynchronous_40 (by decide) (fun c40 => ?_) (fun c40 => ?_)
      · skip
        refine lv_iconst (v := nI 0) C.1 C.2.1 dX2_mayBeginAsynchronous_47 (by decide) ?_
        have hv : r_X2_mayBeginAsynchronous S j T = nI 0 := (if_neg c7).trans ((if_pos c14).trans ((if_pos c40).trans (rfl)))
        rw [hv]
        exact endz C hr hlk (Or.inl rfl) hR hS dX2_mayBeginAsynchronous_48
      · skip
        refine lv_iconst (v := nI 1) C.1 C.2.1 dX2_mayBeginAsynchronous_43 (by decide) ?_
        refine lv_goto (tgt := 48) C.1 C.2.1 dX2_mayBeginAsynchronous_44 (by decide) ?_
        have hv : r_X2_mayBeginAsynchronous S j T = nI 1 := (if_neg c7).trans ((if_pos c14).trans ((if_neg c40).trans (rfl)))
        rw [hv]
        exact endz C hr hlk (Or.inr rfl) hR hS dX2_mayBeginAsynchronous_48
    · skip
      refine lv_iconst (v := nI 0) C.1 C.2.1 dX2_mayBeginAsynchronous_17 (by decide) ?_
      have hv : r_X2_mayBeginAsynchronous S j T = nI 0 := (if_neg c7).trans ((if_neg c14).trans (rfl))
      rw [hv]
      exact endz C hr hlk (Or.inl rfl) hR hS dX2_mayBeginAsynchronous_18

def r_X2_queueFor (S : SX) (b j : Nat) (x : Int32) : Nat := if x = 0 then (aQ b (2 * j + 1)) else (aQ b (2 * j))
set_option maxHeartbeats 4000000 in
set_option maxRecDepth 100000 in
theorem k_X2_queueFor (l : Launch) (g : GX) (b N : Nat) (S : SX) (Fl : FX) (hN : N ≤ 6) (j : Nat) (hj : j < N) (x : Int32)  : MR l yX2_queueFor (.code yX2_queueFor cX2_queueFor 2 (some (.object "DualRing$FrameQueue")) :: tb) (rmk 0 0) g (RepX g b N S Fl) (RepX g b N S Fl) (AX b N) [.ref (aSt b j), .int x] (some (.ref (r_X2_queueFor S b j x))) := by
  refine MR.start RX2 (by decide) rfl (Nat.le_of_ble_eq_true rfl) (fun zp ze zs zm zb zt zc ls C hr hlk hR hS hl => ?_)
  have hl : lv_has ls 2 [(0, .ref (aSt b j)), (1, .int x)] := hl
  refine lv_iload_n C.1 C.2.1 dX2_queueFor_0 rfl (lv_at hl 1 rfl) ?_
  refine lv_if_eq (tgt := 11) C.1 C.2.1 dX2_queueFor_1 (by decide) (fun c1 => ?_) (fun c1 => ?_)
  · skip
    refine lv_aload_n C.1 C.2.1 dX2_queueFor_11 rfl (lv_at hl 0 rfl) ?_
    refine xS_get (j := j) C hR (by omega) 1 (by decide) rfl fl_X2_18 (v := .ref (aQ b (2 * j + 1))) rfl dX2_queueFor_12 ?_
    have hv : r_X2_queueFor S b j x = aQ b (2 * j + 1) := (if_pos c1).trans (rfl)
    rw [hv]
    exact enda C hr hlk hR hS dX2_queueFor_15
  · skip
    refine lv_aload_n C.1 C.2.1 dX2_queueFor_4 rfl (lv_at hl 0 rfl) ?_
    refine xS_get (j := j) C hR (by omega) 0 (by decide) rfl fl_X2_12 (v := .ref (aQ b (2 * j))) rfl dX2_queueFor_5 ?_
    refine lv_goto (tgt := 15) C.1 C.2.1 dX2_queueFor_8 (by decide) ?_
    have hv : r_X2_queueFor S b j x = aQ b (2 * j) := (if_neg c1).trans (rfl)
    rw [hv]
    exact enda C hr hlk hR hS dX2_queueFor_15
end
section
def nx (N j : Nat) : Nat := if j = N - 1 then 0 else j + 1
def pv (N j : Nat) : Nat := if j = 0 then N - 1 else j - 1
def wr (N i : Nat) : Nat := if i < N then i else i - N
theorem nx_lt {N j : Nat} (h : j < N) : nx N j < N := by unfold nx; split <;> omega
theorem pv_lt {N j : Nat} (h : j < N) : pv N j < N := by unfold pv; split <;> omega
theorem wr_lt {N i : Nat} (h : i < 2 * N) : wr N i < N := by unfold wr; split <;> omega
def qof (j : Nat) (x : Int32) : Nat := if x = 0 then 2 * j + 1 else 2 * j
theorem qof_lt {N j : Nat} {x : Int32} (h : j < N) : qof j x < 2 * N := by unfold qof; split <;> omega
theorem kq_X2_queueFor (l : Launch) (g : GX) (b N : Nat) (S : SX) (Fl : FX) (hN : N ≤ 6) (j : Nat) (hj : j < N) (x : Int32) : MR l yX2_queueFor (.code yX2_queueFor cX2_queueFor 2 (some (.object "DualRing$FrameQueue")) :: tb) (rmk 0 0) g (RepX g b N S Fl) (RepX g b N S Fl) (AX b N) [.ref (aSt b j), .int x] (some (.ref (aQ b (qof j x)))) := by
  have h : r_X2_queueFor S b j x = aQ b (qof j x) := by unfold r_X2_queueFor qof; split <;> rfl
  rw [← h]
  exact k_X2_queueFor l g b N S Fl hN j hj x
def r_X3_numberAfter (S : SX) (N : Nat) (j : Nat) : Int32 := if j = N - 1 then (nI 0) else (nI (j + 1))
set_option maxHeartbeats 4000000 in
set_option maxRecDepth 100000 in
theorem k_X3_numberAfter (l : Launch) (g : GX) (b N : Nat) (S : SX) (Fl : FX) (hN : N ≤ 6) (j : Nat) (hj : j < N)  : MR l yX3_numberAfter (.code yX3_numberAfter cX3_numberAfter 2 (some .int) :: tb) (rmk 0 0) g (RepX g b N S Fl) (RepX g b N S Fl) (AX b N) [.ref b, .int (nI j)] (some (.int (r_X3_numberAfter S N j))) := by
  refine MR.start RX3 (by decide) rfl (Nat.le_of_ble_eq_true rfl) (fun zp ze zs zm zb zt zc ls C hr hlk hR hS hl => ?_)
  have hl : lv_has ls 2 [(0, .ref b), (1, .int (nI j))] := hl
  refine lv_iload_n C.1 C.2.1 dX3_numberAfter_0 rfl (lv_at hl 1 rfl) ?_
  refine lv_aload_n C.1 C.2.1 dX3_numberAfter_1 rfl (lv_at hl 0 rfl) ?_
  refine xO_get C hR 0 (by decide) rfl fl_X3_9 (v := .int (nI N)) rfl dX3_numberAfter_2 ?_
  refine lv_iconst (v := nI 1) C.1 C.2.1 dX3_numberAfter_5 (by decide) ?_
  refine n_isub C (by omega) dX3_numberAfter_6 ?_
  refine lv_icmp_ne (tgt := 14) C.1 C.2.1 dX3_numberAfter_7 (by decide) (fun c7 => ?_) (fun c7 => ?_)
  · skip
    have c7 : ¬ (j = N - 1) := mt (nI_eq (a := j) (b := N - 1) (by omega) (by omega)).mpr c7
    refine lv_iload_n C.1 C.2.1 dX3_numberAfter_14 rfl (lv_at hl 1 rfl) ?_
    refine lv_iconst (v := nI 1) C.1 C.2.1 dX3_numberAfter_15 (by decide) ?_
    refine n_iadd (z := j + 1) C dX3_numberAfter_16 (by omega) ?_
    have hv : r_X3_numberAfter S N j = nI (j + 1) := (if_neg c7).trans (rfl)
    rw [hv]
    exact endi C hr hlk hR hS dX3_numberAfter_17
  · skip
    have c7 : j = N - 1 := (nI_eq (a := j) (b := N - 1) (by omega) (by omega)).mp c7
    refine lv_iconst (v := nI 0) C.1 C.2.1 dX3_numberAfter_10 (by decide) ?_
    refine lv_goto (tgt := 17) C.1 C.2.1 dX3_numberAfter_11 (by decide) ?_
    have hv : r_X3_numberAfter S N j = nI 0 := (if_pos c7).trans (rfl)
    rw [hv]
    exact endi C hr hlk hR hS dX3_numberAfter_17

def r_X3_numberBefore (S : SX) (N : Nat) (j : Nat) : Int32 := if j = 0 then (nI (N - 1)) else (nI (j - 1))
set_option maxHeartbeats 4000000 in
set_option maxRecDepth 100000 in
theorem k_X3_numberBefore (l : Launch) (g : GX) (b N : Nat) (S : SX) (Fl : FX) (hN : N ≤ 6) (j : Nat) (hj : j < N)  : MR l yX3_numberBefore (.code yX3_numberBefore cX3_numberBefore 2 (some .int) :: tb) (rmk 0 0) g (RepX g b N S Fl) (RepX g b N S Fl) (AX b N) [.ref b, .int (nI j)] (some (.int (r_X3_numberBefore S N j))) := by
  refine MR.start RX3 (by decide) rfl (Nat.le_of_ble_eq_true rfl) (fun zp ze zs zm zb zt zc ls C hr hlk hR hS hl => ?_)
  have hl : lv_has ls 2 [(0, .ref b), (1, .int (nI j))] := hl
  refine lv_iload_n C.1 C.2.1 dX3_numberBefore_0 rfl (lv_at hl 1 rfl) ?_
  refine lv_if_ne (tgt := 13) C.1 C.2.1 dX3_numberBefore_1 (by decide) (fun c1 => ?_) (fun c1 => ?_)
  · skip
    have c1 : ¬ (j = 0) := mt (nI_eq (a := j) (b := 0) (by omega) (by omega)).mpr c1
    refine lv_iload_n C.1 C.2.1 dX3_numberBefore_13 rfl (lv_at hl 1 rfl) ?_
    refine lv_iconst (v := nI 1) C.1 C.2.1 dX3_numberBefore_14 (by decide) ?_
    refine n_isub C (by omega) dX3_numberBefore_15 ?_
    have hv : r_X3_numberBefore S N j = nI (j - 1) := (if_neg c1).trans (rfl)
    rw [hv]
    exact endi C hr hlk hR hS dX3_numberBefore_16
  · skip
    have c1 : j = 0 := (nI_eq (a := j) (b := 0) (by omega) (by omega)).mp c1
    refine lv_aload_n C.1 C.2.1 dX3_numberBefore_4 rfl (lv_at hl 0 rfl) ?_
    refine xO_get C hR 0 (by decide) rfl fl_X3_9 (v := .int (nI N)) rfl dX3_numberBefore_5 ?_
    refine lv_iconst (v := nI 1) C.1 C.2.1 dX3_numberBefore_8 (by decide) ?_
    refine n_isub C (by omega) dX3_numberBefore_9 ?_
    refine lv_goto (tgt := 16) C.1 C.2.1 dX3_numberBefore_10 (by decide) ?_
    have hv : r_X3_numberBefore S N j = nI (N - 1) := (if_pos c1).trans (rfl)
    rw [hv]
    exact endi C hr hlk hR hS dX3_numberBefore_16

def r_X3_numberAt (S : SX) (N : Nat) (f p : Nat) : Int32 := if f + p < N then (nI (f + p)) else (nI (f + p - N))
set_option maxHeartbeats 4000000 in
set_option maxRecDepth 100000 in
theorem k_X3_numberAt (l : Launch) (g : GX) (b N : Nat) (S : SX) (Fl : FX) (hN : N ≤ 6) (f p : Nat) (hf : f < N) (hp : p < N) (h20 : S 20 f = nI f)  : MR l yX3_numberAt (.code yX3_numberAt cX3_numberAt 4 (some .int) :: tb) (rmk 0 0) g (RepX g b N S Fl) (RepX g b N S Fl) (AX b N) [.ref b, .ref (aRg b f), .int (nI p)] (some (.int (r_X3_numberAt S N f p))) := by
  refine MR.start RX3 (by decide) rfl (Nat.le_of_ble_eq_true rfl) (fun zp ze zs zm zb zt zc ls C hr hlk hR hS hl => ?_)
  have hl : lv_has ls 4 [(0, .ref b), (1, .ref (aRg b f)), (2, .int (nI p))] := hl
  refine lv_aload_n C.1 C.2.1 dX3_numberAt_0 rfl (lv_at hl 1 rfl) ?_
  refine xR_get (j := f) C hR (by omega) 0 (by decide) rfl fl_X3_144 (v := .int (S 20 f)) rfl dX3_numberAt_1 ?_
  refine lv_re (y := nI f) (by rw [h20]) ?_
  refine lv_iload_n C.1 C.2.1 dX3_numberAt_4 rfl (lv_at hl 2 rfl) ?_
  refine n_iadd (z := f + p) C dX3_numberAt_5 (by omega) ?_
  refine lv_istore_n (lv' := [(3, .int (nI (f + p))), (0, .ref b), (1, .ref (aRg b f)), (2, .int (nI p))]) C.1 C.2.1 dX3_numberAt_6 rfl hl (by decide) rfl (fun ls hl => ?_)
  refine lv_iload_n C.1 C.2.1 dX3_numberAt_7 rfl (lv_at hl 0 rfl) ?_
  refine lv_aload_n C.1 C.2.1 dX3_numberAt_8 rfl (lv_at hl 1 rfl) ?_
  refine xO_get C hR 0 (by decide) rfl fl_X3_9 (v := .int (nI N)) rfl dX3_numberAt_9 ?_
  refine lv_icmp_lt (tgt := 24) C.1 C.2.1 dX3_numberAt_12 (by decide) (fun c12 => ?_) (fun c12 => ?_)
  · skip
    have c12 : f + p < N := (nI_ltI (a := f + p) (b := N) (by omega) (by omega)).mp c12
    refine lv_iload_n C.1 C.2.1 dX3_numberAt_24 rfl (lv_at hl 0 rfl) ?_
    have hv : r_X3_numberAt S N f p = nI (f + p) := (if_pos c12).trans (rfl)
    rw [hv]
    exact endi C hr hlk hR hS dX3_numberAt_25
  · skip
    have c12 : ¬ (f + p < N) := mt (nI_ltI (a := f + p) (b := N) (by omega) (by omega)).mpr c12
    refine lv_iload_n C.1 C.2.1 dX3_numberAt_15 rfl (lv_at hl 0 rfl) ?_
    refine lv_aload_n C.1 C.2.1 dX3_numberAt_16 rfl (lv_at hl 1 rfl) ?_
    refine xO_get C hR 0 (by decide) rfl fl_X3_9 (v := .int (nI N)) rfl dX3_numberAt_17 ?_
    refine n_isub C (by omega) dX3_numberAt_20 ?_
    refine lv_goto (tgt := 25) C.1 C.2.1 dX3_numberAt_21 (by decide) ?_
    have hv : r_X3_numberAt S N f p = nI (f + p - N) := (if_neg c12).trans (rfl)
    rw [hv]
    exact endi C hr hlk hR hS dX3_numberAt_25

theorem kn_numberAfter (l : Launch) (g : GX) (b N : Nat) (S : SX) (Fl : FX) (hN : N ≤ 6) (j : Nat) (hj : j < N) : MR l yX3_numberAfter (.code yX3_numberAfter cX3_numberAfter 2 (some .int) :: tb) (rmk 0 0) g (RepX g b N S Fl) (RepX g b N S Fl) (AX b N) [.ref b, .int (nI j)] (some (.int (nI (nx N j)))) := by
  have h : r_X3_numberAfter S N j = nI (nx N j) := by unfold r_X3_numberAfter nx; split <;> rfl
  rw [← h]
  exact k_X3_numberAfter l g b N S Fl hN j hj
theorem kn_numberBefore (l : Launch) (g : GX) (b N : Nat) (S : SX) (Fl : FX) (hN : N ≤ 6) (j : Nat) (hj : j < N) : MR l yX3_numberBefore (.code yX3_numberBefore cX3_numberBefore 2 (some .int) :: tb) (rmk 0 0) g (RepX g b N S Fl) (RepX g b N S Fl) (AX b N) [.ref b, .int (nI j)] (some (.int (nI (pv N j)))) := by
  have h : r_X3_numberBefore S N j = nI (pv N j) := by unfold r_X3_numberBefore pv; split <;> rfl
  rw [← h]
  exact k_X3_numberBefore l g b N S Fl hN j hj
theorem kn_numberAt (l : Launch) (g : GX) (b N : Nat) (S : SX) (Fl : FX) (hN : N ≤ 6) (f p : Nat) (hf : f < N) (hp : p < N) (h20 : S 20 f = nI f) : MR l yX3_numberAt (.code yX3_numberAt cX3_numberAt 4 (some .int) :: tb) (rmk 0 0) g (RepX g b N S Fl) (RepX g b N S Fl) (AX b N) [.ref b, .ref (aRg b f), .int (nI p)] (some (.int (nI (wr N (f + p))))) := by
  have h : r_X3_numberAt S N f p = nI (wr N (f + p)) := by unfold r_X3_numberAt wr; split <;> rfl
  rw [← h]
  exact k_X3_numberAt l g b N S Fl hN f p hf hp h20
set_option maxHeartbeats 4000000 in
set_option maxRecDepth 100000 in
theorem k_X3_stationAt (l : Launch) (g : GX) (b N : Nat) (S : SX) (Fl : FX) (hN : N ≤ 6) (f p : Nat) (hf : f < N) (hp : p < N) (h20 : S 20 f = nI f)  : MR l yX3_stationAt (.code yX3_stationAt cX3_stationAt 3 (some (.object "DualRing$Station")) :: tb) (rmk 1 23) g (RepX g b N S Fl) (RepX g b N S Fl) (AX b N) [.ref b, .ref (aRg b f), .int (nI p)] (some (.ref (aSt b (wr N (f + p))))) := by
  refine MR.start RX3 (by decide) rfl (Nat.le_of_ble_eq_true rfl) (fun zp ze zs zm zb zt zc ls C hr hlk hR hS hl => ?_)
  have hl : lv_has ls 3 [(0, .ref b), (1, .ref (aRg b f)), (2, .int (nI p))] := hl
  refine lv_aload_n C.1 C.2.1 dX3_stationAt_0 rfl (lv_at hl 0 rfl) ?_
  refine xO_get C hR 1 (by decide) rfl fl_X3_15 (v := .ref (b + 1)) rfl dX3_stationAt_1 ?_
  refine lv_aload_n C.1 C.2.1 dX3_stationAt_4 rfl (lv_at hl 0 rfl) ?_
  refine lv_aload_n C.1 C.2.1 dX3_stationAt_5 rfl (lv_at hl 1 rfl) ?_
  refine lv_iload_n C.1 C.2.1 dX3_stationAt_6 rfl (lv_at hl 2 rfl) ?_
  refine cxV (b := b) (As := [.ref (aRg b f), .int (nI p)]) (rest := [.ref (b + 1)]) (ci := 3) (q := (RX3, TX3, 6)) C (kn_numberAt l g b N S Fl hN (f) (p) (by omega) (by omega) (by rw [h20])) cf_X3_numberAt ml_X3_87 ⟨by decide, by decide⟩ ⟨rfl, rfl⟩ rfl (hR.1) rfl hl.1 rfl (Nat.le_of_ble_eq_true rfl) dX3_stationAt_7 hR ⟨Nat.zero_le _, Nat.zero_le _⟩ hS (fun _ h => h) (fun H locs hR hS _ _ => ?_)
  simp only [Option.toList, List.cons_append, List.nil_append]
  have hw5 := wr_lt (N := N) (i := f + p) (by omega)
  refine xS_ald (j := wr N (f + p)) C hR (by omega) hN dX3_stationAt_10 ?_
  skip
  exact enda C hr hlk hR hS dX3_stationAt_11

def r_X3_isJoinedToNext (S : SX) (N : Nat) (j : Nat) : Int32 := if S 2 j = 0 then (nI 0) else (if S 40 j = 0 then (nI 0) else (if S 2 (nx N j) = 0 then (nI 0) else (nI 1)))
set_option maxHeartbeats 4000000 in
set_option maxRecDepth 100000 in
theorem k_X3_isJoinedToNext (l : Launch) (g : GX) (b N : Nat) (S : SX) (Fl : FX) (hN : N ≤ 6) (j : Nat) (hj : j < N)  : MR l yX3_isJoinedToNext (.code yX3_isJoinedToNext cX3_isJoinedToNext 2 (some .boolean) :: tb) (rmk 1 21) g (RepX g b N S Fl) (RepX g b N S Fl) (AX b N) [.ref b, .int (nI j)] (some (.int (r_X3_isJoinedToNext S N j))) := by
  refine MR.start RX3 (by decide) rfl (Nat.le_of_ble_eq_true rfl) (fun zp ze zs zm zb zt zc ls C hr hlk hR hS hl => ?_)
  have hl : lv_has ls 2 [(0, .ref b), (1, .int (nI j))] := hl
  refine lv_aload_n C.1 C.2.1 dX3_isJoinedToNext_0 rfl (lv_at hl 0 rfl) ?_
  refine xO_get C hR 1 (by decide) rfl fl_X3_15 (v := .ref (b + 1)) rfl dX3_isJoinedToNext_1 ?_
  refine lv_iload_n C.1 C.2.1 dX3_isJoinedToNext_4 rfl (lv_at hl 1 rfl) ?_
  refine xS_ald (j := j) C hR (by omega) hN dX3_isJoinedToNext_5 ?_
  refine xS_get (j := j) C hR (by omega) 2 (by decide) rfl fl_X3_56 (v := .int (S 2 j)) rfl dX3_isJoinedToNext_6 ?_
  refine lv_if_eq (tgt := 41) C.1 C.2.1 dX3_isJoinedToNext_9 (by decide) (fun c9 => ?_) (fun c9 => ?_)
  · skip
    refine lv_iconst (v := nI 0) C.1 C.2.1 dX3_isJoinedToNext_41 (by decide) ?_
    have hv : r_X3_isJoinedToNext S N j = nI 0 := (if_pos c9).trans (rfl)
    rw [hv]
    exact endz C hr hlk (Or.inl rfl) hR hS dX3_isJoinedToNext_42
  · skip
    refine lv_aload_n C.1 C.2.1 dX3_isJoinedToNext_12 rfl (lv_at hl 0 rfl) ?_
    refine xO_get C hR 2 (by decide) rfl fl_X3_19 (v := .ref (b + 2)) rfl dX3_isJoinedToNext_13 ?_
    refine lv_iload_n C.1 C.2.1 dX3_isJoinedToNext_16 rfl (lv_at hl 1 rfl) ?_
    refine xC_ld (j := j) C hR (by omega) hN dX3_isJoinedToNext_17 ?_
    refine lv_if_eq (tgt := 41) C.1 C.2.1 dX3_isJoinedToNext_18 (by decide) (fun c18 => ?_) (fun c18 => ?_)
    · skip
      refine lv_iconst (v := nI 0) C.1 C.2.1 dX3_isJoinedToNext_41 (by decide) ?_
      have hv : r_X3_isJoinedToNext S N j = nI 0 := (if_neg c9).trans ((if_pos c18).trans (rfl))
      rw [hv]
      exact endz C hr hlk (Or.inl rfl) hR hS dX3_isJoinedToNext_42
    · skip
      refine lv_aload_n C.1 C.2.1 dX3_isJoinedToNext_21 rfl (lv_at hl 0 rfl) ?_
      refine xO_get C hR 1 (by decide) rfl fl_X3_15 (v := .ref (b + 1)) rfl dX3_isJoinedToNext_22 ?_
      refine lv_aload_n C.1 C.2.1 dX3_isJoinedToNext_25 rfl (lv_at hl 0 rfl) ?_
      refine lv_iload_n C.1 C.2.1 dX3_isJoinedToNext_26 rfl (lv_at hl 1 rfl) ?_
      refine cxV (b := b) (As := [.int (nI j)]) (rest := [.ref (b + 1)]) (ci := 3) (q := (RX3, TX3, 6)) C (kn_numberAfter l g b N S Fl hN (j) (by omega)) cf_X3_numberAfter ml_X3_166 ⟨by decide, by decide⟩ ⟨rfl, rfl⟩ rfl (hR.1) rfl hl.1 rfl (Nat.le_of_ble_eq_true rfl) dX3_isJoinedToNext_27 hR ⟨Nat.zero_le _, Nat.zero_le _⟩ hS (fun _ h => h) (fun H locs hR hS _ _ => ?_)
      simp only [Option.toList, List.cons_append, List.nil_append]
      have hw25 := nx_lt (N := N) (j := j) (by omega)
      refine xS_ald (j := nx N j) C hR (by omega) hN dX3_isJoinedToNext_30 ?_
      refine xS_get (j := nx N j) C hR (by omega) 2 (by decide) rfl fl_X3_56 (v := .int (S 2 (nx N j))) rfl dX3_isJoinedToNext_31 ?_
      refine lv_if_eq (tgt := 41) C.1 C.2.1 dX3_isJoinedToNext_34 (by decide) (fun c34 => ?_) (fun c34 => ?_)
      · skip
        refine lv_iconst (v := nI 0) C.1 C.2.1 dX3_isJoinedToNext_41 (by decide) ?_
        have hv : r_X3_isJoinedToNext S N j = nI 0 := (if_neg c9).trans ((if_neg c18).trans ((if_pos c34).trans (rfl)))
        rw [hv]
        exact endz C hr hlk (Or.inl rfl) hR hS dX3_isJoinedToNext_42
      · skip
        refine lv_iconst (v := nI 1) C.1 C.2.1 dX3_isJoinedToNext_37 (by decide) ?_
        refine lv_goto (tgt := 42) C.1 C.2.1 dX3_isJoinedToNext_38 (by decide) ?_
        have hv : r_X3_isJoinedToNext S N j = nI 1 := (if_neg c9).trans ((if_neg c18).trans ((if_neg c34).trans (rfl)))
        rw [hv]
        exact endz C hr hlk (Or.inr rfl) hR hS dX3_isJoinedToNext_42

theorem ist_lo {N : Nat} {x : Int32} (h : x < 0) : ¬ ∃ j, j < N ∧ N ≤ 6 ∧ x = nI j := by
  rintro ⟨j, h1, h2, rfl⟩
  exact nI_pos (n := j) (by omega) h
def r_X3_isStation (S : SX) (N : Nat) (x : Int32) : Int32 := if x < 0 then (nI 0) else (if nI N ≤ x then (nI 0) else (nI 1))
set_option maxHeartbeats 4000000 in
set_option maxRecDepth 100000 in
theorem k_X3_isStation (l : Launch) (g : GX) (b N : Nat) (S : SX) (Fl : FX) (hN : N ≤ 6) (x : Int32)  : MR l yX3_isStation (.code yX3_isStation cX3_isStation 2 (some .boolean) :: tb) (rmk 0 0) g (RepX g b N S Fl) (RepX g b N S Fl) (AX b N) [.ref b, .int x] (some (.int (r_X3_isStation S N x))) := by
  refine MR.start RX3 (by decide) rfl (Nat.le_of_ble_eq_true rfl) (fun zp ze zs zm zb zt zc ls C hr hlk hR hS hl => ?_)
  have hl : lv_has ls 2 [(0, .ref b), (1, .int x)] := hl
  refine lv_iload_n C.1 C.2.1 dX3_isStation_0 rfl (lv_at hl 1 rfl) ?_
  refine lv_if_lt (tgt := 16) C.1 C.2.1 dX3_isStation_1 (by decide) (fun c1 => ?_) (fun c1 => ?_)
  · skip
    refine lv_iconst (v := nI 0) C.1 C.2.1 dX3_isStation_16 (by decide) ?_
    have hv : r_X3_isStation S N x = nI 0 := (if_pos c1).trans (rfl)
    rw [hv]
    exact endz C hr hlk (Or.inl rfl) hR hS dX3_isStation_17
  · skip
    refine lv_iload_n C.1 C.2.1 dX3_isStation_4 rfl (lv_at hl 1 rfl) ?_
    refine lv_aload_n C.1 C.2.1 dX3_isStation_5 rfl (lv_at hl 0 rfl) ?_
    refine xO_get C hR 0 (by decide) rfl fl_X3_9 (v := .int (nI N)) rfl dX3_isStation_6 ?_
    refine lv_icmp_ge (tgt := 16) C.1 C.2.1 dX3_isStation_9 (by decide) (fun c9 => ?_) (fun c9 => ?_)
    · skip
      refine lv_iconst (v := nI 0) C.1 C.2.1 dX3_isStation_16 (by decide) ?_
      have hv : r_X3_isStation S N x = nI 0 := (if_neg c1).trans ((if_pos c9).trans (rfl))
      rw [hv]
      exact endz C hr hlk (Or.inl rfl) hR hS dX3_isStation_17
    · skip
      refine lv_iconst (v := nI 1) C.1 C.2.1 dX3_isStation_12 (by decide) ?_
      refine lv_goto (tgt := 17) C.1 C.2.1 dX3_isStation_13 (by decide) ?_
      have hv : r_X3_isStation S N x = nI 1 := (if_neg c1).trans ((if_neg c9).trans (rfl))
      rw [hv]
      exact endz C hr hlk (Or.inr rfl) hR hS dX3_isStation_17

def s_X3_leave (S : SX) (f p L : Nat) : SX := if p = L - 1 then (if S 22 f = 0 then (up2 (up2 S 26 f (nI L)) 25 f (nI 0)) else (up2 (up2 S 26 f (nI 1)) 25 f (nI 0))) else (up2 (up2 S 26 f (nI 1)) 25 f (nI (p + 1)))
set_option maxHeartbeats 4000000 in
set_option maxRecDepth 100000 in
theorem k_X3_leave (l : Launch) (g : GX) (b N : Nat) (S : SX) (Fl : FX) (hN : N ≤ 6) (f p L : Nat) (hf : f < N) (hp : p < N) (hL : L ≤ N) (hL1 : 1 ≤ L) (h25 : S 25 f = nI p) (h21 : S 21 f = nI L)  : MR l yX3_leave (.code yX3_leave cX3_leave 3 none :: tb) (rmk 0 0) g (RepX g b N S Fl) (RepX g b N (s_X3_leave S f p L) Fl) (AX b N) [.ref b, .ref (aRg b f)] none := by
  refine MR.start RX3 (by decide) rfl (Nat.le_of_ble_eq_true rfl) (fun zp ze zs zm zb zt zc ls C hr hlk hR hS hl => ?_)
  have hl : lv_has ls 3 [(0, .ref b), (1, .ref (aRg b f))] := hl
  refine lv_aload_n C.1 C.2.1 dX3_leave_0 rfl (lv_at hl 1 rfl) ?_
  refine xR_get (j := f) C hR (by omega) 5 (by decide) rfl fl_X3_84 (v := .int (S 25 f)) rfl dX3_leave_1 ?_
  refine lv_re (y := nI p) (by rw [h25]) ?_
  refine lv_aload_n C.1 C.2.1 dX3_leave_4 rfl (lv_at hl 1 rfl) ?_
  refine xR_get (j := f) C hR (by omega) 1 (by decide) rfl fl_X3_153 (v := .int (S 21 f)) rfl dX3_leave_5 ?_
  refine lv_re (y := nI L) (by rw [h21]) ?_
  refine lv_iconst (v := nI 1) C.1 C.2.1 dX3_leave_8 (by decide) ?_
  refine n_isub C (by omega) dX3_leave_9 ?_
  refine lv_icmp_ne (tgt := 17) C.1 C.2.1 dX3_leave_10 (by decide) (fun c10 => ?_) (fun c10 => ?_)
  · skip
    have c10 : ¬ (p = L - 1) := mt (nI_eq (a := p) (b := L - 1) (by omega) (by omega)).mpr c10
    refine lv_iconst (v := nI 0) C.1 C.2.1 dX3_leave_17 (by decide) ?_
    refine lv_istore_n (lv' := [(2, .int (nI 0)), (0, .ref b), (1, .ref (aRg b f))]) C.1 C.2.1 dX3_leave_18 rfl hl (by decide) rfl (fun ls hl => ?_)
    refine lv_aload_n C.1 C.2.1 dX3_leave_19 rfl (lv_at hl 2 rfl) ?_
    refine lv_iload_n C.1 C.2.1 dX3_leave_20 rfl (lv_at hl 0 rfl) ?_
    refine lv_if_eq (tgt := 38) C.1 C.2.1 dX3_leave_21 (by decide) (fun c21 => ?_) (fun c21 => ?_)
    · skip
      refine lv_iconst (v := nI 1) C.1 C.2.1 dX3_leave_38 (by decide) ?_
      refine xR_put (j := f) C hR hS (by omega) 6 (by decide) rfl rfl fl_X3_81 rfl rfl rgS_6 dX3_leave_39 (fun S1 H locs eS1 hR hS => ?_)
      refine lv_aload_n C.1 C.2.1 dX3_leave_42 rfl (lv_at hl 2 rfl) ?_
      refine lv_iload_n C.1 C.2.1 dX3_leave_43 rfl (lv_at hl 0 rfl) ?_
      refine lv_if_eq (tgt := 51) C.1 C.2.1 dX3_leave_44 (by decide) (fun c44 => ?_) (fun c44 => ?_)
      · skip
        refine lv_aload_n C.1 C.2.1 dX3_leave_51 rfl (lv_at hl 2 rfl) ?_
        refine xR_get (j := f) C hR (by omega) 5 (by decide) rfl fl_X3_84 (v := .int (S1 25 f)) rfl dX3_leave_52 ?_
        refine lv_re (y := nI p) (by rw [eS1, up2_f (by decide), h25]) ?_
        refine lv_iconst (v := nI 1) C.1 C.2.1 dX3_leave_55 (by decide) ?_
        refine n_iadd (z := p + 1) C dX3_leave_56 (by omega) ?_
        refine xR_put (j := f) C hR hS (by omega) 5 (by decide) rfl rfl fl_X3_84 rfl rfl rgS_5 dX3_leave_57 (fun S2 H locs eS2 hR hS => ?_)
        have hs : s_X3_leave S f p L = S2 := (if_neg c10).trans (by rw [eS2, eS1])
        rw [hs]
        exact endv C hr hlk hR hS dX3_leave_60
      · skip
        exact absurd c44 (by decide)
    · skip
      exact absurd c21 (by decide)
  · skip
    have c10 : p = L - 1 := (nI_eq (a := p) (b := L - 1) (by omega) (by omega)).mp c10
    refine lv_iconst (v := nI 1) C.1 C.2.1 dX3_leave_13 (by decide) ?_
    refine lv_goto (tgt := 18) C.1 C.2.1 dX3_leave_14 (by decide) ?_
    refine lv_istore_n (lv' := [(2, .int (nI 1)), (0, .ref b), (1, .ref (aRg b f))]) C.1 C.2.1 dX3_leave_18 rfl hl (by decide) rfl (fun ls hl => ?_)
    refine lv_aload_n C.1 C.2.1 dX3_leave_19 rfl (lv_at hl 2 rfl) ?_
    refine lv_iload_n C.1 C.2.1 dX3_leave_20 rfl (lv_at hl 0 rfl) ?_
    refine lv_if_eq (tgt := 38) C.1 C.2.1 dX3_leave_21 (by decide) (fun c21 => ?_) (fun c21 => ?_)
    · skip
      exact absurd c21 (by decide)
    · skip
      refine lv_aload_n C.1 C.2.1 dX3_leave_24 rfl (lv_at hl 2 rfl) ?_
      refine xR_get (j := f) C hR (by omega) 2 (by decide) rfl fl_X3_156 (v := .int (S 22 f)) rfl dX3_leave_25 ?_
      refine lv_if_ne (tgt := 38) C.1 C.2.1 dX3_leave_28 (by decide) (fun c28 => ?_) (fun c28 => ?_)
      · skip
        refine lv_iconst (v := nI 1) C.1 C.2.1 dX3_leave_38 (by decide) ?_
        refine xR_put (j := f) C hR hS (by omega) 6 (by decide) rfl rfl fl_X3_81 rfl rfl rgS_6 dX3_leave_39 (fun S3 H locs eS3 hR hS => ?_)
        refine lv_aload_n C.1 C.2.1 dX3_leave_42 rfl (lv_at hl 2 rfl) ?_
        refine lv_iload_n C.1 C.2.1 dX3_leave_43 rfl (lv_at hl 0 rfl) ?_
        refine lv_if_eq (tgt := 51) C.1 C.2.1 dX3_leave_44 (by decide) (fun c44 => ?_) (fun c44 => ?_)
        · skip
          exact absurd c44 (by decide)
        · skip
          refine lv_iconst (v := nI 0) C.1 C.2.1 dX3_leave_47 (by decide) ?_
          refine lv_goto (tgt := 57) C.1 C.2.1 dX3_leave_48 (by decide) ?_
          refine xR_put (j := f) C hR hS (by omega) 5 (by decide) rfl rfl fl_X3_84 rfl rfl rgS_5 dX3_leave_57 (fun S4 H locs eS4 hR hS => ?_)
          have hs : s_X3_leave S f p L = S4 := (if_pos c10).trans ((if_neg c28).trans (by rw [eS4, eS3]))
          rw [hs]
          exact endv C hr hlk hR hS dX3_leave_60
      · skip
        refine lv_aload_n C.1 C.2.1 dX3_leave_31 rfl (lv_at hl 2 rfl) ?_
        refine xR_get (j := f) C hR (by omega) 1 (by decide) rfl fl_X3_153 (v := .int (S 21 f)) rfl dX3_leave_32 ?_
        refine lv_re (y := nI L) (by rw [h21]) ?_
        refine lv_goto (tgt := 39) C.1 C.2.1 dX3_leave_35 (by decide) ?_
        refine xR_put (j := f) C hR hS (by omega) 6 (by decide) rfl rfl fl_X3_81 rfl rfl rgS_6 dX3_leave_39 (fun S5 H locs eS5 hR hS => ?_)
        refine lv_aload_n C.1 C.2.1 dX3_leave_42 rfl (lv_at hl 2 rfl) ?_
        refine lv_iload_n C.1 C.2.1 dX3_leave_43 rfl (lv_at hl 0 rfl) ?_
        refine lv_if_eq (tgt := 51) C.1 C.2.1 dX3_leave_44 (by decide) (fun c44 => ?_) (fun c44 => ?_)
        · skip
          exact absurd c44 (by decide)
        · skip
          refine lv_iconst (v := nI 0) C.1 C.2.1 dX3_leave_47 (by decide) ?_
          refine lv_goto (tgt := 57) C.1 C.2.1 dX3_leave_48 (by decide) ?_
          refine xR_put (j := f) C hR hS (by omega) 5 (by decide) rfl rfl fl_X3_84 rfl rfl rgS_5 dX3_leave_57 (fun S6 H locs eS6 hR hS => ?_)
          have hs : s_X3_leave S f p L = S6 := (if_pos c10).trans ((if_pos c28).trans (by rw [eS6, eS5]))
          rw [hs]
          exact endv C hr hlk hR hS dX3_leave_60

set_option maxHeartbeats 4000000 in
set_option maxRecDepth 100000 in
theorem k_X3_longest (l : Launch) (g : GX) (b N : Nat) (S : SX) (Fl : FX) (hN : N ≤ 6)   : MR l yX3_longest (.code yX3_longest cX3_longest 1 (some .int) :: tb) (rmk 0 0) g (RepX g b N S Fl) (RepX g b N S Fl) (AX b N) [.ref b] (some (.int (S 46 0))) := by
  refine MR.start RX3 (by decide) rfl (Nat.le_of_ble_eq_true rfl) (fun zp ze zs zm zb zt zc ls C hr hlk hR hS hl => ?_)
  have hl : lv_has ls 1 [(0, .ref b)] := hl
  refine lv_aload_n C.1 C.2.1 dX3_longest_0 rfl (lv_at hl 0 rfl) ?_
  refine xO_get C hR 5 (by decide) rfl fl_X3_141 (v := .int (S 46 0)) rfl dX3_longest_1 ?_
  skip
  exact endi C hr hlk hR hS dX3_longest_4
end
section
def shf (S : SX) (q i : Nat) : SX := fun f k => if (42 ≤ f ∧ f ≤ 44) ∧ 5 * q ≤ k ∧ k < 5 * q + i then S f (k + 1) else S f k
theorem shf_0 (S : SX) (q : Nat) : shf S q 0 = S := by
  funext f k
  simp only [shf]
  rw [if_neg (by omega)]
theorem shf_hi {S : SX} {q i f k : Nat} (h : 5 * q + i ≤ k) : shf S q i f k = S f k := by
  simp only [shf]
  rw [if_neg (by omega)]
theorem shf_o {S : SX} {q i f k : Nat} (h : f < 42 ∨ 44 < f) : shf S q i f k = S f k := by
  simp only [shf]
  rw [if_neg (by omega)]
theorem shf_step (S : SX) (q i : Nat) : shf S q (i + 1) = up2 (up2 (up2 (shf S q i) 42 (5 * q + i) (shf S q i 42 (5 * q + i + 1))) 43 (5 * q + i) (shf S q i 43 (5 * q + i + 1))) 44 (5 * q + i) (shf S q i 44 (5 * q + i + 1)) := by
  have e2 : ∀ f, shf S q i f (5 * q + i + 1) = S f (5 * q + i + 1) := fun f => shf_hi (by omega)
  funext f k
  rw [e2, e2, e2]
  by_cases hk : k = 5 * q + i
  · subst hk
    by_cases h1 : f = 44
    · subst h1
      rw [up2_eq]
      exact if_pos (by omega)
    · rw [up2_f h1]
      by_cases h2 : f = 43
      · subst h2
        rw [up2_eq]
        exact if_pos (by omega)
      · rw [up2_f h2]
        by_cases h3 : f = 42
        · subst h3
          rw [up2_eq]
          exact if_pos (by omega)
        · rw [up2_f h3, shf_o (by omega), shf_o (by omega)]
  · rw [up2_i hk, up2_i hk, up2_i hk]
    by_cases h : (42 ≤ f ∧ f ≤ 44) ∧ 5 * q ≤ k ∧ k < 5 * q + i
    · exact (if_pos (by omega)).trans (if_pos h).symm
    · exact (if_neg (by omega)).trans (if_neg h).symm
def s_rem (S : SX) (q z : Nat) : SX := if z = 0 then S else shf (up2 S 41 q (nI (z - 1))) q (z - 1)
theorem s_rem_o {S : SX} {q z f k : Nat} (h : f < 41 ∨ 44 < f) : s_rem S q z f k = S f k := by
  unfold s_rem
  split
  · rfl
  · rw [shf_o (by omega), up2_f (by omega)]
set_option maxHeartbeats 4000000 in
set_option maxRecDepth 100000 in
theorem k_X0_removeFirst (l : Launch) (g : GX) (b N : Nat) (S : SX) (Fl : FX) (hN : N ≤ 6) (q z : Nat) (hq : q < 2 * N) (hz : z ≤ 5) (h41 : S 41 q = nI z) : MR l yX0_removeFirst (.code yX0_removeFirst cX0_removeFirst 2 none :: tb) (rmk 0 0) g (RepX g b N S Fl) (RepX g b N (s_rem S q z) Fl) (AX b N) [.ref (aQ b q)] none := by
  refine MR.start RX0 (by decide) rfl (Nat.le_of_ble_eq_true rfl) (fun zp ze zs zm zb zt zc ls C hr hlk hR hS hl => ?_)
  have hl : lv_has ls 2 [(0, .ref (aQ b q))] := hl
  refine lv_aload_n C.1 C.2.1 dX0_removeFirst_0 rfl (lv_at hl 0 rfl) ?_
  refine xQ_get (q := q) C hR (by omega) 3 (by decide) rfl fl_X0_21 (v := .int (S 41 q)) rfl dX0_removeFirst_1 ?_
  refine lv_re (y := nI z) (by rw [h41]) ?_
  refine lv_if_ne (tgt := 8) C.1 C.2.1 dX0_removeFirst_4 (by decide) (fun c4 => ?_) (fun c4 => ?_)
  · skip
    have c4 : ¬ (z = 0) := mt (nI_eq (a := z) (b := 0) (by omega) (by omega)).mpr c4
    refine lv_aload_n C.1 C.2.1 dX0_removeFirst_8 rfl (lv_at hl 0 rfl) ?_
    refine lv_dup C.1 C.2.1 dX0_removeFirst_9 rfl ?_
    refine xQ_get (q := q) C hR (by omega) 3 (by decide) rfl fl_X0_21 (v := .int (S 41 q)) rfl dX0_removeFirst_10 ?_
    refine lv_re (y := nI z) (by rw [h41]) ?_
    refine lv_iconst (v := nI 1) C.1 C.2.1 dX0_removeFirst_13 (by decide) ?_
    refine n_isub C (by omega) dX0_removeFirst_14 ?_
    refine xQ_put (q := q) C hR hS (by omega) fl_X0_21 dX0_removeFirst_15 (fun S1 H locs eS1 hR hS => ?_)
    refine lv_iconst (v := nI 0) C.1 C.2.1 dX0_removeFirst_18 (by decide) ?_
    refine lv_istore_n (lv' := [(1, .int (nI 0)), (0, .ref (aQ b q))]) C.1 C.2.1 dX0_removeFirst_19 rfl hl (by decide) rfl (fun ls hl => ?_)
    have h0 : shf (up2 S 41 q (nI (z - 1))) q 0 = S1 := by rw [shf_0, eS1]
    rw [← h0] at hR
    have lp : ∀ (n : Nat) (i : Nat) (H : Heap) (locs : List Loc) (ls : Array Slot), z - 1 - i < n → i ≤ z - 1 → RepX g b N (shf (up2 S 41 q (nI (z - 1))) q i) Fl H → va_S (AX b N) zs.heap H locs → lv_has ls 2 [(1, .int (nI i)), (0, .ref (aQ b q))] → W zp l ze (rmk 0 0) zs zm ([.ref (aQ b q)] : List Value).toArray zb zt zc H locs 0 0 (MQ zb (QR (RepX g b N (s_rem S q z) Fl) (AX b N) none) ([.ref (aQ b q)] : List Value).toArray zs 0 0 (AX b N)) (F0 zm 20 ls []) := by
      intro n
      induction n with
      | zero => intro i H locs ls hm; exact absurd hm (Nat.not_lt_zero _)
      | succ n ih =>
        intro i H locs ls hm hi hR hS hl
        obtain ⟨S2, eS2⟩ : ∃ y, y = shf (up2 S 41 q (nI (z - 1))) q i := ⟨_, rfl⟩
        rw [← eS2] at hR
        have hs41 : S2 41 q = nI (z - 1) := by rw [eS2, shf_o (by omega), up2_eq]
        refine lv_iload_n C.1 C.2.1 dX0_removeFirst_20 rfl (lv_at hl 0 rfl) ?_
        refine lv_aload_n C.1 C.2.1 dX0_removeFirst_21 rfl (lv_at hl 1 rfl) ?_
        refine xQ_get (q := q) C hR (by omega) 3 (by decide) rfl fl_X0_21 (v := .int (S2 41 q)) rfl dX0_removeFirst_22 ?_
        refine lv_re (y := nI (z - 1)) (by rw [hs41]) ?_
        refine lv_icmp_ge (tgt := 76) C.1 C.2.1 dX0_removeFirst_25 (by decide) (fun c25 => ?_) (fun c25 => ?_)
        · skip
          have c25 : z - 1 ≤ i := (nI_leI (a := z - 1) (b := i) (by omega) (by omega)).mp c25
          have hi2 : i = z - 1 := by omega
          have hs : s_rem S q z = S2 := (if_neg c4).trans (by rw [eS2, hi2])
          rw [hs]
          exact endv C hr hlk hR hS dX0_removeFirst_76
        · skip
          have c25 : ¬ (z - 1 ≤ i) := mt (nI_leI (a := z - 1) (b := i) (by omega) (by omega)).mpr c25
          refine lv_aload_n C.1 C.2.1 dX0_removeFirst_28 rfl (lv_at hl 1 rfl) ?_
          refine xQ_get (q := q) C hR (by omega) 0 (by decide) rfl fl_X0_9 (v := .ref (aQA b q 0)) rfl dX0_removeFirst_29 ?_
          refine lv_iload_n C.1 C.2.1 dX0_removeFirst_32 rfl (lv_at hl 0 rfl) ?_
          refine lv_aload_n C.1 C.2.1 dX0_removeFirst_33 rfl (lv_at hl 1 rfl) ?_
          refine xQ_get (q := q) C hR (by omega) 0 (by decide) rfl fl_X0_9 (v := .ref (aQA b q 0)) rfl dX0_removeFirst_34 ?_
          refine lv_iload_n C.1 C.2.1 dX0_removeFirst_37 rfl (lv_at hl 0 rfl) ?_
          refine lv_iconst (v := nI 1) C.1 C.2.1 dX0_removeFirst_38 (by decide) ?_
          refine n_iadd (z := i + 1) C dX0_removeFirst_39 (by omega) ?_
          refine xA_ld (q := q) (i := 0) (k := i + 1) C hR (by omega) (by decide) (by omega) (v := S2 42 (5 * q + i + 1)) rfl dX0_removeFirst_40 ?_
          refine xA_st (q := q) (i := 0) (k := i) C hR hS (by omega) (by decide) (by omega) dX0_removeFirst_41 (fun S3 H locs eS3 hR hS => ?_)
          refine lv_aload_n C.1 C.2.1 dX0_removeFirst_42 rfl (lv_at hl 1 rfl) ?_
          refine xQ_get (q := q) C hR (by omega) 1 (by decide) rfl fl_X0_15 (v := .ref (aQA b q 1)) rfl dX0_removeFirst_43 ?_
          refine lv_iload_n C.1 C.2.1 dX0_removeFirst_46 rfl (lv_at hl 0 rfl) ?_
          refine lv_aload_n C.1 C.2.1 dX0_removeFirst_47 rfl (lv_at hl 1 rfl) ?_
          refine xQ_get (q := q) C hR (by omega) 1 (by decide) rfl fl_X0_15 (v := .ref (aQA b q 1)) rfl dX0_removeFirst_48 ?_
          refine lv_iload_n C.1 C.2.1 dX0_removeFirst_51 rfl (lv_at hl 0 rfl) ?_
          refine lv_iconst (v := nI 1) C.1 C.2.1 dX0_removeFirst_52 (by decide) ?_
          refine n_iadd (z := i + 1) C dX0_removeFirst_53 (by omega) ?_
          refine xA_ld (q := q) (i := 1) (k := i + 1) C hR (by omega) (by decide) (by omega) (v := S3 43 (5 * q + i + 1)) rfl dX0_removeFirst_54 ?_
          refine lv_re (y := S2 43 (5 * q + i + 1)) (by rw [eS3, up2_f (by decide)]) ?_
          refine xA_st (q := q) (i := 1) (k := i) C hR hS (by omega) (by decide) (by omega) dX0_removeFirst_55 (fun S4 H locs eS4 hR hS => ?_)
          refine lv_aload_n C.1 C.2.1 dX0_removeFirst_56 rfl (lv_at hl 1 rfl) ?_
          refine xQ_get (q := q) C hR (by omega) 2 (by decide) rfl fl_X0_18 (v := .ref (aQA b q 2)) rfl dX0_removeFirst_57 ?_
          refine lv_iload_n C.1 C.2.1 dX0_removeFirst_60 rfl (lv_at hl 0 rfl) ?_
          refine lv_aload_n C.1 C.2.1 dX0_removeFirst_61 rfl (lv_at hl 1 rfl) ?_
          refine xQ_get (q := q) C hR (by omega) 2 (by decide) rfl fl_X0_18 (v := .ref (aQA b q 2)) rfl dX0_removeFirst_62 ?_
          refine lv_iload_n C.1 C.2.1 dX0_removeFirst_65 rfl (lv_at hl 0 rfl) ?_
          refine lv_iconst (v := nI 1) C.1 C.2.1 dX0_removeFirst_66 (by decide) ?_
          refine n_iadd (z := i + 1) C dX0_removeFirst_67 (by omega) ?_
          refine xA_ld (q := q) (i := 2) (k := i + 1) C hR (by omega) (by decide) (by omega) (v := S4 44 (5 * q + i + 1)) rfl dX0_removeFirst_68 ?_
          refine lv_re (y := S2 44 (5 * q + i + 1)) (by rw [eS4, up2_f (by decide), eS3, up2_f (by decide)]) ?_
          refine xA_st (q := q) (i := 2) (k := i) C hR hS (by omega) (by decide) (by omega) dX0_removeFirst_69 (fun S5 H locs eS5 hR hS => ?_)
          refine lv_iinc (v := nI (i + 1)) (lv' := [(1, .int (nI (i + 1))), (0, .ref (aQ b q))]) C.1 C.2.1 dX0_removeFirst_70 hl (k := 0) rfl (nI_add _ _) (by decide) rfl (fun ls hl => ?_)
          refine lv_goto (tgt := 20) C.1 C.2.1 dX0_removeFirst_73 (by decide) ?_
          have hb : shf (up2 S 41 q (nI (z - 1))) q (i + 1) = S5 := by rw [eS5, eS4, eS3, eS2, shf_step]
          rw [← hb] at hR
          exact ih (i + 1) H locs ls (by omega) (by omega) hR hS (lv_sub hl [0, 1] rfl)
    exact lp _ 0 _ _ ls (Nat.lt_succ_self _) (by omega) hR hS (lv_sub hl [0, 1] rfl)
  · skip
    have c4 : z = 0 := (nI_eq (a := z) (b := 0) (by omega) (by omega)).mp c4
    have hs : s_rem S q z = S := if_pos c4
    rw [hs]
    exact endv C hr hlk hR hS dX0_removeFirst_7

def jn (N : Nat) (S : SX) (j : Nat) : Bool := !(S 2 j == 0) && (!(S 40 j == 0) && !(S 2 (nx N j) == 0))
def bI (x : Bool) : Int32 := if x = true then nI 1 else nI 0
theorem bI_01 (x : Bool) : bI x = 0 ∨ bI x = 1 := by cases x <;> decide
theorem bI_0 {x : Bool} : bI x = 0 ↔ x = false := by cases x <;> decide
theorem bI_n0 {x : Bool} : ¬ bI x = 0 ↔ x = true := by cases x <;> decide
theorem kn_isJoined (l : Launch) (g : GX) (b N : Nat) (S : SX) (Fl : FX) (hN : N ≤ 6) (j : Nat) (hj : j < N) : MR l yX3_isJoinedToNext (.code yX3_isJoinedToNext cX3_isJoinedToNext 2 (some .boolean) :: tb) (rmk 1 21) g (RepX g b N S Fl) (RepX g b N S Fl) (AX b N) [.ref b, .int (nI j)] (some (.int (bI (jn N S j)))) := by
  have h : r_X3_isJoinedToNext S N j = bI (jn N S j) := by
    unfold r_X3_isJoinedToNext jn bI
    by_cases h1 : S 2 j = 0 <;> by_cases h2 : S 40 j = 0 <;> by_cases h3 : S 2 (nx N j) = 0 <;> simp [h1, h2, h3]
  rw [← h]
  exact k_X3_isJoinedToNext l g b N S Fl hN j hj
def allj (N : Nat) (S : SX) : Nat → Bool
  | 0 => true
  | i + 1 => allj N S i && jn N S i
theorem allj_f {N : Nat} {S : SX} {i n : Nat} (h : i < n) (hj : jn N S i = false) : allj N S n = false := by
  induction n with
  | zero => omega
  | succ n ih =>
    simp only [allj]
    by_cases hi : i = n
    · subst hi; simp [hj]
    · rw [ih (by omega)]; rfl
set_option maxHeartbeats 4000000 in
set_option maxRecDepth 100000 in
theorem k_X3_isUnbroken (l : Launch) (g : GX) (b N : Nat) (S : SX) (Fl : FX) (hN : N ≤ 6)  : MR l yX3_isUnbroken (.code yX3_isUnbroken cX3_isUnbroken 2 (some .boolean) :: tb) (rmk 2 42) g (RepX g b N S Fl) (RepX g b N S Fl) (AX b N) [.ref b] (some (.int (bI (allj N S N)))) := by
  refine MR.start RX3 (by decide) rfl (Nat.le_of_ble_eq_true rfl) (fun zp ze zs zm zb zt zc ls C hr hlk hR hS hl => ?_)
  have hl : lv_has ls 2 [(0, .ref b)] := hl
  refine lv_iconst (v := nI 0) C.1 C.2.1 dX3_isUnbroken_0 (by decide) ?_
  refine lv_istore_n (lv' := [(1, .int (nI 0)), (0, .ref b)]) C.1 C.2.1 dX3_isUnbroken_1 rfl hl (by decide) rfl (fun ls hl => ?_)
  have lp : ∀ (n : Nat) (i : Nat) (H : Heap) (locs : List Loc) (ls : Array Slot), N - i < n → i ≤ N → allj N S i = true → RepX g b N S Fl H → va_S (AX b N) zs.heap H locs → lv_has ls 2 [(1, .int (nI i)), (0, .ref b)] → W zp l ze (rmk 2 42) zs zm ([.ref b] : List Value).toArray zb zt zc H locs 0 0 (MQ zb (QR (RepX g b N S Fl) (AX b N) (some (.int (bI (allj N S N))))) ([.ref b] : List Value).toArray zs 0 0 (AX b N)) (F0 zm 2 ls []) := by
    intro n
    induction n with
    | zero => intro i H locs ls hm; exact absurd hm (Nat.not_lt_zero _)
    | succ n ih =>
      intro i H locs ls hm hi ha hR hS hl
      refine lv_iload_n C.1 C.2.1 dX3_isUnbroken_2 rfl (lv_at hl 0 rfl) ?_
      refine lv_aload_n C.1 C.2.1 dX3_isUnbroken_3 rfl (lv_at hl 1 rfl) ?_
      refine xO_get C hR 0 (by decide) rfl fl_X3_9 (v := .int (nI N)) rfl dX3_isUnbroken_4 ?_
      refine lv_icmp_ge (tgt := 26) C.1 C.2.1 dX3_isUnbroken_7 (by decide) (fun c7 => ?_) (fun c7 => ?_)
      · skip
        have c7 : N ≤ i := (nI_leI (a := N) (b := i) (by omega) (by omega)).mp c7
        refine lv_iconst (v := nI 1) C.1 C.2.1 dX3_isUnbroken_26 (by decide) ?_
        have hi2 : i = N := by omega
        subst hi2
        have hv : bI (allj i S i) = nI 1 := by rw [ha]; rfl
        rw [hv]
        exact endz C hr hlk (Or.inr rfl) hR hS dX3_isUnbroken_27
      · skip
        have c7 : ¬ (N ≤ i) := mt (nI_leI (a := N) (b := i) (by omega) (by omega)).mpr c7
        refine lv_aload_n C.1 C.2.1 dX3_isUnbroken_10 rfl (lv_at hl 1 rfl) ?_
        refine lv_iload_n C.1 C.2.1 dX3_isUnbroken_11 rfl (lv_at hl 0 rfl) ?_
        refine cxV (b := b) (As := [.int (nI i)]) (rest := []) (ci := 3) (q := (RX3, TX3, 6)) C (kn_isJoined l g b N S Fl hN (i) (by omega)) cf_X3_isJoinedToNext ml_X3_163 ⟨by decide, by decide⟩ ⟨rfl, rfl⟩ rfl (hR.1) rfl hl.1 rfl (Nat.le_of_ble_eq_true rfl) dX3_isUnbroken_12 hR ⟨Nat.zero_le _, Nat.zero_le _⟩ hS (fun _ h => h) (fun H locs hR hS _ _ => ?_)
        simp only [Option.toList, List.cons_append, List.nil_append]
        refine lv_if_ne (tgt := 20) C.1 C.2.1 dX3_isUnbroken_15 (by decide) (fun c15 => ?_) (fun c15 => ?_)
        · skip
          refine lv_iinc (v := nI (i + 1)) (lv' := [(1, .int (nI (i + 1))), (0, .ref b)]) C.1 C.2.1 dX3_isUnbroken_20 hl (k := 0) rfl (nI_add _ _) (by decide) rfl (fun ls hl => ?_)
          refine lv_goto (tgt := 2) C.1 C.2.1 dX3_isUnbroken_23 (by decide) ?_
          exact ih (i + 1) H locs ls (by omega) (by omega) (by simp only [allj, ha, Bool.true_and]; exact bI_n0.mp c15) hR hS (lv_sub hl [0, 1] rfl)
        · skip
          refine lv_iconst (v := nI 0) C.1 C.2.1 dX3_isUnbroken_18 (by decide) ?_
          have hv : bI (allj N S N) = nI 0 := by rw [allj_f (show i < N by omega) (bI_0.mp c15)]; rfl
          rw [hv]
          exact endz C hr hlk (Or.inl rfl) hR hS dX3_isUnbroken_19
  exact lp _ 0 _ _ ls (Nat.lt_succ_self _) (by omega) rfl hR hS (lv_sub hl [0, 1] rfl)

def rowN (N : Nat) (S : SX) : Nat → Nat → Nat → Nat
  | 0, L, _ => L
  | n + 1, L, x => if L < N ∧ jn N S x = true then rowN N S n (L + 1) (nx N x) else L
def rowL (N : Nat) (S : SX) (f : Nat) : Nat := if S 2 f = 0 then 0 else if jn N S (pv N f) = true then 0 else rowN N S 6 1 f
theorem rowN_le {N : Nat} {S : SX} : ∀ (n L x : Nat), L ≤ N → rowN N S n L x ≤ N ∧ L ≤ rowN N S n L x := by
  intro n
  induction n with
  | zero => intro L x h; exact ⟨h, Nat.le_refl _⟩
  | succ n ih =>
    intro L x h
    simp only [rowN]
    split
    · next hc => have := ih (L + 1) (nx N x) (by omega); omega
    · omega
theorem rowN_stop {N : Nat} {S : SX} {k L x : Nat} (h : ¬ (L < N ∧ jn N S x = true)) : rowN N S k L x = L := by
  cases k with
  | zero => rfl
  | succ k => exact if_neg h
theorem rowL_le {N : Nat} {S : SX} {f : Nat} (h : 1 ≤ N) : rowL N S f ≤ N := by
  unfold rowL
  split
  · omega
  · split
    · omega
    · exact (rowN_le 6 1 f h).1
set_option maxHeartbeats 4000000 in
set_option maxRecDepth 100000 in
theorem k_X3_rowLength (l : Launch) (g : GX) (b N : Nat) (S : SX) (Fl : FX) (hN : N ≤ 6) (f : Nat) (hf : f < N) : MR l yX3_rowLength (.code yX3_rowLength cX3_rowLength 4 (some .int) :: tb) (rmk 2 42) g (RepX g b N S Fl) (RepX g b N S Fl) (AX b N) [.ref b, .int (nI f)] (some (.int (nI (rowL N S f)))) := by
  refine MR.start RX3 (by decide) rfl (Nat.le_of_ble_eq_true rfl) (fun zp ze zs zm zb zt zc ls C hr hlk hR hS hl => ?_)
  have hl : lv_has ls 4 [(0, .ref b), (1, .int (nI f))] := hl
  refine lv_aload_n C.1 C.2.1 dX3_rowLength_0 rfl (lv_at hl 0 rfl) ?_
  refine xO_get C hR 1 (by decide) rfl fl_X3_15 (v := .ref (b + 1)) rfl dX3_rowLength_1 ?_
  refine lv_iload_n C.1 C.2.1 dX3_rowLength_4 rfl (lv_at hl 1 rfl) ?_
  refine xS_ald (j := f) C hR (by omega) hN dX3_rowLength_5 ?_
  refine xS_get (j := f) C hR (by omega) 2 (by decide) rfl fl_X3_56 (v := .int (S 2 f)) rfl dX3_rowLength_6 ?_
  refine lv_if_eq (tgt := 24) C.1 C.2.1 dX3_rowLength_9 (by decide) (fun c9 => ?_) (fun c9 => ?_)
  · skip
    refine lv_iconst (v := nI 0) C.1 C.2.1 dX3_rowLength_24 (by decide) ?_
    have hv : rowL N S f = 0 := if_pos c9
    rw [hv]
    exact endi C hr hlk hR hS dX3_rowLength_25
  · skip
    refine lv_aload_n C.1 C.2.1 dX3_rowLength_12 rfl (lv_at hl 0 rfl) ?_
    refine lv_aload_n C.1 C.2.1 dX3_rowLength_13 rfl (lv_at hl 0 rfl) ?_
    refine lv_iload_n C.1 C.2.1 dX3_rowLength_14 rfl (lv_at hl 1 rfl) ?_
    refine cxV (b := b) (As := [.int (nI f)]) (rest := [.ref b]) (ci := 3) (q := (RX3, TX3, 6)) C (kn_numberBefore l g b N S Fl hN (f) (by omega)) cf_X3_numberBefore ml_X3_169 ⟨by decide, by decide⟩ ⟨rfl, rfl⟩ rfl (hR.1) rfl hl.1 rfl (Nat.le_of_ble_eq_true rfl) dX3_rowLength_15 hR ⟨Nat.zero_le _, Nat.zero_le _⟩ hS (fun _ h => h) (fun H locs hR hS _ _ => ?_)
    simp only [Option.toList, List.cons_append, List.nil_append]
    have hw14 := pv_lt (N := N) (j := f) (by omega)
    refine cxV (b := b) (As := [.int (nI (pv N f))]) (rest := []) (ci := 3) (q := (RX3, TX3, 6)) C (kn_isJoined l g b N S Fl hN (pv N f) (by omega)) cf_X3_isJoinedToNext ml_X3_163 ⟨by decide, by decide⟩ ⟨rfl, rfl⟩ rfl (hR.1) rfl hl.1 rfl (Nat.le_of_ble_eq_true rfl) dX3_rowLength_18 hR ⟨Nat.zero_le _, Nat.zero_le _⟩ hS (fun _ h => h) (fun H locs hR hS _ _ => ?_)
    simp only [Option.toList, List.cons_append, List.nil_append]
    refine lv_if_eq (tgt := 26) C.1 C.2.1 dX3_rowLength_21 (by decide) (fun c21 => ?_) (fun c21 => ?_)
    · skip
      refine lv_iconst (v := nI 1) C.1 C.2.1 dX3_rowLength_26 (by decide) ?_
      refine lv_istore_n (lv' := [(2, .int (nI 1)), (0, .ref b), (1, .int (nI f))]) C.1 C.2.1 dX3_rowLength_27 rfl hl (by decide) rfl (fun ls hl => ?_)
      refine lv_iload_n C.1 C.2.1 dX3_rowLength_28 rfl (lv_at hl 2 rfl) ?_
      refine lv_istore_n (lv' := [(3, .int (nI f)), (2, .int (nI 1)), (0, .ref b), (1, .int (nI f))]) C.1 C.2.1 dX3_rowLength_29 rfl hl (by decide) rfl (fun ls hl => ?_)
      have lp : ∀ (n : Nat) (k : Nat) (L : Nat) (x : Nat) (H : Heap) (locs : List Loc) (ls : Array Slot), k < n → N ≤ L + k → 1 ≤ L → L ≤ N → x < N → rowL N S f = rowN N S k L x → RepX g b N S Fl H → va_S (AX b N) zs.heap H locs → lv_has ls 4 [(3, .int (nI x)), (2, .int (nI L)), (0, .ref b), (1, .int (nI f))] → W zp l ze (rmk 2 42) zs zm ([.ref b, .int (nI f)] : List Value).toArray zb zt zc H locs 0 0 (MQ zb (QR (RepX g b N S Fl) (AX b N) (some (.int (nI (rowL N S f))))) ([.ref b, .int (nI f)] : List Value).toArray zs 0 0 (AX b N)) (F0 zm 30 ls []) := by
        intro n
        induction n with
        | zero => intro k L x H locs ls hm; exact absurd hm (Nat.not_lt_zero _)
        | succ n ih =>
          intro k L x H locs ls hm hk hL hLN hxN hr2 hR hS hl
          refine lv_iload_n C.1 C.2.1 dX3_rowLength_30 rfl (lv_at hl 1 rfl) ?_
          refine lv_aload_n C.1 C.2.1 dX3_rowLength_31 rfl (lv_at hl 2 rfl) ?_
          refine xO_get C hR 0 (by decide) rfl fl_X3_9 (v := .int (nI N)) rfl dX3_rowLength_32 ?_
          refine lv_icmp_ge (tgt := 58) C.1 C.2.1 dX3_rowLength_35 (by decide) (fun c35 => ?_) (fun c35 => ?_)
          · skip
            have c35 : N ≤ L := (nI_leI (a := N) (b := L) (by omega) (by omega)).mp c35
            refine lv_iload_n C.1 C.2.1 dX3_rowLength_58 rfl (lv_at hl 1 rfl) ?_
            have hv : rowL N S f = L := hr2.trans (rowN_stop (fun h => by omega))
            rw [hv]
            exact endi C hr hlk hR hS dX3_rowLength_59
          · skip
            have c35 : ¬ (N ≤ L) := mt (nI_leI (a := N) (b := L) (by omega) (by omega)).mpr c35
            refine lv_aload_n C.1 C.2.1 dX3_rowLength_38 rfl (lv_at hl 2 rfl) ?_
            refine lv_iload_n C.1 C.2.1 dX3_rowLength_39 rfl (lv_at hl 0 rfl) ?_
            refine cxV (b := b) (As := [.int (nI x)]) (rest := []) (ci := 3) (q := (RX3, TX3, 6)) C (kn_isJoined l g b N S Fl hN (x) (by omega)) cf_X3_isJoinedToNext ml_X3_163 ⟨by decide, by decide⟩ ⟨rfl, rfl⟩ rfl (hR.1) rfl hl.1 rfl (Nat.le_of_ble_eq_true rfl) dX3_rowLength_40 hR ⟨Nat.zero_le _, Nat.zero_le _⟩ hS (fun _ h => h) (fun H locs hR hS _ _ => ?_)
            simp only [Option.toList, List.cons_append, List.nil_append]
            refine lv_if_eq (tgt := 58) C.1 C.2.1 dX3_rowLength_43 (by decide) (fun c43 => ?_) (fun c43 => ?_)
            · skip
              refine lv_iload_n C.1 C.2.1 dX3_rowLength_58 rfl (lv_at hl 1 rfl) ?_
              have hv : rowL N S f = L := hr2.trans (rowN_stop (fun h => by rw [bI_0.mp c43] at h; exact absurd h.2 (by decide)))
              rw [hv]
              exact endi C hr hlk hR hS dX3_rowLength_59
            · skip
              refine lv_aload_n C.1 C.2.1 dX3_rowLength_46 rfl (lv_at hl 2 rfl) ?_
              refine lv_iload_n C.1 C.2.1 dX3_rowLength_47 rfl (lv_at hl 0 rfl) ?_
              refine cxV (b := b) (As := [.int (nI x)]) (rest := []) (ci := 3) (q := (RX3, TX3, 6)) C (kn_numberAfter l g b N S Fl hN (x) (by omega)) cf_X3_numberAfter ml_X3_166 ⟨by decide, by decide⟩ ⟨rfl, rfl⟩ rfl (hR.1) rfl hl.1 rfl (Nat.le_of_ble_eq_true rfl) dX3_rowLength_48 hR ⟨Nat.zero_le _, Nat.zero_le _⟩ hS (fun _ h => h) (fun H locs hR hS _ _ => ?_)
              simp only [Option.toList, List.cons_append, List.nil_append]
              have hw54 := nx_lt (N := N) (j := x) (by omega)
              refine lv_istore_n (lv' := [(3, .int (nI (nx N x))), (2, .int (nI L)), (0, .ref b), (1, .int (nI f))]) C.1 C.2.1 dX3_rowLength_51 rfl hl (by decide) rfl (fun ls hl => ?_)
              refine lv_iinc (v := nI (L + 1)) (lv' := [(2, .int (nI (L + 1))), (3, .int (nI (nx N x))), (0, .ref b), (1, .int (nI f))]) C.1 C.2.1 dX3_rowLength_52 hl (k := 1) rfl (nI_add _ _) (by decide) rfl (fun ls hl => ?_)
              refine lv_goto (tgt := 30) C.1 C.2.1 dX3_rowLength_55 (by decide) ?_
              obtain ⟨k, rfl⟩ : ∃ k2, k = k2 + 1 := ⟨k - 1, by omega⟩
              have hb : rowN N S (k + 1) L x = rowN N S k (L + 1) (nx N x) := if_pos ⟨by omega, bI_n0.mp c43⟩
              exact ih k (L + 1) (nx N x) H locs ls (by omega) (by omega) (by omega) (by omega) (by omega) (hr2.trans hb) hR hS (lv_sub hl [1, 0, 2, 3] rfl)
      exact lp _ 6 1 f _ _ ls (Nat.lt_succ_self _) (by omega) (by omega) (by omega) (by omega) ((if_neg c9).trans (if_neg (fun h => absurd c21 (bI_n0.mpr h)))) hR hS (lv_sub hl [0, 1, 2, 3] rfl)
    · skip
      refine lv_iconst (v := nI 0) C.1 C.2.1 dX3_rowLength_24 (by decide) ?_
      have hv : rowL N S f = 0 := (if_neg c9).trans (if_pos (bI_n0.mp c21))
      rw [hv]
      exact endi C hr hlk hR hS dX3_rowLength_25

def s_X3_loseFrameBeingSent (S : SX) (N : Nat) (f p z : Nat) : SX := if S 27 f ≤ 0 then S else (up2 (up2 (s_rem S (qof (wr N (f + p)) (S 28 f)) z) 18 (wr N (f + p)) (S 18 (wr N (f + p)) + (nI 1))) 27 f (nI 0))
set_option maxHeartbeats 4000000 in
set_option maxRecDepth 100000 in
theorem k_X3_loseFrameBeingSent (l : Launch) (g : GX) (b N : Nat) (S : SX) (Fl : FX) (hN : N ≤ 6) (f p z : Nat) (hf : f < N) (hp : p < N) (hz : z ≤ 5) (h20 : S 20 f = nI f) (h25 : S 25 f = nI p) (h41 : S 41 (qof (wr N (f + p)) (S 28 f)) = nI z)  : MR l yX3_loseFrameBeingSent (.code yX3_loseFrameBeingSent cX3_loseFrameBeingSent 3 none :: tb) (rmk 2 45) g (RepX g b N S Fl) (RepX g b N (s_X3_loseFrameBeingSent S N f p z) Fl) (AX b N) [.ref b, .ref (aRg b f)] none := by
  refine MR.start RX3 (by decide) rfl (Nat.le_of_ble_eq_true rfl) (fun zp ze zs zm zb zt zc ls C hr hlk hR hS hl => ?_)
  have hl : lv_has ls 3 [(0, .ref b), (1, .ref (aRg b f))] := hl
  refine lv_aload_n C.1 C.2.1 dX3_loseFrameBeingSent_0 rfl (lv_at hl 1 rfl) ?_
  refine xR_get (j := f) C hR (by omega) 7 (by decide) rfl fl_X3_91 (v := .int (S 27 f)) rfl dX3_loseFrameBeingSent_1 ?_
  refine lv_if_le (tgt := 43) C.1 C.2.1 dX3_loseFrameBeingSent_4 (by decide) (fun c4 => ?_) (fun c4 => ?_)
  · skip
    have hs : s_X3_loseFrameBeingSent S N f p z = S := (if_pos c4).trans (rfl)
    rw [hs]
    exact endv C hr hlk hR hS dX3_loseFrameBeingSent_43
  · skip
    refine lv_aload_n C.1 C.2.1 dX3_loseFrameBeingSent_7 rfl (lv_at hl 0 rfl) ?_
    refine lv_aload_n C.1 C.2.1 dX3_loseFrameBeingSent_8 rfl (lv_at hl 1 rfl) ?_
    refine lv_aload_n C.1 C.2.1 dX3_loseFrameBeingSent_9 rfl (lv_at hl 1 rfl) ?_
    refine xR_get (j := f) C hR (by omega) 5 (by decide) rfl fl_X3_84 (v := .int (S 25 f)) rfl dX3_loseFrameBeingSent_10 ?_
    refine lv_re (y := nI p) (by rw [h25]) ?_
    refine cxV (b := b) (As := [.ref (aRg b f), .int (nI p)]) (rest := []) (ci := 3) (q := (RX3, TX3, 6)) C (k_X3_stationAt l g b N S Fl hN (f) (p) (by omega) (by omega) (by rw [h20])) cf_X3_stationAt ml_X3_178 ⟨by decide, by decide⟩ ⟨rfl, rfl⟩ rfl (hR.1) rfl hl.1 rfl (Nat.le_of_ble_eq_true rfl) dX3_loseFrameBeingSent_13 hR ⟨Nat.zero_le _, Nat.zero_le _⟩ hS (fun _ h => h) (fun H locs hR hS _ _ => ?_)
    simp only [Option.toList, List.cons_append, List.nil_append]
    have hw12 := wr_lt (N := N) (i := f + p) (by omega)
    refine lv_astore_n (lv' := [(2, .ref (aSt b (wr N (f + p)))), (0, .ref b), (1, .ref (aRg b f))]) C.1 C.2.1 dX3_loseFrameBeingSent_16 rfl hl (by decide) rfl (fun ls hl => ?_)
    refine lv_aload_n C.1 C.2.1 dX3_loseFrameBeingSent_17 rfl (lv_at hl 0 rfl) ?_
    refine lv_aload_n C.1 C.2.1 dX3_loseFrameBeingSent_18 rfl (lv_at hl 2 rfl) ?_
    refine xR_get (j := f) C hR (by omega) 8 (by decide) rfl fl_X3_182 (v := .int (S 28 f)) rfl dX3_loseFrameBeingSent_19 ?_
    refine cxV (b := aSt b (wr N (f + p))) (As := [.int (S 28 f)]) (rest := []) (ci := 2) (q := (RX2, TX2, 19)) C (kq_X2_queueFor l g b N S Fl hN (wr N (f + p)) (by omega) (S 28 f)) cf_X2_queueFor ml_X3_46 ⟨by decide, by decide⟩ ⟨rfl, rfl⟩ rfl (hR.2.2.2.2.1 _ (by omega)) rfl hl.1 rfl (Nat.le_of_ble_eq_true rfl) dX3_loseFrameBeingSent_22 hR ⟨Nat.zero_le _, Nat.zero_le _⟩ hS (fun _ h => h) (fun H locs hR hS _ _ => ?_)
    simp only [Option.toList, List.cons_append, List.nil_append]
    have hw19 := qof_lt (N := N) (j := wr N (f + p)) (x := S 28 f) (by omega)
    refine cxV (b := aQ b (qof (wr N (f + p)) (S 28 f))) (As := []) (rest := []) (ci := 0) (q := (RX0, TX0, 4)) C (k_X0_removeFirst l g b N S Fl hN (qof (wr N (f + p)) (S 28 f)) z (by omega) (by omega) h41) cf_X0_removeFirst ml_X3_185 ⟨by decide, by decide⟩ ⟨rfl, rfl⟩ rfl (hR.2.2.2.2.2.2.1 _ (by omega)) rfl hl.1 rfl (Nat.le_of_ble_eq_true rfl) dX3_loseFrameBeingSent_25 hR ⟨Nat.zero_le _, Nat.zero_le _⟩ hS (fun _ h => h) (fun H locs hR hS _ _ => ?_)
    obtain ⟨S1, eS1⟩ : ∃ y, y = s_rem S (qof (wr N (f + p)) (S 28 f)) z := ⟨_, rfl⟩
    rw [← eS1] at hR
    simp only [Option.toList, List.nil_append]
    refine lv_aload_n C.1 C.2.1 dX3_loseFrameBeingSent_28 rfl (lv_at hl 0 rfl) ?_
    refine lv_dup C.1 C.2.1 dX3_loseFrameBeingSent_29 rfl ?_
    refine xS_get (j := wr N (f + p)) C hR (by omega) 18 (by decide) rfl fl_X3_134 (v := .int (S1 18 (wr N (f + p)))) rfl dX3_loseFrameBeingSent_30 ?_
    refine lv_re (y := S 18 (wr N (f + p))) (by rw [eS1, s_rem_o (by decide)]) ?_
    refine lv_iconst (v := nI 1) C.1 C.2.1 dX3_loseFrameBeingSent_33 (by decide) ?_
    refine lv_iadd C.1 C.2.1 dX3_loseFrameBeingSent_34 ?_
    refine xS_put (j := wr N (f + p)) C hR hS (by omega) 18 (by decide) rfl rfl fl_X3_134 rfl rfl stS_18 dX3_loseFrameBeingSent_35 (fun S2 H locs eS2 hR hS => ?_)
    refine lv_aload_n C.1 C.2.1 dX3_loseFrameBeingSent_38 rfl (lv_at hl 2 rfl) ?_
    refine lv_iconst (v := nI 0) C.1 C.2.1 dX3_loseFrameBeingSent_39 (by decide) ?_
    refine xR_put (j := f) C hR hS (by omega) 7 (by decide) rfl rfl fl_X3_91 rfl rfl rgS_7 dX3_loseFrameBeingSent_40 (fun S3 H locs eS3 hR hS => ?_)
    have hs : s_X3_loseFrameBeingSent S N f p z = S3 := (if_neg c4).trans (by rw [eS3, eS2, eS1])
    rw [hs]
    exact endv C hr hlk hR hS dX3_loseFrameBeingSent_43

theorem lose_o {S : SX} {N f p z g k : Nat} (h : g < 41 ∨ 44 < g) (h1 : g ≠ 18) (h2 : g ≠ 27) : s_X3_loseFrameBeingSent S N f p z g k = S g k := by
  unfold s_X3_loseFrameBeingSent
  split
  · rfl
  · rw [up2_f h2, up2_f h1, s_rem_o h]
def sfr (N : Nat) (S : SX) (f : Nat) : Nat → SX
  | 0 => S
  | i + 1 => up2 (sfr N S f i) 3 (wr N (f + i)) (nI f)
theorem sfr_o {N : Nat} {S : SX} {f i g k : Nat} (h : g ≠ 3) : sfr N S f i g k = S g k := by
  induction i with
  | zero => rfl
  | succ i ih => simp only [sfr]; rw [up2_f h, ih]
def ref0 (S : SX) (N f p z L : Nat) (cl : Int32) : SX := up2 (up2 (up2 (s_X3_loseFrameBeingSent S N f p z) 21 f (nI L)) 22 f cl) 23 f (nI (2 * L))
def s_X3_claim (S : SX) (N : Nat) (f p z L : Nat) : SX := up2 (s_X3_loseFrameBeingSent S N f p z) 23 f (nI (2 * L))
set_option maxHeartbeats 4000000 in
set_option maxRecDepth 100000 in
theorem k_X3_claim (l : Launch) (g : GX) (b N : Nat) (S : SX) (Fl : FX) (hN : N ≤ 6) (f p z : Nat) (hf : f < N) (hp : p < N) (hz : z ≤ 5) (h20 : S 20 f = nI f) (h25 : S 25 f = nI p) (h41 : S 41 (qof (wr N (f + p)) (S 28 f)) = nI z) (L : Nat) (hL : L ≤ N) (h21 : S 21 f = nI L)  : MR l yX3_claim (.code yX3_claim cX3_claim 2 none :: tb) (rmk 3 67) g (RepX g b N S Fl) (RepX g b N (s_X3_claim S N f p z L) Fl) (AX b N) [.ref b, .ref (aRg b f)] none := by
  refine MR.start RX3 (by decide) rfl (Nat.le_of_ble_eq_true rfl) (fun zp ze zs zm zb zt zc ls C hr hlk hR hS hl => ?_)
  have hl : lv_has ls 2 [(0, .ref b), (1, .ref (aRg b f))] := hl
  refine lv_aload_n C.1 C.2.1 dX3_claim_0 rfl (lv_at hl 0 rfl) ?_
  refine lv_aload_n C.1 C.2.1 dX3_claim_1 rfl (lv_at hl 1 rfl) ?_
  refine cxV (b := b) (As := [.ref (aRg b f)]) (rest := []) (ci := 3) (q := (RX3, TX3, 6)) C (k_X3_loseFrameBeingSent l g b N S Fl hN f p z (by omega) (by omega) (by omega) h20 h25 h41) cf_X3_loseFrameBeingSent ml_X3_172 ⟨by decide, by decide⟩ ⟨rfl, rfl⟩ rfl (hR.1) rfl hl.1 rfl (Nat.le_of_ble_eq_true rfl) dX3_claim_2 hR ⟨Nat.zero_le _, Nat.zero_le _⟩ hS (fun _ h => h) (fun H locs hR hS _ _ => ?_)
  obtain ⟨S1, eS1⟩ : ∃ y, y = s_X3_loseFrameBeingSent S N f p z := ⟨_, rfl⟩
  rw [← eS1] at hR
  simp only [Option.toList, List.nil_append]
  refine lv_aload_n C.1 C.2.1 dX3_claim_5 rfl (lv_at hl 1 rfl) ?_
  refine lv_iconst (v := nI 2) C.1 C.2.1 dX3_claim_6 (by decide) ?_
  refine lv_aload_n C.1 C.2.1 dX3_claim_7 rfl (lv_at hl 1 rfl) ?_
  refine xR_get (j := f) C hR (by omega) 1 (by decide) rfl fl_X3_153 (v := .int (S1 21 f)) rfl dX3_claim_8 ?_
  refine lv_re (y := nI L) (by rw [eS1, lose_o (by decide) (by decide) (by decide), h21]) ?_
  refine n_imul (z := 2 * L) C dX3_claim_11 (by omega) ?_
  refine xR_put (j := f) C hR hS (by omega) 3 (by decide) rfl rfl fl_X3_175 rfl rfl rgS_3 dX3_claim_12 (fun S2 H locs eS2 hR hS => ?_)
  have hs : s_X3_claim S N f p z L = S2 := (show _ = up2 (s_X3_loseFrameBeingSent S N f p z) 23 f (nI (2 * L)) from rfl).trans (by rw [eS2, eS1])
  rw [hs]
  exact endv C hr hlk hR hS dX3_claim_15

set_option maxHeartbeats 4000000 in
set_option maxRecDepth 100000 in
theorem k_X3_reform (l : Launch) (g : GX) (b N : Nat) (S : SX) (Fl : FX) (hN : N ≤ 6) (f p z : Nat) (hf : f < N) (hp : p < N) (hz : z ≤ 5) (h20 : S 20 f = nI f) (h25 : S 25 f = nI p) (h41 : S 41 (qof (wr N (f + p)) (S 28 f)) = nI z) (L : Nat) (hL : L ≤ N) (cl : Int32) (hcl : cl = 0 ∨ cl = 1) : MR l yX3_reform (.code yX3_reform cX3_reform 5 none :: tb) (rmk 3 67) g (RepX g b N S Fl) (RepX g b N (sfr N (ref0 S N f p z L cl) f L) Fl) (AX b N) [.ref b, .ref (aRg b f), .int (nI L), .int cl] none := by
  refine MR.start RX3 (by decide) rfl (Nat.le_of_ble_eq_true rfl) (fun zp ze zs zm zb zt zc ls C hr hlk hR hS hl => ?_)
  have hl : lv_has ls 5 [(0, .ref b), (1, .ref (aRg b f)), (2, .int (nI L)), (3, .int cl)] := hl
  refine lv_aload_n C.1 C.2.1 dX3_reform_0 rfl (lv_at hl 0 rfl) ?_
  refine lv_aload_n C.1 C.2.1 dX3_reform_1 rfl (lv_at hl 1 rfl) ?_
  refine cxV (b := b) (As := [.ref (aRg b f)]) (rest := []) (ci := 3) (q := (RX3, TX3, 6)) C (k_X3_loseFrameBeingSent l g b N S Fl hN f p z (by omega) (by omega) (by omega) h20 h25 h41) cf_X3_loseFrameBeingSent ml_X3_172 ⟨by decide, by decide⟩ ⟨rfl, rfl⟩ rfl (hR.1) rfl hl.1 rfl (Nat.le_of_ble_eq_true rfl) dX3_reform_2 hR ⟨Nat.zero_le _, Nat.zero_le _⟩ hS (fun _ h => h) (fun H locs hR hS _ _ => ?_)
  obtain ⟨S1, eS1⟩ : ∃ y, y = s_X3_loseFrameBeingSent S N f p z := ⟨_, rfl⟩
  rw [← eS1] at hR
  simp only [Option.toList, List.nil_append]
  refine lv_aload_n C.1 C.2.1 dX3_reform_5 rfl (lv_at hl 1 rfl) ?_
  refine lv_iload_n C.1 C.2.1 dX3_reform_6 rfl (lv_at hl 2 rfl) ?_
  refine xR_put (j := f) C hR hS (by omega) 1 (by decide) rfl rfl fl_X3_153 rfl rfl rgS_1 dX3_reform_7 (fun S2 H locs eS2 hR hS => ?_)
  refine lv_aload_n C.1 C.2.1 dX3_reform_10 rfl (lv_at hl 1 rfl) ?_
  refine lv_iload_n C.1 C.2.1 dX3_reform_11 rfl (lv_at hl 3 rfl) ?_
  refine xR_put (j := f) C hR hS (by omega) 2 (by decide) rfl rfl fl_X3_156 (nz_n hcl) (nz_f hcl) rgS_2 dX3_reform_12 (fun S3 H locs eS3 hR hS => ?_)
  refine lv_aload_n C.1 C.2.1 dX3_reform_15 rfl (lv_at hl 1 rfl) ?_
  refine lv_iconst (v := nI 2) C.1 C.2.1 dX3_reform_16 (by decide) ?_
  refine lv_iload_n C.1 C.2.1 dX3_reform_17 rfl (lv_at hl 2 rfl) ?_
  refine n_imul (z := 2 * L) C dX3_reform_18 (by omega) ?_
  refine xR_put (j := f) C hR hS (by omega) 3 (by decide) rfl rfl fl_X3_175 rfl rfl rgS_3 dX3_reform_19 (fun S4 H locs eS4 hR hS => ?_)
  refine lv_iconst (v := nI 0) C.1 C.2.1 dX3_reform_22 (by decide) ?_
  refine lv_istore (lv' := [(4, .int (nI 0)), (0, .ref b), (1, .ref (aRg b f)), (2, .int (nI L)), (3, .int cl)]) C.1 C.2.1 dX3_reform_23 hl (by decide) rfl (fun ls hl => ?_)
  have h0 : sfr N (ref0 S N f p z L cl) f 0 = S4 := by rw [eS4, eS3, eS2, eS1]; rfl
  rw [← h0] at hR
  have lp : ∀ (n : Nat) (i : Nat) (H : Heap) (locs : List Loc) (ls : Array Slot), L - i < n → i ≤ L → RepX g b N (sfr N (ref0 S N f p z L cl) f i) Fl H → va_S (AX b N) zs.heap H locs → lv_has ls 5 [(4, .int (nI i)), (0, .ref b), (1, .ref (aRg b f)), (2, .int (nI L)), (3, .int cl)] → W zp l ze (rmk 3 67) zs zm ([.ref b, .ref (aRg b f), .int (nI L), .int cl] : List Value).toArray zb zt zc H locs 0 0 (MQ zb (QR (RepX g b N (sfr N (ref0 S N f p z L cl) f L) Fl) (AX b N) none) ([.ref b, .ref (aRg b f), .int (nI L), .int cl] : List Value).toArray zs 0 0 (AX b N)) (F0 zm 25 ls []) := by
    intro n
    induction n with
    | zero => intro i H locs ls hm; exact absurd hm (Nat.not_lt_zero _)
    | succ n ih =>
      intro i H locs ls hm hi hR hS hl
      obtain ⟨S5, eS5⟩ : ∃ y, y = sfr N (ref0 S N f p z L cl) f i := ⟨_, rfl⟩
      rw [← eS5] at hR
      have g20 : S5 20 f = nI f := by rw [eS5, sfr_o (by decide)]; unfold ref0; rw [up2_f (by decide), up2_f (by decide), up2_f (by decide), lose_o (by decide) (by decide) (by decide), h20]
      refine lv_iload C.1 C.2.1 dX3_reform_25 (lv_at hl 0 rfl) ?_
      refine lv_iload_n C.1 C.2.1 dX3_reform_27 rfl (lv_at hl 3 rfl) ?_
      refine lv_icmp_ge (tgt := 51) C.1 C.2.1 dX3_reform_28 (by decide) (fun c28 => ?_) (fun c28 => ?_)
      · skip
        have c28 : L ≤ i := (nI_leI (a := L) (b := i) (by omega) (by omega)).mp c28
        have hi2 : i = L := by omega
        have hs : sfr N (ref0 S N f p z L cl) f L = S5 := by rw [eS5, hi2]
        rw [hs]
        exact endv C hr hlk hR hS dX3_reform_51
      · skip
        have c28 : ¬ (L ≤ i) := mt (nI_leI (a := L) (b := i) (by omega) (by omega)).mpr c28
        refine lv_aload_n C.1 C.2.1 dX3_reform_31 rfl (lv_at hl 1 rfl) ?_
        refine lv_aload_n C.1 C.2.1 dX3_reform_32 rfl (lv_at hl 2 rfl) ?_
        refine lv_iload C.1 C.2.1 dX3_reform_33 (lv_at hl 0 rfl) ?_
        refine cxV (b := b) (As := [.ref (aRg b f), .int (nI i)]) (rest := []) (ci := 3) (q := (RX3, TX3, 6)) C (k_X3_stationAt l g b N S5 Fl hN (f) (i) (by omega) (by omega) (by rw [g20])) cf_X3_stationAt ml_X3_178 ⟨by decide, by decide⟩ ⟨rfl, rfl⟩ rfl (hR.1) rfl hl.1 rfl (Nat.le_of_ble_eq_true rfl) dX3_reform_35 hR ⟨Nat.zero_le _, Nat.zero_le _⟩ hS (fun _ h => h) (fun H locs hR hS _ _ => ?_)
        simp only [Option.toList, List.cons_append, List.nil_append]
        have hw42 := wr_lt (N := N) (i := f + i) (by omega)
        refine lv_aload_n C.1 C.2.1 dX3_reform_38 rfl (lv_at hl 2 rfl) ?_
        refine xR_get (j := f) C hR (by omega) 0 (by decide) rfl fl_X3_144 (v := .int (S5 20 f)) rfl dX3_reform_39 ?_
        refine lv_re (y := nI f) (by rw [g20]) ?_
        refine xS_put (j := wr N (f + i)) C hR hS (by omega) 3 (by decide) rfl rfl fl_X3_70 rfl rfl stS_3 dX3_reform_42 (fun S6 H locs eS6 hR hS => ?_)
        refine lv_iinc (v := nI (i + 1)) (lv' := [(4, .int (nI (i + 1))), (0, .ref b), (1, .ref (aRg b f)), (2, .int (nI L)), (3, .int cl)]) C.1 C.2.1 dX3_reform_45 hl (k := 0) rfl (nI_add _ _) (by decide) rfl (fun ls hl => ?_)
        refine lv_goto (tgt := 25) C.1 C.2.1 dX3_reform_48 (by decide) ?_
        have hb : sfr N (ref0 S N f p z L cl) f (i + 1) = S6 := by rw [eS6, eS5]; rfl
        rw [← hb] at hR
        exact ih (i + 1) H locs ls (by omega) (by omega) hR hS (lv_sub hl [0, 1, 2, 3, 4] rfl)
  exact lp _ 0 _ _ ls (Nat.lt_succ_self _) (by omega) hR hS (lv_sub hl [0, 1, 2, 3, 4] rfl)
end
section
def wins (N : Nat) (S : SX) (f : Nat) : Nat → Nat → Nat → Nat
  | 0, _, w => w
  | n + 1, i, w => wins N S f n (i + 1) (if S 4 (wr N (f + i)) < S 4 (wr N (f + w)) ∨ (S 4 (wr N (f + i)) = S 4 (wr N (f + w)) ∧ wr N (f + w) < wr N (f + i)) then i else w)
theorem wins_lt {N : Nat} {S : SX} {f : Nat} : ∀ (n i w : Nat), w < i → wins N S f n i w < i + n := by
  intro n
  induction n with
  | zero => intro i w h; exact h
  | succ n ih =>
    intro i w h
    simp only [wins]
    have := ih (i + 1) (if S 4 (wr N (f + i)) < S 4 (wr N (f + w)) ∨ (S 4 (wr N (f + i)) = S 4 (wr N (f + w)) ∧ wr N (f + w) < wr N (f + i)) then i else w) (by split <;> omega)
    omega
set_option maxHeartbeats 4000000 in
set_option maxRecDepth 100000 in
theorem k_X3_winningPlace (l : Launch) (g : GX) (b N : Nat) (S : SX) (Fl : FX) (hN : N ≤ 6) (f p L : Nat) (hf : f < N) (hp : p < N) (hL : L ≤ N) (hL1 : 1 ≤ L) (h20 : S 20 f = nI f) (h25 : S 25 f = nI p) (h21 : S 21 f = nI L) : MR l yX3_winningPlace (.code yX3_winningPlace cX3_winningPlace 7 (some .int) :: tb) (rmk 2 45) g (RepX g b N S Fl) (RepX g b N S Fl) (AX b N) [.ref b, .ref (aRg b f)] (some (.int (nI (wins N S f (L - 1) 1 0)))) := by
  refine MR.start RX3 (by decide) rfl (Nat.le_of_ble_eq_true rfl) (fun zp ze zs zm zb zt zc ls C hr hlk hR hS hl => ?_)
  have hl : lv_has ls 7 [(0, .ref b), (1, .ref (aRg b f))] := hl
  refine lv_iconst (v := nI 0) C.1 C.2.1 dX3_winningPlace_0 (by decide) ?_
  refine lv_istore_n (lv' := [(2, .int (nI 0)), (0, .ref b), (1, .ref (aRg b f))]) C.1 C.2.1 dX3_winningPlace_1 rfl hl (by decide) rfl (fun ls hl => ?_)
  refine lv_iconst (v := nI 1) C.1 C.2.1 dX3_winningPlace_2 (by decide) ?_
  refine lv_istore_n (lv' := [(3, .int (nI 1)), (2, .int (nI 0)), (0, .ref b), (1, .ref (aRg b f))]) C.1 C.2.1 dX3_winningPlace_3 rfl hl (by decide) rfl (fun ls hl => ?_)
  have lp : ∀ (n : Nat) (k : Nat) (i : Nat) (w : Nat) (H : Heap) (locs : List Loc) (ls : Array Slot), k < n → i + k = L → 1 ≤ i → w < i → w < L → wins N S f (L - 1) 1 0 = wins N S f k i w → RepX g b N S Fl H → va_S (AX b N) zs.heap H locs → lv_has ls 7 [(3, .int (nI i)), (2, .int (nI w)), (0, .ref b), (1, .ref (aRg b f))] → W zp l ze (rmk 2 45) zs zm ([.ref b, .ref (aRg b f)] : List Value).toArray zb zt zc H locs 0 0 (MQ zb (QR (RepX g b N S Fl) (AX b N) (some (.int (nI (wins N S f (L - 1) 1 0))))) ([.ref b, .ref (aRg b f)] : List Value).toArray zs 0 0 (AX b N)) (F0 zm 4 ls []) := by
    intro n
    induction n with
    | zero => intro k i w H locs ls hm; exact absurd hm (Nat.not_lt_zero _)
    | succ n ih =>
      intro k i w H locs ls hm hk hi1 hw hwL hr2 hR hS hl
      refine lv_iload_n C.1 C.2.1 dX3_winningPlace_4 rfl (lv_at hl 0 rfl) ?_
      refine lv_aload_n C.1 C.2.1 dX3_winningPlace_5 rfl (lv_at hl 3 rfl) ?_
      refine xR_get (j := f) C hR (by omega) 1 (by decide) rfl fl_X3_153 (v := .int (S 21 f)) rfl dX3_winningPlace_6 ?_
      refine lv_re (y := nI L) (by rw [h21]) ?_
      refine lv_icmp_ge (tgt := 83) C.1 C.2.1 dX3_winningPlace_9 (by decide) (fun c9 => ?_) (fun c9 => ?_)
      · skip
        have c9 : L ≤ i := (nI_leI (a := L) (b := i) (by omega) (by omega)).mp c9
        refine lv_iload_n C.1 C.2.1 dX3_winningPlace_83 rfl (lv_at hl 1 rfl) ?_
        have hv : wins N S f (L - 1) 1 0 = w := hr2.trans (by rw [show k = 0 by omega]; rfl)
        rw [hv]
        exact endi C hr hlk hR hS dX3_winningPlace_84
      · skip
        have c9 : ¬ (L ≤ i) := mt (nI_leI (a := L) (b := i) (by omega) (by omega)).mpr c9
        refine lv_aload_n C.1 C.2.1 dX3_winningPlace_12 rfl (lv_at hl 2 rfl) ?_
        refine lv_aload_n C.1 C.2.1 dX3_winningPlace_13 rfl (lv_at hl 3 rfl) ?_
        refine lv_iload_n C.1 C.2.1 dX3_winningPlace_14 rfl (lv_at hl 0 rfl) ?_
        refine cxV (b := b) (As := [.ref (aRg b f), .int (nI i)]) (rest := []) (ci := 3) (q := (RX3, TX3, 6)) C (k_X3_stationAt l g b N S Fl hN (f) (i) (by omega) (by omega) (by rw [h20])) cf_X3_stationAt ml_X3_178 ⟨by decide, by decide⟩ ⟨rfl, rfl⟩ rfl (hR.1) rfl hl.1 rfl (Nat.le_of_ble_eq_true rfl) dX3_winningPlace_15 hR ⟨Nat.zero_le _, Nat.zero_le _⟩ hS (fun _ h => h) (fun H locs hR hS _ _ => ?_)
        simp only [Option.toList, List.cons_append, List.nil_append]
        have hw25 := wr_lt (N := N) (i := f + i) (by omega)
        refine xS_get (j := wr N (f + i)) C hR (by omega) 4 (by decide) rfl fl_X3_40 (v := .int (S 4 (wr N (f + i)))) rfl dX3_winningPlace_18 ?_
        refine lv_istore (lv' := [(4, .int (S 4 (wr N (f + i)))), (3, .int (nI i)), (2, .int (nI w)), (0, .ref b), (1, .ref (aRg b f))]) C.1 C.2.1 dX3_winningPlace_21 hl (by decide) rfl (fun ls hl => ?_)
        refine lv_aload_n C.1 C.2.1 dX3_winningPlace_23 rfl (lv_at hl 3 rfl) ?_
        refine lv_aload_n C.1 C.2.1 dX3_winningPlace_24 rfl (lv_at hl 4 rfl) ?_
        refine lv_iload_n C.1 C.2.1 dX3_winningPlace_25 rfl (lv_at hl 2 rfl) ?_
        refine cxV (b := b) (As := [.ref (aRg b f), .int (nI w)]) (rest := []) (ci := 3) (q := (RX3, TX3, 6)) C (k_X3_stationAt l g b N S Fl hN (f) (w) (by omega) (by omega) (by rw [h20])) cf_X3_stationAt ml_X3_178 ⟨by decide, by decide⟩ ⟨rfl, rfl⟩ rfl (hR.1) rfl hl.1 rfl (Nat.le_of_ble_eq_true rfl) dX3_winningPlace_26 hR ⟨Nat.zero_le _, Nat.zero_le _⟩ hS (fun _ h => h) (fun H locs hR hS _ _ => ?_)
        simp only [Option.toList, List.cons_append, List.nil_append]
        have hw33 := wr_lt (N := N) (i := f + w) (by omega)
        refine xS_get (j := wr N (f + w)) C hR (by omega) 4 (by decide) rfl fl_X3_40 (v := .int (S 4 (wr N (f + w)))) rfl dX3_winningPlace_29 ?_
        refine lv_istore (lv' := [(5, .int (S 4 (wr N (f + w)))), (4, .int (S 4 (wr N (f + i)))), (3, .int (nI i)), (2, .int (nI w)), (0, .ref b), (1, .ref (aRg b f))]) C.1 C.2.1 dX3_winningPlace_32 hl (by decide) rfl (fun ls hl => ?_)
        refine lv_aload_n C.1 C.2.1 dX3_winningPlace_34 rfl (lv_at hl 4 rfl) ?_
        refine lv_aload_n C.1 C.2.1 dX3_winningPlace_35 rfl (lv_at hl 5 rfl) ?_
        refine lv_iload_n C.1 C.2.1 dX3_winningPlace_36 rfl (lv_at hl 2 rfl) ?_
        refine cxV (b := b) (As := [.ref (aRg b f), .int (nI i)]) (rest := []) (ci := 3) (q := (RX3, TX3, 6)) C (kn_numberAt l g b N S Fl hN (f) (i) (by omega) (by omega) (by rw [h20])) cf_X3_numberAt ml_X3_87 ⟨by decide, by decide⟩ ⟨rfl, rfl⟩ rfl (hR.1) rfl hl.1 rfl (Nat.le_of_ble_eq_true rfl) dX3_winningPlace_37 hR ⟨Nat.zero_le _, Nat.zero_le _⟩ hS (fun _ h => h) (fun H locs hR hS _ _ => ?_)
        simp only [Option.toList, List.cons_append, List.nil_append]
        have hw41 := wr_lt (N := N) (i := f + i) (by omega)
        refine lv_aload_n C.1 C.2.1 dX3_winningPlace_40 rfl (lv_at hl 4 rfl) ?_
        refine lv_aload_n C.1 C.2.1 dX3_winningPlace_41 rfl (lv_at hl 5 rfl) ?_
        refine lv_iload_n C.1 C.2.1 dX3_winningPlace_42 rfl (lv_at hl 3 rfl) ?_
        refine cxV (b := b) (As := [.ref (aRg b f), .int (nI w)]) (rest := [.int (nI (wr N (f + i)))]) (ci := 3) (q := (RX3, TX3, 6)) C (kn_numberAt l g b N S Fl hN (f) (w) (by omega) (by omega) (by rw [h20])) cf_X3_numberAt ml_X3_87 ⟨by decide, by decide⟩ ⟨rfl, rfl⟩ rfl (hR.1) rfl hl.1 rfl (Nat.le_of_ble_eq_true rfl) dX3_winningPlace_43 hR ⟨Nat.zero_le _, Nat.zero_le _⟩ hS (fun _ h => h) (fun H locs hR hS _ _ => ?_)
        simp only [Option.toList, List.cons_append, List.nil_append]
        have hw47 := wr_lt (N := N) (i := f + w) (by omega)
        refine lv_icmp_le (tgt := 53) C.1 C.2.1 dX3_winningPlace_46 (by decide) (fun c46 => ?_) (fun c46 => ?_)
        · skip
          have c46 : wr N (f + i) ≤ wr N (f + w) := (nI_leI (a := wr N (f + i)) (b := wr N (f + w)) (by omega) (by omega)).mp c46
          refine lv_iconst (v := nI 0) C.1 C.2.1 dX3_winningPlace_53 (by decide) ?_
          refine lv_istore (lv' := [(6, .int (nI 0)), (5, .int (S 4 (wr N (f + w)))), (4, .int (S 4 (wr N (f + i)))), (3, .int (nI i)), (2, .int (nI w)), (0, .ref b), (1, .ref (aRg b f))]) C.1 C.2.1 dX3_winningPlace_54 hl (by decide) rfl (fun ls hl => ?_)
          refine lv_iload C.1 C.2.1 dX3_winningPlace_56 (lv_at hl 2 rfl) ?_
          refine lv_iload C.1 C.2.1 dX3_winningPlace_58 (lv_at hl 1 rfl) ?_
          refine lv_icmp_lt (tgt := 75) C.1 C.2.1 dX3_winningPlace_60 (by decide) (fun c60 => ?_) (fun c60 => ?_)
          · skip
            refine lv_iload_n C.1 C.2.1 dX3_winningPlace_75 rfl (lv_at hl 3 rfl) ?_
            refine lv_istore_n (lv' := [(2, .int (nI i)), (6, .int (nI 0)), (5, .int (S 4 (wr N (f + w)))), (4, .int (S 4 (wr N (f + i)))), (3, .int (nI i)), (0, .ref b), (1, .ref (aRg b f))]) C.1 C.2.1 dX3_winningPlace_76 rfl hl (by decide) rfl (fun ls hl => ?_)
            refine lv_iinc (v := nI (i + 1)) (lv' := [(3, .int (nI (i + 1))), (2, .int (nI i)), (6, .int (nI 0)), (5, .int (S 4 (wr N (f + w)))), (4, .int (S 4 (wr N (f + i)))), (0, .ref b), (1, .ref (aRg b f))]) C.1 C.2.1 dX3_winningPlace_77 hl (k := 4) rfl (nI_add _ _) (by decide) rfl (fun ls hl => ?_)
            refine lv_goto (tgt := 4) C.1 C.2.1 dX3_winningPlace_80 (by decide) ?_
            obtain ⟨k, rfl⟩ : ∃ k2, k = k2 + 1 := ⟨k - 1, by omega⟩
            have hb : wins N S f (k + 1) i w = wins N S f k (i + 1) i := congrArg (wins N S f k (i + 1)) (if_pos (by first | exact Or.inl c60 | exact Or.inr ⟨c67, by omega⟩))
            exact ih k (i + 1) i H locs ls (by omega) (by omega) (by omega) (by omega) (by omega) (hr2.trans hb) hR hS (lv_sub hl [0, 1, 5, 6] rfl)
          · skip
            refine lv_iload C.1 C.2.1 dX3_winningPlace_63 (lv_at hl 2 rfl) ?_
            refine lv_iload C.1 C.2.1 dX3_winningPlace_65 (lv_at hl 1 rfl) ?_
            refine lv_icmp_ne (tgt := 77) C.1 C.2.1 dX3_winningPlace_67 (by decide) (fun c67 => ?_) (fun c67 => ?_)
            · skip
              refine lv_iinc (v := nI (i + 1)) (lv' := [(3, .int (nI (i + 1))), (6, .int (nI 0)), (5, .int (S 4 (wr N (f + w)))), (4, .int (S 4 (wr N (f + i)))), (2, .int (nI w)), (0, .ref b), (1, .ref (aRg b f))]) C.1 C.2.1 dX3_winningPlace_77 hl (k := 3) rfl (nI_add _ _) (by decide) rfl (fun ls hl => ?_)
              refine lv_goto (tgt := 4) C.1 C.2.1 dX3_winningPlace_80 (by decide) ?_
              obtain ⟨k, rfl⟩ : ∃ k2, k = k2 + 1 := ⟨k - 1, by omega⟩
              have hb : wins N S f (k + 1) i w = wins N S f k (i + 1) w := congrArg (wins N S f k (i + 1)) (if_neg (by intro h; rcases h with h | ⟨h1, h2⟩; exact c60 h; first | exact c67 h1 | omega))
              exact ih k (i + 1) w H locs ls (by omega) (by omega) (by omega) (by omega) (by omega) (hr2.trans hb) hR hS (lv_sub hl [0, 4, 5, 6] rfl)
            · skip
              refine lv_iload C.1 C.2.1 dX3_winningPlace_70 (lv_at hl 0 rfl) ?_
              refine lv_if_eq (tgt := 77) C.1 C.2.1 dX3_winningPlace_72 (by decide) (fun c72 => ?_) (fun c72 => ?_)
              · skip
                refine lv_iinc (v := nI (i + 1)) (lv' := [(3, .int (nI (i + 1))), (6, .int (nI 0)), (5, .int (S 4 (wr N (f + w)))), (4, .int (S 4 (wr N (f + i)))), (2, .int (nI w)), (0, .ref b), (1, .ref (aRg b f))]) C.1 C.2.1 dX3_winningPlace_77 hl (k := 3) rfl (nI_add _ _) (by decide) rfl (fun ls hl => ?_)
                refine lv_goto (tgt := 4) C.1 C.2.1 dX3_winningPlace_80 (by decide) ?_
                obtain ⟨k, rfl⟩ : ∃ k2, k = k2 + 1 := ⟨k - 1, by omega⟩
                have hb : wins N S f (k + 1) i w = wins N S f k (i + 1) w := congrArg (wins N S f k (i + 1)) (if_neg (by intro h; rcases h with h | ⟨h1, h2⟩; exact c60 h; first | exact c67 h1 | omega))
                exact ih k (i + 1) w H locs ls (by omega) (by omega) (by omega) (by omega) (by omega) (hr2.trans hb) hR hS (lv_sub hl [0, 4, 5, 6] rfl)
              · skip
                exact absurd c72 (by decide)
        · skip
          have c46 : ¬ (wr N (f + i) ≤ wr N (f + w)) := mt (nI_leI (a := wr N (f + i)) (b := wr N (f + w)) (by omega) (by omega)).mpr c46
          refine lv_iconst (v := nI 1) C.1 C.2.1 dX3_winningPlace_49 (by decide) ?_
          refine lv_goto (tgt := 54) C.1 C.2.1 dX3_winningPlace_50 (by decide) ?_
          refine lv_istore (lv' := [(6, .int (nI 1)), (5, .int (S 4 (wr N (f + w)))), (4, .int (S 4 (wr N (f + i)))), (3, .int (nI i)), (2, .int (nI w)), (0, .ref b), (1, .ref (aRg b f))]) C.1 C.2.1 dX3_winningPlace_54 hl (by decide) rfl (fun ls hl => ?_)
          refine lv_iload C.1 C.2.1 dX3_winningPlace_56 (lv_at hl 2 rfl) ?_
          refine lv_iload C.1 C.2.1 dX3_winningPlace_58 (lv_at hl 1 rfl) ?_
          refine lv_icmp_lt (tgt := 75) C.1 C.2.1 dX3_winningPlace_60 (by decide) (fun c60 => ?_) (fun c60 => ?_)
          · skip
            refine lv_iload_n C.1 C.2.1 dX3_winningPlace_75 rfl (lv_at hl 3 rfl) ?_
            refine lv_istore_n (lv' := [(2, .int (nI i)), (6, .int (nI 1)), (5, .int (S 4 (wr N (f + w)))), (4, .int (S 4 (wr N (f + i)))), (3, .int (nI i)), (0, .ref b), (1, .ref (aRg b f))]) C.1 C.2.1 dX3_winningPlace_76 rfl hl (by decide) rfl (fun ls hl => ?_)
            refine lv_iinc (v := nI (i + 1)) (lv' := [(3, .int (nI (i + 1))), (2, .int (nI i)), (6, .int (nI 1)), (5, .int (S 4 (wr N (f + w)))), (4, .int (S 4 (wr N (f + i)))), (0, .ref b), (1, .ref (aRg b f))]) C.1 C.2.1 dX3_winningPlace_77 hl (k := 4) rfl (nI_add _ _) (by decide) rfl (fun ls hl => ?_)
            refine lv_goto (tgt := 4) C.1 C.2.1 dX3_winningPlace_80 (by decide) ?_
            obtain ⟨k, rfl⟩ : ∃ k2, k = k2 + 1 := ⟨k - 1, by omega⟩
            have hb : wins N S f (k + 1) i w = wins N S f k (i + 1) i := congrArg (wins N S f k (i + 1)) (if_pos (by first | exact Or.inl c60 | exact Or.inr ⟨c67, by omega⟩))
            exact ih k (i + 1) i H locs ls (by omega) (by omega) (by omega) (by omega) (by omega) (hr2.trans hb) hR hS (lv_sub hl [0, 1, 5, 6] rfl)
          · skip
            refine lv_iload C.1 C.2.1 dX3_winningPlace_63 (lv_at hl 2 rfl) ?_
            refine lv_iload C.1 C.2.1 dX3_winningPlace_65 (lv_at hl 1 rfl) ?_
            refine lv_icmp_ne (tgt := 77) C.1 C.2.1 dX3_winningPlace_67 (by decide) (fun c67 => ?_) (fun c67 => ?_)
            · skip
              refine lv_iinc (v := nI (i + 1)) (lv' := [(3, .int (nI (i + 1))), (6, .int (nI 1)), (5, .int (S 4 (wr N (f + w)))), (4, .int (S 4 (wr N (f + i)))), (2, .int (nI w)), (0, .ref b), (1, .ref (aRg b f))]) C.1 C.2.1 dX3_winningPlace_77 hl (k := 3) rfl (nI_add _ _) (by decide) rfl (fun ls hl => ?_)
              refine lv_goto (tgt := 4) C.1 C.2.1 dX3_winningPlace_80 (by decide) ?_
              obtain ⟨k, rfl⟩ : ∃ k2, k = k2 + 1 := ⟨k - 1, by omega⟩
              have hb : wins N S f (k + 1) i w = wins N S f k (i + 1) w := congrArg (wins N S f k (i + 1)) (if_neg (by intro h; rcases h with h | ⟨h1, h2⟩; exact c60 h; first | exact c67 h1 | omega))
              exact ih k (i + 1) w H locs ls (by omega) (by omega) (by omega) (by omega) (by omega) (hr2.trans hb) hR hS (lv_sub hl [0, 4, 5, 6] rfl)
            · skip
              refine lv_iload C.1 C.2.1 dX3_winningPlace_70 (lv_at hl 0 rfl) ?_
              refine lv_if_eq (tgt := 77) C.1 C.2.1 dX3_winningPlace_72 (by decide) (fun c72 => ?_) (fun c72 => ?_)
              · skip
                exact absurd c72 (by decide)
              · skip
                refine lv_iload_n C.1 C.2.1 dX3_winningPlace_75 rfl (lv_at hl 3 rfl) ?_
                refine lv_istore_n (lv' := [(2, .int (nI i)), (6, .int (nI 1)), (5, .int (S 4 (wr N (f + w)))), (4, .int (S 4 (wr N (f + i)))), (3, .int (nI i)), (0, .ref b), (1, .ref (aRg b f))]) C.1 C.2.1 dX3_winningPlace_76 rfl hl (by decide) rfl (fun ls hl => ?_)
                refine lv_iinc (v := nI (i + 1)) (lv' := [(3, .int (nI (i + 1))), (2, .int (nI i)), (6, .int (nI 1)), (5, .int (S 4 (wr N (f + w)))), (4, .int (S 4 (wr N (f + i)))), (0, .ref b), (1, .ref (aRg b f))]) C.1 C.2.1 dX3_winningPlace_77 hl (k := 4) rfl (nI_add _ _) (by decide) rfl (fun ls hl => ?_)
                refine lv_goto (tgt := 4) C.1 C.2.1 dX3_winningPlace_80 (by decide) ?_
                obtain ⟨k, rfl⟩ : ∃ k2, k = k2 + 1 := ⟨k - 1, by omega⟩
                have hb : wins N S f (k + 1) i w = wins N S f k (i + 1) i := congrArg (wins N S f k (i + 1)) (if_pos (by first | exact Or.inl c60 | exact Or.inr ⟨c67, by omega⟩))
                exact ih k (i + 1) i H locs ls (by omega) (by omega) (by omega) (by omega) (by omega) (hr2.trans hb) hR hS (lv_sub hl [0, 1, 5, 6] rfl)
  exact lp _ (L - 1) 1 0 _ _ ls (Nat.lt_succ_self _) (by omega) (by omega) (by omega) (by omega) rfl hR hS (lv_sub hl [0, 1, 2, 3] rfl)

theorem reset_o {S : SX} {j g k : Nat} (h : g < 6 ∨ 11 < g) : s_X2_resetTimers S j g k = S g k := by
  unfold s_X2_resetTimers
  rw [up2_f (by omega), up2_f (by omega), up2_f (by omega), up2_f (by omega), up2_f (by omega), up2_f (by omega)]
def rst (N : Nat) (S : SX) (f : Nat) : Nat → SX
  | 0 => S
  | i + 1 => s_X2_resetTimers (rst N S f i) (wr N (f + i))
theorem rst_o {N : Nat} {S : SX} {f i g k : Nat} (h : g < 6 ∨ 11 < g) : rst N S f i g k = S g k := by
  induction i with
  | zero => rfl
  | succ i ih => simp only [rst]; rw [reset_o h, ih]
def opr (N : Nat) (S : SX) (f L : Nat) : SX := up2 (up2 (rst N S f L) 24 f (rst N S f L 4 (wr N (f + wins N S f (L - 1) 1 0)))) 25 f (nI (wins N S f (L - 1) 1 0))
theorem opr_o {N : Nat} {S : SX} {f L g k : Nat} (h : g < 6 ∨ 11 < g) (h1 : g ≠ 24) (h2 : g ≠ 25) : opr N S f L g k = S g k := by
  unfold opr
  rw [up2_f h2, up2_f h1, rst_o h]
set_option maxHeartbeats 4000000 in
set_option maxRecDepth 100000 in
theorem k_X3_operate (l : Launch) (g : GX) (b N : Nat) (S : SX) (Fl : FX) (hN : N ≤ 6) (f p L : Nat) (hf : f < N) (hp : p < N) (hL : L ≤ N) (hL1 : 1 ≤ L) (h20 : S 20 f = nI f) (h25 : S 25 f = nI p) (h21 : S 21 f = nI L) : MR l yX3_operate (.code yX3_operate cX3_operate 4 none :: tb) (rmk 3 71) g (RepX g b N S Fl) (RepX g b N (s_X3_leave (opr N S f L) f (wins N S f (L - 1) 1 0) L) Fl) (AX b N) [.ref b, .ref (aRg b f)] none := by
  refine MR.start RX3 (by decide) rfl (Nat.le_of_ble_eq_true rfl) (fun zp ze zs zm zb zt zc ls C hr hlk hR hS hl => ?_)
  have hl : lv_has ls 4 [(0, .ref b), (1, .ref (aRg b f))] := hl
  refine lv_aload_n C.1 C.2.1 dX3_operate_0 rfl (lv_at hl 0 rfl) ?_
  refine lv_aload_n C.1 C.2.1 dX3_operate_1 rfl (lv_at hl 1 rfl) ?_
  refine cxV (b := b) (As := [.ref (aRg b f)]) (rest := []) (ci := 3) (q := (RX3, TX3, 6)) C (k_X3_winningPlace l g b N S Fl hN f p L (by omega) (by omega) (by omega) (by omega) h20 h25 h21) cf_X3_winningPlace ml_X3_204 ⟨by decide, by decide⟩ ⟨rfl, rfl⟩ rfl (hR.1) rfl hl.1 rfl (Nat.le_of_ble_eq_true rfl) dX3_operate_2 hR ⟨Nat.zero_le _, Nat.zero_le _⟩ hS (fun _ h => h) (fun H locs hR hS _ _ => ?_)
  simp only [Option.toList, List.cons_append, List.nil_append]
  have hwin : wins N S f (L - 1) 1 0 < 1 + (L - 1) := wins_lt (L - 1) 1 0 (by omega)
  refine lv_istore_n (lv' := [(2, .int (nI (wins N S f (L - 1) 1 0))), (0, .ref b), (1, .ref (aRg b f))]) C.1 C.2.1 dX3_operate_5 rfl hl (by decide) rfl (fun ls hl => ?_)
  refine lv_iconst (v := nI 0) C.1 C.2.1 dX3_operate_6 (by decide) ?_
  refine lv_istore_n (lv' := [(3, .int (nI 0)), (2, .int (nI (wins N S f (L - 1) 1 0))), (0, .ref b), (1, .ref (aRg b f))]) C.1 C.2.1 dX3_operate_7 rfl hl (by decide) rfl (fun ls hl => ?_)
  have lp : ∀ (n : Nat) (i : Nat) (H : Heap) (locs : List Loc) (ls : Array Slot), L - i < n → i ≤ L → RepX g b N (rst N S f i) Fl H → va_S (AX b N) zs.heap H locs → lv_has ls 4 [(3, .int (nI i)), (2, .int (nI (wins N S f (L - 1) 1 0))), (0, .ref b), (1, .ref (aRg b f))] → W zp l ze (rmk 3 71) zs zm ([.ref b, .ref (aRg b f)] : List Value).toArray zb zt zc H locs 0 0 (MQ zb (QR (RepX g b N (s_X3_leave (opr N S f L) f (wins N S f (L - 1) 1 0) L) Fl) (AX b N) none) ([.ref b, .ref (aRg b f)] : List Value).toArray zs 0 0 (AX b N)) (F0 zm 8 ls []) := by
    intro n
    induction n with
    | zero => intro i H locs ls hm; exact absurd hm (Nat.not_lt_zero _)
    | succ n ih =>
      intro i H locs ls hm hi hR hS hl
      obtain ⟨S1, eS1⟩ : ∃ y, y = rst N S f i := ⟨_, rfl⟩
      rw [← eS1] at hR
      have g20 : S1 20 f = nI f := by rw [eS1, rst_o (by decide), h20]
      have g21 : S1 21 f = nI L := by rw [eS1, rst_o (by decide), h21]
      refine lv_iload_n C.1 C.2.1 dX3_operate_8 rfl (lv_at hl 0 rfl) ?_
      refine lv_aload_n C.1 C.2.1 dX3_operate_9 rfl (lv_at hl 3 rfl) ?_
      refine xR_get (j := f) C hR (by omega) 1 (by decide) rfl fl_X3_153 (v := .int (S1 21 f)) rfl dX3_operate_10 ?_
      refine lv_re (y := nI L) (by rw [g21]) ?_
      refine lv_icmp_ge (tgt := 31) C.1 C.2.1 dX3_operate_13 (by decide) (fun c13 => ?_) (fun c13 => ?_)
      · skip
        have c13 : L ≤ i := (nI_leI (a := L) (b := i) (by omega) (by omega)).mp c13
        refine lv_aload_n C.1 C.2.1 dX3_operate_31 rfl (lv_at hl 3 rfl) ?_
        refine lv_aload_n C.1 C.2.1 dX3_operate_32 rfl (lv_at hl 2 rfl) ?_
        refine lv_aload_n C.1 C.2.1 dX3_operate_33 rfl (lv_at hl 3 rfl) ?_
        refine lv_iload_n C.1 C.2.1 dX3_operate_34 rfl (lv_at hl 1 rfl) ?_
        refine cxV (b := b) (As := [.ref (aRg b f), .int (nI (wins N S f (L - 1) 1 0))]) (rest := [.ref (aRg b f)]) (ci := 3) (q := (RX3, TX3, 6)) C (k_X3_stationAt l g b N S1 Fl hN (f) (wins N S f (L - 1) 1 0) (by omega) (by omega) (by rw [g20])) cf_X3_stationAt ml_X3_178 ⟨by decide, by decide⟩ ⟨rfl, rfl⟩ rfl (hR.1) rfl hl.1 rfl (Nat.le_of_ble_eq_true rfl) dX3_operate_35 hR ⟨Nat.zero_le _, Nat.zero_le _⟩ hS (fun _ h => h) (fun H locs hR hS _ _ => ?_)
        simp only [Option.toList, List.cons_append, List.nil_append]
        have hw29 := wr_lt (N := N) (i := f + (wins N S f (L - 1) 1 0)) (by omega)
        refine xS_get (j := wr N (f + (wins N S f (L - 1) 1 0))) C hR (by omega) 4 (by decide) rfl fl_X3_40 (v := .int (S1 4 (wr N (f + (wins N S f (L - 1) 1 0))))) rfl dX3_operate_38 ?_
        refine xR_put (j := f) C hR hS (by omega) 4 (by decide) rfl rfl fl_X3_94 rfl rfl rgS_4 dX3_operate_41 (fun S2 H locs eS2 hR hS => ?_)
        refine lv_aload_n C.1 C.2.1 dX3_operate_44 rfl (lv_at hl 3 rfl) ?_
        refine lv_iload_n C.1 C.2.1 dX3_operate_45 rfl (lv_at hl 1 rfl) ?_
        refine xR_put (j := f) C hR hS (by omega) 5 (by decide) rfl rfl fl_X3_84 rfl rfl rgS_5 dX3_operate_46 (fun S3 H locs eS3 hR hS => ?_)
        refine lv_aload_n C.1 C.2.1 dX3_operate_49 rfl (lv_at hl 2 rfl) ?_
        refine lv_aload_n C.1 C.2.1 dX3_operate_50 rfl (lv_at hl 3 rfl) ?_
        refine cxV (b := b) (As := [.ref (aRg b f)]) (rest := []) (ci := 3) (q := (RX3, TX3, 6)) C (k_X3_leave l g b N S3 Fl hN f (wins N S f (L - 1) 1 0) L (by omega) (by omega) (by omega) (by omega) (by rw [eS3, up2_eq]) (by rw [eS3, up2_f (by decide), eS2, up2_f (by decide), g21])) cf_X3_leave ml_X3_211 ⟨by decide, by decide⟩ ⟨rfl, rfl⟩ rfl (hR.1) rfl hl.1 rfl (Nat.le_of_ble_eq_true rfl) dX3_operate_51 hR ⟨Nat.zero_le _, Nat.zero_le _⟩ hS (fun _ h => h) (fun H locs hR hS _ _ => ?_)
        obtain ⟨S4, eS4⟩ : ∃ y, y = s_X3_leave S3 f (wins N S f (L - 1) 1 0) L := ⟨_, rfl⟩
        rw [← eS4] at hR
        simp only [Option.toList, List.nil_append]
        have hi2 : i = L := by omega
        have hs : s_X3_leave (opr N S f L) f (wins N S f (L - 1) 1 0) L = S4 := by rw [eS4, eS3, eS2, eS1, hi2]; rfl
        rw [hs]
        exact endv C hr hlk hR hS dX3_operate_54
      · skip
        have c13 : ¬ (L ≤ i) := mt (nI_leI (a := L) (b := i) (by omega) (by omega)).mpr c13
        refine lv_aload_n C.1 C.2.1 dX3_operate_16 rfl (lv_at hl 2 rfl) ?_
        refine lv_aload_n C.1 C.2.1 dX3_operate_17 rfl (lv_at hl 3 rfl) ?_
        refine lv_iload_n C.1 C.2.1 dX3_operate_18 rfl (lv_at hl 0 rfl) ?_
        refine cxV (b := b) (As := [.ref (aRg b f), .int (nI i)]) (rest := []) (ci := 3) (q := (RX3, TX3, 6)) C (k_X3_stationAt l g b N S1 Fl hN (f) (i) (by omega) (by omega) (by rw [g20])) cf_X3_stationAt ml_X3_178 ⟨by decide, by decide⟩ ⟨rfl, rfl⟩ rfl (hR.1) rfl hl.1 rfl (Nat.le_of_ble_eq_true rfl) dX3_operate_19 hR ⟨Nat.zero_le _, Nat.zero_le _⟩ hS (fun _ h => h) (fun H locs hR hS _ _ => ?_)
        simp only [Option.toList, List.cons_append, List.nil_append]
        have hw50 := wr_lt (N := N) (i := f + i) (by omega)
        refine cxV (b := aSt b (wr N (f + i))) (As := []) (rest := []) (ci := 2) (q := (RX2, TX2, 19)) C (k_X2_resetTimers l g b N S1 Fl hN (wr N (f + i)) (by omega)) cf_X2_resetTimers ml_X3_208 ⟨by decide, by decide⟩ ⟨rfl, rfl⟩ rfl (hR.2.2.2.2.1 _ (by omega)) rfl hl.1 rfl (Nat.le_of_ble_eq_true rfl) dX3_operate_22 hR ⟨Nat.zero_le _, Nat.zero_le _⟩ hS (fun _ h => h) (fun H locs hR hS _ _ => ?_)
        obtain ⟨S5, eS5⟩ : ∃ y, y = s_X2_resetTimers S1 (wr N (f + i)) := ⟨_, rfl⟩
        rw [← eS5] at hR
        simp only [Option.toList, List.nil_append]
        refine lv_iinc (v := nI (i + 1)) (lv' := [(3, .int (nI (i + 1))), (2, .int (nI (wins N S f (L - 1) 1 0))), (0, .ref b), (1, .ref (aRg b f))]) C.1 C.2.1 dX3_operate_25 hl (k := 0) rfl (nI_add _ _) (by decide) rfl (fun ls hl => ?_)
        refine lv_goto (tgt := 8) C.1 C.2.1 dX3_operate_28 (by decide) ?_
        have hb : rst N S f (i + 1) = S5 := by rw [eS5, eS1]; rfl
        rw [← hb] at hR
        exact ih (i + 1) H locs ls (by omega) (by omega) hR hS (lv_sub hl [0, 1, 2, 3] rfl)
  exact lp _ 0 _ _ ls (Nat.lt_succ_self _) (by omega) hR hS (lv_sub hl [0, 1, 2, 3] rfl)

theorem run_o {S : SX} {j g k : Nat} {T : Int32} (h : g ≠ 6) (h1 : g ≠ 7) (h2 : g ≠ 10) : s_X2_runTimer S j T g k = S g k := by
  unfold s_X2_runTimer
  split
  · rw [up2_f h1, up2_f h, up2_f h, up2_f h2]
  · rw [up2_f h, up2_f h2]
def rtS (N f : Nat) (T : Int32) : Nat → Nat → SX → SX
  | 0, _, S => S
  | n + 1, i, S => if s_X2_runTimer S (wr N (f + i)) T 7 (wr N (f + i)) < nI 2 then rtS N f T n (i + 1) (s_X2_runTimer S (wr N (f + i)) T) else s_X2_runTimer S (wr N (f + i)) T
def rtB (N f : Nat) (T : Int32) : Nat → Nat → SX → Bool
  | 0, _, _ => true
  | n + 1, i, S => if s_X2_runTimer S (wr N (f + i)) T 7 (wr N (f + i)) < nI 2 then rtB N f T n (i + 1) (s_X2_runTimer S (wr N (f + i)) T) else false
theorem rtS_o {N f : Nat} {T : Int32} {g k : Nat} (h : g ≠ 6) (h1 : g ≠ 7) (h2 : g ≠ 10) : ∀ (n i : Nat) (S : SX), rtS N f T n i S g k = S g k := by
  intro n
  induction n with
  | zero => intro i S; rfl
  | succ n ih =>
    intro i S
    simp only [rtS]
    split
    · rw [ih, run_o h h1 h2]
    · exact run_o h h1 h2
set_option maxHeartbeats 4000000 in
set_option maxRecDepth 100000 in
theorem k_X3_runTimers (l : Launch) (g : GX) (b N : Nat) (S : SX) (Fl : FX) (hN : N ≤ 6) (f p L : Nat) (hf : f < N) (hp : p < N) (hL : L ≤ N) (hL1 : 1 ≤ L) (h20 : S 20 f = nI f) (h25 : S 25 f = nI p) (h21 : S 21 f = nI L) : MR l yX3_runTimers (.code yX3_runTimers cX3_runTimers 4 (some .boolean) :: tb) (rmk 2 45) g (RepX g b N S Fl) (RepX g b N (rtS N f (S 24 f) L 0 S) Fl) (AX b N) [.ref b, .ref (aRg b f)] (some (.int (bI (rtB N f (S 24 f) L 0 S)))) := by
  refine MR.start RX3 (by decide) rfl (Nat.le_of_ble_eq_true rfl) (fun zp ze zs zm zb zt zc ls C hr hlk hR hS hl => ?_)
  have hl : lv_has ls 4 [(0, .ref b), (1, .ref (aRg b f))] := hl
  refine lv_iconst (v := nI 0) C.1 C.2.1 dX3_runTimers_0 (by decide) ?_
  refine lv_istore_n (lv' := [(2, .int (nI 0)), (0, .ref b), (1, .ref (aRg b f))]) C.1 C.2.1 dX3_runTimers_1 rfl hl (by decide) rfl (fun ls hl => ?_)
  have lp : ∀ (n : Nat) (k : Nat) (i : Nat) (U : SX) (H : Heap) (locs : List Loc) (ls : Array Slot), k < n → i + k = L → rtS N f (S 24 f) L 0 S = rtS N f (S 24 f) k i U → rtB N f (S 24 f) L 0 S = rtB N f (S 24 f) k i U → U 20 f = nI f → U 21 f = nI L → U 24 f = S 24 f → RepX g b N U Fl H → va_S (AX b N) zs.heap H locs → lv_has ls 4 [(2, .int (nI i)), (0, .ref b), (1, .ref (aRg b f))] → W zp l ze (rmk 2 45) zs zm ([.ref b, .ref (aRg b f)] : List Value).toArray zb zt zc H locs 0 0 (MQ zb (QR (RepX g b N (rtS N f (S 24 f) L 0 S) Fl) (AX b N) (some (.int (bI (rtB N f (S 24 f) L 0 S))))) ([.ref b, .ref (aRg b f)] : List Value).toArray zs 0 0 (AX b N)) (F0 zm 2 ls []) := by
    intro n
    induction n with
    | zero => intro k i U H locs ls hm; exact absurd hm (Nat.not_lt_zero _)
    | succ n ih =>
      intro k i U H locs ls hm hk hr1 hr2 u20 u21 u24 hR hS hl
      obtain ⟨S1, eS1⟩ : ∃ y, y = U := ⟨_, rfl⟩
      rw [← eS1] at hR
      have g20 : S1 20 f = nI f := by rw [eS1]; exact u20
      have g21 : S1 21 f = nI L := by rw [eS1]; exact u21
      have g24 : S1 24 f = S 24 f := by rw [eS1]; exact u24
      refine lv_iload_n C.1 C.2.1 dX3_runTimers_2 rfl (lv_at hl 0 rfl) ?_
      refine lv_aload_n C.1 C.2.1 dX3_runTimers_3 rfl (lv_at hl 2 rfl) ?_
      refine xR_get (j := f) C hR (by omega) 1 (by decide) rfl fl_X3_153 (v := .int (S1 21 f)) rfl dX3_runTimers_4 ?_
      refine lv_re (y := nI L) (by rw [g21]) ?_
      refine lv_icmp_ge (tgt := 41) C.1 C.2.1 dX3_runTimers_7 (by decide) (fun c7 => ?_) (fun c7 => ?_)
      · skip
        have c7 : L ≤ i := (nI_leI (a := L) (b := i) (by omega) (by omega)).mp c7
        refine lv_iconst (v := nI 1) C.1 C.2.1 dX3_runTimers_41 (by decide) ?_
        have hk0 : k = 0 := by omega
        subst hk0
        have hs : rtS N f (S 24 f) L 0 S = S1 := hr1.trans eS1.symm
        rw [hs]
        have hv : bI (rtB N f (S 24 f) L 0 S) = nI 1 := by rw [hr2]; rfl
        rw [hv]
        exact endz C hr hlk (Or.inr rfl) hR hS dX3_runTimers_42
      · skip
        have c7 : ¬ (L ≤ i) := mt (nI_leI (a := L) (b := i) (by omega) (by omega)).mpr c7
        refine lv_aload_n C.1 C.2.1 dX3_runTimers_10 rfl (lv_at hl 1 rfl) ?_
        refine lv_aload_n C.1 C.2.1 dX3_runTimers_11 rfl (lv_at hl 2 rfl) ?_
        refine lv_iload_n C.1 C.2.1 dX3_runTimers_12 rfl (lv_at hl 0 rfl) ?_
        refine cxV (b := b) (As := [.ref (aRg b f), .int (nI i)]) (rest := []) (ci := 3) (q := (RX3, TX3, 6)) C (k_X3_stationAt l g b N S1 Fl hN (f) (i) (by omega) (by omega) (by rw [g20])) cf_X3_stationAt ml_X3_178 ⟨by decide, by decide⟩ ⟨rfl, rfl⟩ rfl (hR.1) rfl hl.1 rfl (Nat.le_of_ble_eq_true rfl) dX3_runTimers_13 hR ⟨Nat.zero_le _, Nat.zero_le _⟩ hS (fun _ h => h) (fun H locs hR hS _ _ => ?_)
        simp only [Option.toList, List.cons_append, List.nil_append]
        have hw28 := wr_lt (N := N) (i := f + i) (by omega)
        refine lv_astore_n (lv' := [(3, .ref (aSt b (wr N (f + i)))), (2, .int (nI i)), (0, .ref b), (1, .ref (aRg b f))]) C.1 C.2.1 dX3_runTimers_16 rfl hl (by decide) rfl (fun ls hl => ?_)
        refine lv_aload_n C.1 C.2.1 dX3_runTimers_17 rfl (lv_at hl 0 rfl) ?_
        refine lv_aload_n C.1 C.2.1 dX3_runTimers_18 rfl (lv_at hl 3 rfl) ?_
        refine xR_get (j := f) C hR (by omega) 4 (by decide) rfl fl_X3_94 (v := .int (S1 24 f)) rfl dX3_runTimers_19 ?_
        refine lv_re (y := S 24 f) (by rw [g24]) ?_
        refine cxV (b := aSt b (wr N (f + i))) (As := [.int (S 24 f)]) (rest := []) (ci := 2) (q := (RX2, TX2, 19)) C (k_X2_runTimer l g b N S1 Fl hN (wr N (f + i)) (by omega) (S 24 f)) cf_X2_runTimer ml_X3_214 ⟨by decide, by decide⟩ ⟨rfl, rfl⟩ rfl (hR.2.2.2.2.1 _ (by omega)) rfl hl.1 rfl (Nat.le_of_ble_eq_true rfl) dX3_runTimers_22 hR ⟨Nat.zero_le _, Nat.zero_le _⟩ hS (fun _ h => h) (fun H locs hR hS _ _ => ?_)
        obtain ⟨S2, eS2⟩ : ∃ y, y = s_X2_runTimer S1 (wr N (f + i)) (S 24 f) := ⟨_, rfl⟩
        rw [← eS2] at hR
        simp only [Option.toList, List.nil_append]
        refine lv_aload_n C.1 C.2.1 dX3_runTimers_25 rfl (lv_at hl 0 rfl) ?_
        refine xS_get (j := wr N (f + i)) C hR (by omega) 7 (by decide) rfl fl_X3_100 (v := .int (S2 7 (wr N (f + i)))) rfl dX3_runTimers_26 ?_
        refine lv_iconst (v := nI 2) C.1 C.2.1 dX3_runTimers_29 (by decide) ?_
        refine lv_icmp_lt (tgt := 35) C.1 C.2.1 dX3_runTimers_30 (by decide) (fun c30 => ?_) (fun c30 => ?_)
        · skip
          rw [eS2] at c30
          refine lv_iinc (v := nI (i + 1)) (lv' := [(2, .int (nI (i + 1))), (3, .ref (aSt b (wr N (f + i)))), (0, .ref b), (1, .ref (aRg b f))]) C.1 C.2.1 dX3_runTimers_35 hl (k := 1) rfl (nI_add _ _) (by decide) rfl (fun ls hl => ?_)
          refine lv_goto (tgt := 2) C.1 C.2.1 dX3_runTimers_38 (by decide) ?_
          obtain ⟨k, rfl⟩ : ∃ k2, k = k2 + 1 := ⟨k - 1, by omega⟩
          rw [eS1] at c30
          have hb1 : rtS N f (S 24 f) (k + 1) i U = rtS N f (S 24 f) k (i + 1) S2 := (if_pos c30).trans (by rw [eS2, eS1])
          have hb2 : rtB N f (S 24 f) (k + 1) i U = rtB N f (S 24 f) k (i + 1) S2 := (if_pos c30).trans (by rw [eS2, eS1])
          exact ih k (i + 1) S2 H locs ls (by omega) (by omega) (hr1.trans hb1) (hr2.trans hb2) (by rw [eS2, eS1, run_o (by decide) (by decide) (by decide)]; exact u20) (by rw [eS2, eS1, run_o (by decide) (by decide) (by decide)]; exact u21) (by rw [eS2, eS1, run_o (by decide) (by decide) (by decide)]; exact u24) hR hS (lv_sub hl [0, 2, 3] rfl)
        · skip
          rw [eS2] at c30
          refine lv_iconst (v := nI 0) C.1 C.2.1 dX3_runTimers_33 (by decide) ?_
          obtain ⟨k, rfl⟩ : ∃ k2, k = k2 + 1 := ⟨k - 1, by omega⟩
          rw [eS1] at c30
          have hs : rtS N f (S 24 f) L 0 S = S2 := hr1.trans ((if_neg c30).trans (by rw [eS2, eS1]))
          rw [hs]
          have hv : bI (rtB N f (S 24 f) L 0 S) = nI 0 := by rw [hr2.trans (if_neg c30)]; rfl
          rw [hv]
          exact endz C hr hlk (Or.inl rfl) hR hS dX3_runTimers_34
  exact lp _ L 0 S _ _ ls (Nat.lt_succ_self _) (by omega) rfl rfl h20 h21 rfl hR hS (lv_sub hl [0, 1, 2] rfl)

def s_X2_takeToken (S : SX) (j : Nat) (bf T : Int32) : SX := if S 7 j = 0 then (up2 (up2 (up2 (up2 (up2 (up2 S 12 j bf) 10 j (nI 0)) 11 j (nI 1)) 8 j (T - (S 6 j))) 6 j (nI 0)) 9 j (S 5 j)) else (up2 (up2 (up2 (up2 (up2 (up2 S 12 j bf) 10 j (nI 0)) 11 j (nI 1)) 8 j (nI 0)) 7 j (nI 0)) 9 j (S 5 j))
def f_X2_takeToken (S : SX) (Fl : FX) (j : Nat) (bf T : Int32) : FX := va_up Fl j (FP.fadd (Fl j) (FP.fmul (FP.fsub (FP.i2f (S 10 j)) (Fl j)) 1048576000))
set_option maxHeartbeats 4000000 in
set_option maxRecDepth 100000 in
theorem k_X2_takeToken (l : Launch) (g : GX) (b N : Nat) (S : SX) (Fl : FX) (hN : N ≤ 6) (j : Nat) (hj : j < N) (bf T : Int32) (hF : fOK (Fl j))  : MR l yX2_takeToken (.code yX2_takeToken cX2_takeToken 3 none :: tb) (rmk 0 0) g (RepX g b N S Fl) (RepX g b N (s_X2_takeToken S j bf T) (f_X2_takeToken S Fl j bf T)) (AX b N) [.ref (aSt b j), .int bf, .int T] none := by
  refine MR.start RX2 (by decide) rfl (Nat.le_of_ble_eq_true rfl) (fun zp ze zs zm zb zt zc ls C hr hlk hR hS hl => ?_)
  have hl : lv_has ls 3 [(0, .ref (aSt b j)), (1, .int bf), (2, .int T)] := hl
  refine lv_aload_n C.1 C.2.1 dX2_takeToken_0 rfl (lv_at hl 0 rfl) ?_
  refine lv_iload_n C.1 C.2.1 dX2_takeToken_1 rfl (lv_at hl 1 rfl) ?_
  refine xS_put (j := j) C hR hS (by omega) 12 (by decide) rfl rfl fl_X2_32 rfl rfl stS_12 dX2_takeToken_2 (fun S1 H locs eS1 hR hS => ?_)
  refine lv_aload_n C.1 C.2.1 dX2_takeToken_5 rfl (lv_at hl 0 rfl) ?_
  refine lv_aload_n C.1 C.2.1 dX2_takeToken_6 rfl (lv_at hl 0 rfl) ?_
  refine xS_get (j := j) C hR (by omega) 13 (by decide) rfl fl_X2_59 (v := .float (Fl j)) rfl dX2_takeToken_7 ?_
  refine lv_aload_n C.1 C.2.1 dX2_takeToken_10 rfl (lv_at hl 0 rfl) ?_
  refine xS_get (j := j) C hR (by omega) 10 (by decide) rfl fl_X2_53 (v := .int (S1 10 j)) rfl dX2_takeToken_11 ?_
  refine lv_re (y := S 10 j) (by rw [eS1, up2_f (by decide)]) ?_
  refine lv_i2f C.1 C.2.1 dX2_takeToken_14 ?_
  refine lv_aload_n C.1 C.2.1 dX2_takeToken_15 rfl (lv_at hl 0 rfl) ?_
  refine xS_get (j := j) C hR (by omega) 13 (by decide) rfl fl_X2_59 (v := .float (Fl j)) rfl dX2_takeToken_16 ?_
  refine lv_fsub C.1 C.2.1 dX2_takeToken_19 ((fOK_step hF (S 10 j)).1) ?_
  refine lv_ldcf C.1 C.2.1 C.2.2.2.1 (C.2.2.2.2.1 _ kf_X2_63) dX2_takeToken_20 ?_
  refine lv_fmul C.1 C.2.1 dX2_takeToken_22 ((fOK_step hF (S 10 j)).2.1) ?_
  refine lv_fadd C.1 C.2.1 dX2_takeToken_23 ((fOK_step hF (S 10 j)).2.2.1) ?_
  refine xF_put (j := j) C hR hS (by omega) fl_X2_59 dX2_takeToken_24 (fun F2 H locs eF2 hR hS => ?_)
  refine lv_aload_n C.1 C.2.1 dX2_takeToken_27 rfl (lv_at hl 0 rfl) ?_
  refine lv_iconst (v := nI 0) C.1 C.2.1 dX2_takeToken_28 (by decide) ?_
  refine xS_put (j := j) C hR hS (by omega) 10 (by decide) rfl rfl fl_X2_53 rfl rfl stS_10 dX2_takeToken_29 (fun S3 H locs eS3 hR hS => ?_)
  refine lv_aload_n C.1 C.2.1 dX2_takeToken_32 rfl (lv_at hl 0 rfl) ?_
  refine lv_iconst (v := nI 1) C.1 C.2.1 dX2_takeToken_33 (by decide) ?_
  refine xS_put (j := j) C hR hS (by omega) 11 (by decide) rfl rfl fl_X2_56 (nz_n (Or.inr rfl)) (nz_f (Or.inr rfl)) stS_11 dX2_takeToken_34 (fun S4 H locs eS4 hR hS => ?_)
  refine lv_aload_n C.1 C.2.1 dX2_takeToken_37 rfl (lv_at hl 0 rfl) ?_
  refine xS_get (j := j) C hR (by omega) 7 (by decide) rfl fl_X2_44 (v := .int (S4 7 j)) rfl dX2_takeToken_38 ?_
  refine lv_re (y := S 7 j) (by rw [eS4, up2_f (by decide), eS3, up2_f (by decide), eS1, up2_f (by decide)]) ?_
  refine lv_if_ne (tgt := 62) C.1 C.2.1 dX2_takeToken_41 (by decide) (fun c41 => ?_) (fun c41 => ?_)
  · skip
    refine lv_aload_n C.1 C.2.1 dX2_takeToken_62 rfl (lv_at hl 0 rfl) ?_
    refine lv_iconst (v := nI 0) C.1 C.2.1 dX2_takeToken_63 (by decide) ?_
    refine xS_put (j := j) C hR hS (by omega) 8 (by decide) rfl rfl fl_X2_47 rfl rfl stS_8 dX2_takeToken_64 (fun S5 H locs eS5 hR hS => ?_)
    refine lv_aload_n C.1 C.2.1 dX2_takeToken_67 rfl (lv_at hl 0 rfl) ?_
    refine lv_iconst (v := nI 0) C.1 C.2.1 dX2_takeToken_68 (by decide) ?_
    refine xS_put (j := j) C hR hS (by omega) 7 (by decide) rfl rfl fl_X2_44 rfl rfl stS_7 dX2_takeToken_69 (fun S6 H locs eS6 hR hS => ?_)
    refine lv_aload_n C.1 C.2.1 dX2_takeToken_72 rfl (lv_at hl 0 rfl) ?_
    refine lv_aload_n C.1 C.2.1 dX2_takeToken_73 rfl (lv_at hl 0 rfl) ?_
    refine xS_get (j := j) C hR (by omega) 5 (by decide) rfl fl_X2_64 (v := .int (S6 5 j)) rfl dX2_takeToken_74 ?_
    refine lv_re (y := S 5 j) (by rw [eS6, up2_f (by decide), eS5, up2_f (by decide), eS4, up2_f (by decide), eS3, up2_f (by decide), eS1, up2_f (by decide)]) ?_
    refine xS_put (j := j) C hR hS (by omega) 9 (by decide) rfl rfl fl_X2_50 rfl rfl stS_9 dX2_takeToken_77 (fun S7 H locs eS7 hR hS => ?_)
    have hs : s_X2_takeToken S j bf T = S7 := (if_neg c41).trans (by rw [eS7, eS6, eS5, eS4, eS3, eS1])
    rw [hs]
    have hf : f_X2_takeToken S Fl j bf T = F2 := (show _ = va_up Fl j (FP.fadd (Fl j) (FP.fmul (FP.fsub (FP.i2f (S 10 j)) (Fl j)) 1048576000)) from rfl).trans (by rw [eF2]; try simp only [eS7, eS6, eS5, eS4, eS3, eS1, true_and])
    rw [hf]
    exact endv C hr hlk hR hS dX2_takeToken_80
  · skip
    refine lv_aload_n C.1 C.2.1 dX2_takeToken_44 rfl (lv_at hl 0 rfl) ?_
    refine lv_iload_n C.1 C.2.1 dX2_takeToken_45 rfl (lv_at hl 2 rfl) ?_
    refine lv_aload_n C.1 C.2.1 dX2_takeToken_46 rfl (lv_at hl 0 rfl) ?_
    refine xS_get (j := j) C hR (by omega) 6 (by decide) rfl fl_X2_41 (v := .int (S4 6 j)) rfl dX2_takeToken_47 ?_
    refine lv_re (y := S 6 j) (by rw [eS4, up2_f (by decide), eS3, up2_f (by decide), eS1, up2_f (by decide)]) ?_
    refine lv_isub C.1 C.2.1 dX2_takeToken_50 ?_
    refine xS_put (j := j) C hR hS (by omega) 8 (by decide) rfl rfl fl_X2_47 rfl rfl stS_8 dX2_takeToken_51 (fun S8 H locs eS8 hR hS => ?_)
    refine lv_aload_n C.1 C.2.1 dX2_takeToken_54 rfl (lv_at hl 0 rfl) ?_
    refine lv_iconst (v := nI 0) C.1 C.2.1 dX2_takeToken_55 (by decide) ?_
    refine xS_put (j := j) C hR hS (by omega) 6 (by decide) rfl rfl fl_X2_41 rfl rfl stS_6 dX2_takeToken_56 (fun S9 H locs eS9 hR hS => ?_)
    refine lv_goto (tgt := 72) C.1 C.2.1 dX2_takeToken_59 (by decide) ?_
    refine lv_aload_n C.1 C.2.1 dX2_takeToken_72 rfl (lv_at hl 0 rfl) ?_
    refine lv_aload_n C.1 C.2.1 dX2_takeToken_73 rfl (lv_at hl 0 rfl) ?_
    refine xS_get (j := j) C hR (by omega) 5 (by decide) rfl fl_X2_64 (v := .int (S9 5 j)) rfl dX2_takeToken_74 ?_
    refine lv_re (y := S 5 j) (by rw [eS9, up2_f (by decide), eS8, up2_f (by decide), eS4, up2_f (by decide), eS3, up2_f (by decide), eS1, up2_f (by decide)]) ?_
    refine xS_put (j := j) C hR hS (by omega) 9 (by decide) rfl rfl fl_X2_50 rfl rfl stS_9 dX2_takeToken_77 (fun S10 H locs eS10 hR hS => ?_)
    have hs : s_X2_takeToken S j bf T = S10 := (if_pos c41).trans (by rw [eS10, eS9, eS8, eS4, eS3, eS1])
    rw [hs]
    have hf : f_X2_takeToken S Fl j bf T = F2 := (show _ = va_up Fl j (FP.fadd (Fl j) (FP.fmul (FP.fsub (FP.i2f (S 10 j)) (Fl j)) 1048576000)) from rfl).trans (by rw [eF2]; try simp only [eS10, eS9, eS8, eS4, eS3, eS1, true_and])
    rw [hf]
    exact endv C hr hlk hR hS dX2_takeToken_80

def s_X3_arrive (S : SX) (N : Nat) (f p L : Nat) : SX := if S 11 (wr N (f + p)) = 0 then (if p = 0 then (up2 (s_X2_takeToken S (wr N (f + p)) (nI (wr N (f + (L - 1)))) (S 24 f)) 29 f (nI 0)) else (up2 (s_X2_takeToken S (wr N (f + p)) (nI (wr N (f + (p - 1)))) (S 24 f)) 29 f (nI 0))) else (if S 10 (wr N (f + p)) ≤ S 46 0 then (if p = 0 then (up2 (s_X2_takeToken S (wr N (f + p)) (nI (wr N (f + (L - 1)))) (S 24 f)) 29 f (nI 0)) else (up2 (s_X2_takeToken S (wr N (f + p)) (nI (wr N (f + (p - 1)))) (S 24 f)) 29 f (nI 0))) else (if p = 0 then (up2 (s_X2_takeToken (up2 S 46 0 (S 10 (wr N (f + p)))) (wr N (f + p)) (nI (wr N (f + (L - 1)))) (S 24 f)) 29 f (nI 0)) else (up2 (s_X2_takeToken (up2 S 46 0 (S 10 (wr N (f + p)))) (wr N (f + p)) (nI (wr N (f + (p - 1)))) (S 24 f)) 29 f (nI 0))))
def f_X3_arrive (S : SX) (Fl : FX) (N : Nat) (f p L : Nat) : FX := if S 11 (wr N (f + p)) = 0 then (if p = 0 then (f_X2_takeToken S Fl (wr N (f + p)) (nI (wr N (f + (L - 1)))) (S 24 f)) else (f_X2_takeToken S Fl (wr N (f + p)) (nI (wr N (f + (p - 1)))) (S 24 f))) else (if S 10 (wr N (f + p)) ≤ S 46 0 then (if p = 0 then (f_X2_takeToken S Fl (wr N (f + p)) (nI (wr N (f + (L - 1)))) (S 24 f)) else (f_X2_takeToken S Fl (wr N (f + p)) (nI (wr N (f + (p - 1)))) (S 24 f))) else (if p = 0 then (f_X2_takeToken (up2 S 46 0 (S 10 (wr N (f + p)))) Fl (wr N (f + p)) (nI (wr N (f + (L - 1)))) (S 24 f)) else (f_X2_takeToken (up2 S 46 0 (S 10 (wr N (f + p)))) Fl (wr N (f + p)) (nI (wr N (f + (p - 1)))) (S 24 f))))
set_option maxHeartbeats 4000000 in
set_option maxRecDepth 100000 in
theorem k_X3_arrive (l : Launch) (g : GX) (b N : Nat) (S : SX) (Fl : FX) (hN : N ≤ 6) (f p L : Nat) (hf : f < N) (hp : p < N) (hL : L ≤ N) (hL1 : 1 ≤ L) (h20 : S 20 f = nI f) (h25 : S 25 f = nI p) (h21 : S 21 f = nI L) (hF : fOK (Fl (wr N (f + p))))  : MR l yX3_arrive (.code yX3_arrive cX3_arrive 4 none :: tb) (rmk 2 45) g (RepX g b N S Fl) (RepX g b N (s_X3_arrive S N f p L) (f_X3_arrive S Fl N f p L)) (AX b N) [.ref b, .ref (aRg b f)] none := by
  refine MR.start RX3 (by decide) rfl (Nat.le_of_ble_eq_true rfl) (fun zp ze zs zm zb zt zc ls C hr hlk hR hS hl => ?_)
  have hl : lv_has ls 4 [(0, .ref b), (1, .ref (aRg b f))] := hl
  refine lv_aload_n C.1 C.2.1 dX3_arrive_0 rfl (lv_at hl 0 rfl) ?_
  refine lv_aload_n C.1 C.2.1 dX3_arrive_1 rfl (lv_at hl 1 rfl) ?_
  refine lv_aload_n C.1 C.2.1 dX3_arrive_2 rfl (lv_at hl 1 rfl) ?_
  refine xR_get (j := f) C hR (by omega) 5 (by decide) rfl fl_X3_84 (v := .int (S 25 f)) rfl dX3_arrive_3 ?_
  refine lv_re (y := nI p) (by rw [h25]) ?_
  refine cxV (b := b) (As := [.ref (aRg b f), .int (nI p)]) (rest := []) (ci := 3) (q := (RX3, TX3, 6)) C (k_X3_stationAt l g b N S Fl hN (f) (p) (by omega) (by omega) (by rw [h20])) cf_X3_stationAt ml_X3_178 ⟨by decide, by decide⟩ ⟨rfl, rfl⟩ rfl (hR.1) rfl hl.1 rfl (Nat.le_of_ble_eq_true rfl) dX3_arrive_6 hR ⟨Nat.zero_le _, Nat.zero_le _⟩ hS (fun _ h => h) (fun H locs hR hS _ _ => ?_)
  simp only [Option.toList, List.cons_append, List.nil_append]
  have hw5 := wr_lt (N := N) (i := f + p) (by omega)
  refine lv_astore_n (lv' := [(2, .ref (aSt b (wr N (f + p)))), (0, .ref b), (1, .ref (aRg b f))]) C.1 C.2.1 dX3_arrive_9 rfl hl (by decide) rfl (fun ls hl => ?_)
  refine lv_aload_n C.1 C.2.1 dX3_arrive_10 rfl (lv_at hl 0 rfl) ?_
  refine xS_get (j := wr N (f + p)) C hR (by omega) 11 (by decide) rfl fl_X3_226 (v := .int (S 11 (wr N (f + p)))) rfl dX3_arrive_11 ?_
  refine lv_if_eq (tgt := 36) C.1 C.2.1 dX3_arrive_14 (by decide) (fun c14 => ?_) (fun c14 => ?_)
  · skip
    refine lv_aload_n C.1 C.2.1 dX3_arrive_36 rfl (lv_at hl 2 rfl) ?_
    refine xR_get (j := f) C hR (by omega) 5 (by decide) rfl fl_X3_84 (v := .int (S 25 f)) rfl dX3_arrive_37 ?_
    refine lv_re (y := nI p) (by rw [h25]) ?_
    refine lv_if_ne (tgt := 52) C.1 C.2.1 dX3_arrive_40 (by decide) (fun c40 => ?_) (fun c40 => ?_)
    · skip
      have c40 : ¬ (p = 0) := mt (nI_eq (a := p) (b := 0) (by omega) (by omega)).mpr c40
      refine lv_aload_n C.1 C.2.1 dX3_arrive_52 rfl (lv_at hl 2 rfl) ?_
      refine xR_get (j := f) C hR (by omega) 5 (by decide) rfl fl_X3_84 (v := .int (S 25 f)) rfl dX3_arrive_53 ?_
      refine lv_re (y := nI p) (by rw [h25]) ?_
      refine lv_iconst (v := nI 1) C.1 C.2.1 dX3_arrive_56 (by decide) ?_
      refine n_isub C (by omega) dX3_arrive_57 ?_
      refine lv_istore_n (lv' := [(3, .int (nI (p - 1))), (2, .ref (aSt b (wr N (f + p)))), (0, .ref b), (1, .ref (aRg b f))]) C.1 C.2.1 dX3_arrive_58 rfl hl (by decide) rfl (fun ls hl => ?_)
      refine lv_aload_n C.1 C.2.1 dX3_arrive_59 rfl (lv_at hl 1 rfl) ?_
      refine lv_aload_n C.1 C.2.1 dX3_arrive_60 rfl (lv_at hl 2 rfl) ?_
      refine lv_aload_n C.1 C.2.1 dX3_arrive_61 rfl (lv_at hl 3 rfl) ?_
      refine lv_iload_n C.1 C.2.1 dX3_arrive_62 rfl (lv_at hl 0 rfl) ?_
      refine cxV (b := b) (As := [.ref (aRg b f), .int (nI (p - 1))]) (rest := [.ref (aSt b (wr N (f + p)))]) (ci := 3) (q := (RX3, TX3, 6)) C (kn_numberAt l g b N S Fl hN (f) (p - 1) (by omega) (by omega) (by rw [h20])) cf_X3_numberAt ml_X3_87 ⟨by decide, by decide⟩ ⟨rfl, rfl⟩ rfl (hR.1) rfl hl.1 rfl (Nat.le_of_ble_eq_true rfl) dX3_arrive_63 hR ⟨Nat.zero_le _, Nat.zero_le _⟩ hS (fun _ h => h) (fun H locs hR hS _ _ => ?_)
      simp only [Option.toList, List.cons_append, List.nil_append]
      have hw29 := wr_lt (N := N) (i := f + (p - 1)) (by omega)
      refine lv_aload_n C.1 C.2.1 dX3_arrive_66 rfl (lv_at hl 3 rfl) ?_
      refine xR_get (j := f) C hR (by omega) 4 (by decide) rfl fl_X3_94 (v := .int (S 24 f)) rfl dX3_arrive_67 ?_
      refine cxV (b := aSt b (wr N (f + p))) (As := [.int (nI (wr N (f + (p - 1)))), .int (S 24 f)]) (rest := []) (ci := 2) (q := (RX2, TX2, 19)) C (k_X2_takeToken l g b N S Fl hN (wr N (f + p)) (by omega) (nI (wr N (f + (p - 1)))) (S 24 f) hF) cf_X2_takeToken ml_X3_232 ⟨by decide, by decide⟩ ⟨rfl, rfl⟩ rfl (hR.2.2.2.2.1 _ (by omega)) rfl hl.1 rfl (Nat.le_of_ble_eq_true rfl) dX3_arrive_70 hR ⟨Nat.zero_le _, Nat.zero_le _⟩ hS (fun _ h => h) (fun H locs hR hS _ _ => ?_)
      obtain ⟨S1, eS1⟩ : ∃ y, y = s_X2_takeToken S (wr N (f + p)) (nI (wr N (f + (p - 1)))) (S 24 f) := ⟨_, rfl⟩
      rw [← eS1] at hR
      obtain ⟨F2, eF2⟩ : ∃ y, y = f_X2_takeToken S Fl (wr N (f + p)) (nI (wr N (f + (p - 1)))) (S 24 f) := ⟨_, rfl⟩
      rw [← eF2] at hR
      simp only [Option.toList, List.nil_append]
      refine lv_aload_n C.1 C.2.1 dX3_arrive_73 rfl (lv_at hl 3 rfl) ?_
      refine lv_iconst (v := nI 0) C.1 C.2.1 dX3_arrive_74 (by decide) ?_
      refine xR_put (j := f) C hR hS (by omega) 9 (by decide) rfl rfl fl_X3_236 (nz_n (Or.inl rfl)) (nz_f (Or.inl rfl)) rgS_9 dX3_arrive_75 (fun S3 H locs eS3 hR hS => ?_)
      have hs : s_X3_arrive S N f p L = S3 := (if_pos c14).trans ((if_neg c40).trans (by rw [eS3, eS1]))
      rw [hs]
      have hf : f_X3_arrive S Fl N f p L = F2 := (if_pos c14).trans ((if_neg c40).trans (by rw [eF2]; try simp only [eS3, eS1, true_and]))
      rw [hf]
      exact endv C hr hlk hR hS dX3_arrive_78
    · skip
      have c40 : p = 0 := (nI_eq (a := p) (b := 0) (by omega) (by omega)).mp c40
      refine lv_aload_n C.1 C.2.1 dX3_arrive_43 rfl (lv_at hl 2 rfl) ?_
      refine xR_get (j := f) C hR (by omega) 1 (by decide) rfl fl_X3_153 (v := .int (S 21 f)) rfl dX3_arrive_44 ?_
      refine lv_re (y := nI L) (by rw [h21]) ?_
      refine lv_iconst (v := nI 1) C.1 C.2.1 dX3_arrive_47 (by decide) ?_
      refine n_isub C (by omega) dX3_arrive_48 ?_
      refine lv_goto (tgt := 58) C.1 C.2.1 dX3_arrive_49 (by decide) ?_
      refine lv_istore_n (lv' := [(3, .int (nI (L - 1))), (2, .ref (aSt b (wr N (f + p)))), (0, .ref b), (1, .ref (aRg b f))]) C.1 C.2.1 dX3_arrive_58 rfl hl (by decide) rfl (fun ls hl => ?_)
      refine lv_aload_n C.1 C.2.1 dX3_arrive_59 rfl (lv_at hl 1 rfl) ?_
      refine lv_aload_n C.1 C.2.1 dX3_arrive_60 rfl (lv_at hl 2 rfl) ?_
      refine lv_aload_n C.1 C.2.1 dX3_arrive_61 rfl (lv_at hl 3 rfl) ?_
      refine lv_iload_n C.1 C.2.1 dX3_arrive_62 rfl (lv_at hl 0 rfl) ?_
      refine cxV (b := b) (As := [.ref (aRg b f), .int (nI (L - 1))]) (rest := [.ref (aSt b (wr N (f + p)))]) (ci := 3) (q := (RX3, TX3, 6)) C (kn_numberAt l g b N S Fl hN (f) (L - 1) (by omega) (by omega) (by rw [h20])) cf_X3_numberAt ml_X3_87 ⟨by decide, by decide⟩ ⟨rfl, rfl⟩ rfl (hR.1) rfl hl.1 rfl (Nat.le_of_ble_eq_true rfl) dX3_arrive_63 hR ⟨Nat.zero_le _, Nat.zero_le _⟩ hS (fun _ h => h) (fun H locs hR hS _ _ => ?_)
      simp only [Option.toList, List.cons_append, List.nil_append]
      have hw58 := wr_lt (N := N) (i := f + (L - 1)) (by omega)
      refine lv_aload_n C.1 C.2.1 dX3_arrive_66 rfl (lv_at hl 3 rfl) ?_
      refine xR_get (j := f) C hR (by omega) 4 (by decide) rfl fl_X3_94 (v := .int (S 24 f)) rfl dX3_arrive_67 ?_
      refine cxV (b := aSt b (wr N (f + p))) (As := [.int (nI (wr N (f + (L - 1)))), .int (S 24 f)]) (rest := []) (ci := 2) (q := (RX2, TX2, 19)) C (k_X2_takeToken l g b N S Fl hN (wr N (f + p)) (by omega) (nI (wr N (f + (L - 1)))) (S 24 f) hF) cf_X2_takeToken ml_X3_232 ⟨by decide, by decide⟩ ⟨rfl, rfl⟩ rfl (hR.2.2.2.2.1 _ (by omega)) rfl hl.1 rfl (Nat.le_of_ble_eq_true rfl) dX3_arrive_70 hR ⟨Nat.zero_le _, Nat.zero_le _⟩ hS (fun _ h => h) (fun H locs hR hS _ _ => ?_)
      obtain ⟨S4, eS4⟩ : ∃ y, y = s_X2_takeToken S (wr N (f + p)) (nI (wr N (f + (L - 1)))) (S 24 f) := ⟨_, rfl⟩
      rw [← eS4] at hR
      obtain ⟨F5, eF5⟩ : ∃ y, y = f_X2_takeToken S Fl (wr N (f + p)) (nI (wr N (f + (L - 1)))) (S 24 f) := ⟨_, rfl⟩
      rw [← eF5] at hR
      simp only [Option.toList, List.nil_append]
      refine lv_aload_n C.1 C.2.1 dX3_arrive_73 rfl (lv_at hl 3 rfl) ?_
      refine lv_iconst (v := nI 0) C.1 C.2.1 dX3_arrive_74 (by decide) ?_
      refine xR_put (j := f) C hR hS (by omega) 9 (by decide) rfl rfl fl_X3_236 (nz_n (Or.inl rfl)) (nz_f (Or.inl rfl)) rgS_9 dX3_arrive_75 (fun S6 H locs eS6 hR hS => ?_)
      have hs : s_X3_arrive S N f p L = S6 := (if_pos c14).trans ((if_pos c40).trans (by rw [eS6, eS4]))
      rw [hs]
      have hf : f_X3_arrive S Fl N f p L = F5 := (if_pos c14).trans ((if_pos c40).trans (by rw [eF5]; try simp only [eS6, eS4, true_and]))
      rw [hf]
      exact endv C hr hlk hR hS dX3_arrive_78
  · skip
    refine lv_aload_n C.1 C.2.1 dX3_arrive_17 rfl (lv_at hl 0 rfl) ?_
    refine xS_get (j := wr N (f + p)) C hR (by omega) 10 (by decide) rfl fl_X3_229 (v := .int (S 10 (wr N (f + p)))) rfl dX3_arrive_18 ?_
    refine lv_aload_n C.1 C.2.1 dX3_arrive_21 rfl (lv_at hl 1 rfl) ?_
    refine xO_get C hR 5 (by decide) rfl fl_X3_141 (v := .int (S 46 0)) rfl dX3_arrive_22 ?_
    refine lv_icmp_le (tgt := 36) C.1 C.2.1 dX3_arrive_25 (by decide) (fun c25 => ?_) (fun c25 => ?_)
    · skip
      refine lv_aload_n C.1 C.2.1 dX3_arrive_36 rfl (lv_at hl 2 rfl) ?_
      refine xR_get (j := f) C hR (by omega) 5 (by decide) rfl fl_X3_84 (v := .int (S 25 f)) rfl dX3_arrive_37 ?_
      refine lv_re (y := nI p) (by rw [h25]) ?_
      refine lv_if_ne (tgt := 52) C.1 C.2.1 dX3_arrive_40 (by decide) (fun c40 => ?_) (fun c40 => ?_)
      · skip
        have c40 : ¬ (p = 0) := mt (nI_eq (a := p) (b := 0) (by omega) (by omega)).mpr c40
        refine lv_aload_n C.1 C.2.1 dX3_arrive_52 rfl (lv_at hl 2 rfl) ?_
        refine xR_get (j := f) C hR (by omega) 5 (by decide) rfl fl_X3_84 (v := .int (S 25 f)) rfl dX3_arrive_53 ?_
        refine lv_re (y := nI p) (by rw [h25]) ?_
        refine lv_iconst (v := nI 1) C.1 C.2.1 dX3_arrive_56 (by decide) ?_
        refine n_isub C (by omega) dX3_arrive_57 ?_
        refine lv_istore_n (lv' := [(3, .int (nI (p - 1))), (2, .ref (aSt b (wr N (f + p)))), (0, .ref b), (1, .ref (aRg b f))]) C.1 C.2.1 dX3_arrive_58 rfl hl (by decide) rfl (fun ls hl => ?_)
        refine lv_aload_n C.1 C.2.1 dX3_arrive_59 rfl (lv_at hl 1 rfl) ?_
        refine lv_aload_n C.1 C.2.1 dX3_arrive_60 rfl (lv_at hl 2 rfl) ?_
        refine lv_aload_n C.1 C.2.1 dX3_arrive_61 rfl (lv_at hl 3 rfl) ?_
        refine lv_iload_n C.1 C.2.1 dX3_arrive_62 rfl (lv_at hl 0 rfl) ?_
        refine cxV (b := b) (As := [.ref (aRg b f), .int (nI (p - 1))]) (rest := [.ref (aSt b (wr N (f + p)))]) (ci := 3) (q := (RX3, TX3, 6)) C (kn_numberAt l g b N S Fl hN (f) (p - 1) (by omega) (by omega) (by rw [h20])) cf_X3_numberAt ml_X3_87 ⟨by decide, by decide⟩ ⟨rfl, rfl⟩ rfl (hR.1) rfl hl.1 rfl (Nat.le_of_ble_eq_true rfl) dX3_arrive_63 hR ⟨Nat.zero_le _, Nat.zero_le _⟩ hS (fun _ h => h) (fun H locs hR hS _ _ => ?_)
        simp only [Option.toList, List.cons_append, List.nil_append]
        have hw97 := wr_lt (N := N) (i := f + (p - 1)) (by omega)
        refine lv_aload_n C.1 C.2.1 dX3_arrive_66 rfl (lv_at hl 3 rfl) ?_
        refine xR_get (j := f) C hR (by omega) 4 (by decide) rfl fl_X3_94 (v := .int (S 24 f)) rfl dX3_arrive_67 ?_
        refine cxV (b := aSt b (wr N (f + p))) (As := [.int (nI (wr N (f + (p - 1)))), .int (S 24 f)]) (rest := []) (ci := 2) (q := (RX2, TX2, 19)) C (k_X2_takeToken l g b N S Fl hN (wr N (f + p)) (by omega) (nI (wr N (f + (p - 1)))) (S 24 f) hF) cf_X2_takeToken ml_X3_232 ⟨by decide, by decide⟩ ⟨rfl, rfl⟩ rfl (hR.2.2.2.2.1 _ (by omega)) rfl hl.1 rfl (Nat.le_of_ble_eq_true rfl) dX3_arrive_70 hR ⟨Nat.zero_le _, Nat.zero_le _⟩ hS (fun _ h => h) (fun H locs hR hS _ _ => ?_)
        obtain ⟨S7, eS7⟩ : ∃ y, y = s_X2_takeToken S (wr N (f + p)) (nI (wr N (f + (p - 1)))) (S 24 f) := ⟨_, rfl⟩
        rw [← eS7] at hR
        obtain ⟨F8, eF8⟩ : ∃ y, y = f_X2_takeToken S Fl (wr N (f + p)) (nI (wr N (f + (p - 1)))) (S 24 f) := ⟨_, rfl⟩
        rw [← eF8] at hR
        simp only [Option.toList, List.nil_append]
        refine lv_aload_n C.1 C.2.1 dX3_arrive_73 rfl (lv_at hl 3 rfl) ?_
        refine lv_iconst (v := nI 0) C.1 C.2.1 dX3_arrive_74 (by decide) ?_
        refine xR_put (j := f) C hR hS (by omega) 9 (by decide) rfl rfl fl_X3_236 (nz_n (Or.inl rfl)) (nz_f (Or.inl rfl)) rgS_9 dX3_arrive_75 (fun S9 H locs eS9 hR hS => ?_)
        have hs : s_X3_arrive S N f p L = S9 := (if_neg c14).trans ((if_pos c25).trans ((if_neg c40).trans (by rw [eS9, eS7])))
        rw [hs]
        have hf : f_X3_arrive S Fl N f p L = F8 := (if_neg c14).trans ((if_pos c25).trans ((if_neg c40).trans (by rw [eF8]; try simp only [eS9, eS7, true_and])))
        rw [hf]
        exact endv C hr hlk hR hS dX3_arrive_78
      · skip
        have c40 : p = 0 := (nI_eq (a := p) (b := 0) (by omega) (by omega)).mp c40
        refine lv_aload_n C.1 C.2.1 dX3_arrive_43 rfl (lv_at hl 2 rfl) ?_
        refine xR_get (j := f) C hR (by omega) 1 (by decide) rfl fl_X3_153 (v := .int (S 21 f)) rfl dX3_arrive_44 ?_
        refine lv_re (y := nI L) (by rw [h21]) ?_
        refine lv_iconst (v := nI 1) C.1 C.2.1 dX3_arrive_47 (by decide) ?_
        refine n_isub C (by omega) dX3_arrive_48 ?_
        refine lv_goto (tgt := 58) C.1 C.2.1 dX3_arrive_49 (by decide) ?_
        refine lv_istore_n (lv' := [(3, .int (nI (L - 1))), (2, .ref (aSt b (wr N (f + p)))), (0, .ref b), (1, .ref (aRg b f))]) C.1 C.2.1 dX3_arrive_58 rfl hl (by decide) rfl (fun ls hl => ?_)
        refine lv_aload_n C.1 C.2.1 dX3_arrive_59 rfl (lv_at hl 1 rfl) ?_
        refine lv_aload_n C.1 C.2.1 dX3_arrive_60 rfl (lv_at hl 2 rfl) ?_
        refine lv_aload_n C.1 C.2.1 dX3_arrive_61 rfl (lv_at hl 3 rfl) ?_
        refine lv_iload_n C.1 C.2.1 dX3_arrive_62 rfl (lv_at hl 0 rfl) ?_
        refine cxV (b := b) (As := [.ref (aRg b f), .int (nI (L - 1))]) (rest := [.ref (aSt b (wr N (f + p)))]) (ci := 3) (q := (RX3, TX3, 6)) C (kn_numberAt l g b N S Fl hN (f) (L - 1) (by omega) (by omega) (by rw [h20])) cf_X3_numberAt ml_X3_87 ⟨by decide, by decide⟩ ⟨rfl, rfl⟩ rfl (hR.1) rfl hl.1 rfl (Nat.le_of_ble_eq_true rfl) dX3_arrive_63 hR ⟨Nat.zero_le _, Nat.zero_le _⟩ hS (fun _ h => h) (fun H locs hR hS _ _ => ?_)
        simp only [Option.toList, List.cons_append, List.nil_append]
        have hw126 := wr_lt (N := N) (i := f + (L - 1)) (by omega)
        refine lv_aload_n C.1 C.2.1 dX3_arrive_66 rfl (lv_at hl 3 rfl) ?_
        refine xR_get (j := f) C hR (by omega) 4 (by decide) rfl fl_X3_94 (v := .int (S 24 f)) rfl dX3_arrive_67 ?_
        refine cxV (b := aSt b (wr N (f + p))) (As := [.int (nI (wr N (f + (L - 1)))), .int (S 24 f)]) (rest := []) (ci := 2) (q := (RX2, TX2, 19)) C (k_X2_takeToken l g b N S Fl hN (wr N (f + p)) (by omega) (nI (wr N (f + (L - 1)))) (S 24 f) hF) cf_X2_takeToken ml_X3_232 ⟨by decide, by decide⟩ ⟨rfl, rfl⟩ rfl (hR.2.2.2.2.1 _ (by omega)) rfl hl.1 rfl (Nat.le_of_ble_eq_true rfl) dX3_arrive_70 hR ⟨Nat.zero_le _, Nat.zero_le _⟩ hS (fun _ h => h) (fun H locs hR hS _ _ => ?_)
        obtain ⟨S10, eS10⟩ : ∃ y, y = s_X2_takeToken S (wr N (f + p)) (nI (wr N (f + (L - 1)))) (S 24 f) := ⟨_, rfl⟩
        rw [← eS10] at hR
        obtain ⟨F11, eF11⟩ : ∃ y, y = f_X2_takeToken S Fl (wr N (f + p)) (nI (wr N (f + (L - 1)))) (S 24 f) := ⟨_, rfl⟩
        rw [← eF11] at hR
        simp only [Option.toList, List.nil_append]
        refine lv_aload_n C.1 C.2.1 dX3_arrive_73 rfl (lv_at hl 3 rfl) ?_
        refine lv_iconst (v := nI 0) C.1 C.2.1 dX3_arrive_74 (by decide) ?_
        refine xR_put (j := f) C hR hS (by omega) 9 (by decide) rfl rfl fl_X3_236 (nz_n (Or.inl rfl)) (nz_f (Or.inl rfl)) rgS_9 dX3_arrive_75 (fun S12 H locs eS12 hR hS => ?_)
        have hs : s_X3_arrive S N f p L = S12 := (if_neg c14).trans ((if_pos c25).trans ((if_pos c40).trans (by rw [eS12, eS10])))
        rw [hs]
        have hf : f_X3_arrive S Fl N f p L = F11 := (if_neg c14).trans ((if_pos c25).trans ((if_pos c40).trans (by rw [eF11]; try simp only [eS12, eS10, true_and])))
        rw [hf]
        exact endv C hr hlk hR hS dX3_arrive_78
    · skip
      refine lv_aload_n C.1 C.2.1 dX3_arrive_28 rfl (lv_at hl 1 rfl) ?_
      refine lv_aload_n C.1 C.2.1 dX3_arrive_29 rfl (lv_at hl 0 rfl) ?_
      refine xS_get (j := wr N (f + p)) C hR (by omega) 10 (by decide) rfl fl_X3_229 (v := .int (S 10 (wr N (f + p)))) rfl dX3_arrive_30 ?_
      refine xO_put C hR hS 5 (by decide) fl_X3_141 dX3_arrive_33 (fun S13 H locs eS13 hR hS => ?_)
      refine lv_aload_n C.1 C.2.1 dX3_arrive_36 rfl (lv_at hl 2 rfl) ?_
      refine xR_get (j := f) C hR (by omega) 5 (by decide) rfl fl_X3_84 (v := .int (S13 25 f)) rfl dX3_arrive_37 ?_
      refine lv_re (y := nI p) (by rw [eS13, up2_f (by decide), h25]) ?_
      refine lv_if_ne (tgt := 52) C.1 C.2.1 dX3_arrive_40 (by decide) (fun c40 => ?_) (fun c40 => ?_)
      · skip
        have c40 : ¬ (p = 0) := mt (nI_eq (a := p) (b := 0) (by omega) (by omega)).mpr c40
        refine lv_aload_n C.1 C.2.1 dX3_arrive_52 rfl (lv_at hl 2 rfl) ?_
        refine xR_get (j := f) C hR (by omega) 5 (by decide) rfl fl_X3_84 (v := .int (S13 25 f)) rfl dX3_arrive_53 ?_
        refine lv_re (y := nI p) (by rw [eS13, up2_f (by decide), h25]) ?_
        refine lv_iconst (v := nI 1) C.1 C.2.1 dX3_arrive_56 (by decide) ?_
        refine n_isub C (by omega) dX3_arrive_57 ?_
        refine lv_istore_n (lv' := [(3, .int (nI (p - 1))), (2, .ref (aSt b (wr N (f + p)))), (0, .ref b), (1, .ref (aRg b f))]) C.1 C.2.1 dX3_arrive_58 rfl hl (by decide) rfl (fun ls hl => ?_)
        refine lv_aload_n C.1 C.2.1 dX3_arrive_59 rfl (lv_at hl 1 rfl) ?_
        refine lv_aload_n C.1 C.2.1 dX3_arrive_60 rfl (lv_at hl 2 rfl) ?_
        refine lv_aload_n C.1 C.2.1 dX3_arrive_61 rfl (lv_at hl 3 rfl) ?_
        refine lv_iload_n C.1 C.2.1 dX3_arrive_62 rfl (lv_at hl 0 rfl) ?_
        refine cxV (b := b) (As := [.ref (aRg b f), .int (nI (p - 1))]) (rest := [.ref (aSt b (wr N (f + p)))]) (ci := 3) (q := (RX3, TX3, 6)) C (kn_numberAt l g b N S13 Fl hN (f) (p - 1) (by omega) (by omega) (by rw [eS13, up2_f (by decide), h20])) cf_X3_numberAt ml_X3_87 ⟨by decide, by decide⟩ ⟨rfl, rfl⟩ rfl (hR.1) rfl hl.1 rfl (Nat.le_of_ble_eq_true rfl) dX3_arrive_63 hR ⟨Nat.zero_le _, Nat.zero_le _⟩ hS (fun _ h => h) (fun H locs hR hS _ _ => ?_)
        simp only [Option.toList, List.cons_append, List.nil_append]
        have hw163 := wr_lt (N := N) (i := f + (p - 1)) (by omega)
        refine lv_aload_n C.1 C.2.1 dX3_arrive_66 rfl (lv_at hl 3 rfl) ?_
        refine xR_get (j := f) C hR (by omega) 4 (by decide) rfl fl_X3_94 (v := .int (S13 24 f)) rfl dX3_arrive_67 ?_
        refine lv_re (y := S 24 f) (by rw [eS13, up2_f (by decide)]) ?_
        refine cxV (b := aSt b (wr N (f + p))) (As := [.int (nI (wr N (f + (p - 1)))), .int (S 24 f)]) (rest := []) (ci := 2) (q := (RX2, TX2, 19)) C (k_X2_takeToken l g b N S13 Fl hN (wr N (f + p)) (by omega) (nI (wr N (f + (p - 1)))) (S 24 f) hF) cf_X2_takeToken ml_X3_232 ⟨by decide, by decide⟩ ⟨rfl, rfl⟩ rfl (hR.2.2.2.2.1 _ (by omega)) rfl hl.1 rfl (Nat.le_of_ble_eq_true rfl) dX3_arrive_70 hR ⟨Nat.zero_le _, Nat.zero_le _⟩ hS (fun _ h => h) (fun H locs hR hS _ _ => ?_)
        obtain ⟨S14, eS14⟩ : ∃ y, y = s_X2_takeToken S13 (wr N (f + p)) (nI (wr N (f + (p - 1)))) (S 24 f) := ⟨_, rfl⟩
        rw [← eS14] at hR
        obtain ⟨F15, eF15⟩ : ∃ y, y = f_X2_takeToken S13 Fl (wr N (f + p)) (nI (wr N (f + (p - 1)))) (S 24 f) := ⟨_, rfl⟩
        rw [← eF15] at hR
        simp only [Option.toList, List.nil_append]
        refine lv_aload_n C.1 C.2.1 dX3_arrive_73 rfl (lv_at hl 3 rfl) ?_
        refine lv_iconst (v := nI 0) C.1 C.2.1 dX3_arrive_74 (by decide) ?_
        refine xR_put (j := f) C hR hS (by omega) 9 (by decide) rfl rfl fl_X3_236 (nz_n (Or.inl rfl)) (nz_f (Or.inl rfl)) rgS_9 dX3_arrive_75 (fun S16 H locs eS16 hR hS => ?_)
        have hs : s_X3_arrive S N f p L = S16 := (if_neg c14).trans ((if_neg c25).trans ((if_neg c40).trans (by rw [eS16, eS14, eS13])))
        rw [hs]
        have hf : f_X3_arrive S Fl N f p L = F15 := (if_neg c14).trans ((if_neg c25).trans ((if_neg c40).trans (by rw [eF15]; try simp only [eS16, eS14, eS13, true_and])))
        rw [hf]
        exact endv C hr hlk hR hS dX3_arrive_78
      · skip
        have c40 : p = 0 := (nI_eq (a := p) (b := 0) (by omega) (by omega)).mp c40
        refine lv_aload_n C.1 C.2.1 dX3_arrive_43 rfl (lv_at hl 2 rfl) ?_
        refine xR_get (j := f) C hR (by omega) 1 (by decide) rfl fl_X3_153 (v := .int (S13 21 f)) rfl dX3_arrive_44 ?_
        refine lv_re (y := nI L) (by rw [eS13, up2_f (by decide), h21]) ?_
        refine lv_iconst (v := nI 1) C.1 C.2.1 dX3_arrive_47 (by decide) ?_
        refine n_isub C (by omega) dX3_arrive_48 ?_
        refine lv_goto (tgt := 58) C.1 C.2.1 dX3_arrive_49 (by decide) ?_
        refine lv_istore_n (lv' := [(3, .int (nI (L - 1))), (2, .ref (aSt b (wr N (f + p)))), (0, .ref b), (1, .ref (aRg b f))]) C.1 C.2.1 dX3_arrive_58 rfl hl (by decide) rfl (fun ls hl => ?_)
        refine lv_aload_n C.1 C.2.1 dX3_arrive_59 rfl (lv_at hl 1 rfl) ?_
        refine lv_aload_n C.1 C.2.1 dX3_arrive_60 rfl (lv_at hl 2 rfl) ?_
        refine lv_aload_n C.1 C.2.1 dX3_arrive_61 rfl (lv_at hl 3 rfl) ?_
        refine lv_iload_n C.1 C.2.1 dX3_arrive_62 rfl (lv_at hl 0 rfl) ?_
        refine cxV (b := b) (As := [.ref (aRg b f), .int (nI (L - 1))]) (rest := [.ref (aSt b (wr N (f + p)))]) (ci := 3) (q := (RX3, TX3, 6)) C (kn_numberAt l g b N S13 Fl hN (f) (L - 1) (by omega) (by omega) (by rw [eS13, up2_f (by decide), h20])) cf_X3_numberAt ml_X3_87 ⟨by decide, by decide⟩ ⟨rfl, rfl⟩ rfl (hR.1) rfl hl.1 rfl (Nat.le_of_ble_eq_true rfl) dX3_arrive_63 hR ⟨Nat.zero_le _, Nat.zero_le _⟩ hS (fun _ h => h) (fun H locs hR hS _ _ => ?_)
        simp only [Option.toList, List.cons_append, List.nil_append]
        have hw193 := wr_lt (N := N) (i := f + (L - 1)) (by omega)
        refine lv_aload_n C.1 C.2.1 dX3_arrive_66 rfl (lv_at hl 3 rfl) ?_
        refine xR_get (j := f) C hR (by omega) 4 (by decide) rfl fl_X3_94 (v := .int (S13 24 f)) rfl dX3_arrive_67 ?_
        refine lv_re (y := S 24 f) (by rw [eS13, up2_f (by decide)]) ?_
        refine cxV (b := aSt b (wr N (f + p))) (As := [.int (nI (wr N (f + (L - 1)))), .int (S 24 f)]) (rest := []) (ci := 2) (q := (RX2, TX2, 19)) C (k_X2_takeToken l g b N S13 Fl hN (wr N (f + p)) (by omega) (nI (wr N (f + (L - 1)))) (S 24 f) hF) cf_X2_takeToken ml_X3_232 ⟨by decide, by decide⟩ ⟨rfl, rfl⟩ rfl (hR.2.2.2.2.1 _ (by omega)) rfl hl.1 rfl (Nat.le_of_ble_eq_true rfl) dX3_arrive_70 hR ⟨Nat.zero_le _, Nat.zero_le _⟩ hS (fun _ h => h) (fun H locs hR hS _ _ => ?_)
        obtain ⟨S17, eS17⟩ : ∃ y, y = s_X2_takeToken S13 (wr N (f + p)) (nI (wr N (f + (L - 1)))) (S 24 f) := ⟨_, rfl⟩
        rw [← eS17] at hR
        obtain ⟨F18, eF18⟩ : ∃ y, y = f_X2_takeToken S13 Fl (wr N (f + p)) (nI (wr N (f + (L - 1)))) (S 24 f) := ⟨_, rfl⟩
        rw [← eF18] at hR
        simp only [Option.toList, List.nil_append]
        refine lv_aload_n C.1 C.2.1 dX3_arrive_73 rfl (lv_at hl 3 rfl) ?_
        refine lv_iconst (v := nI 0) C.1 C.2.1 dX3_arrive_74 (by decide) ?_
        refine xR_put (j := f) C hR hS (by omega) 9 (by decide) rfl rfl fl_X3_236 (nz_n (Or.inl rfl)) (nz_f (Or.inl rfl)) rgS_9 dX3_arrive_75 (fun S19 H locs eS19 hR hS => ?_)
        have hs : s_X3_arrive S N f p L = S19 := (if_neg c14).trans ((if_neg c25).trans ((if_pos c40).trans (by rw [eS19, eS17, eS13])))
        rw [hs]
        have hf : f_X3_arrive S Fl N f p L = F18 := (if_neg c14).trans ((if_neg c25).trans ((if_pos c40).trans (by rw [eF18]; try simp only [eS19, eS17, eS13, true_and])))
        rw [hf]
        exact endv C hr hlk hR hS dX3_arrive_78

theorem rcv_o {S : SX} {j g k : Nat} {n sd : Int32} (h : g ≠ 14) (h1 : g ≠ 15) (h2 : g ≠ 16) : s_X2_receive S j n sd g k = S g k := by
  unfold s_X2_receive
  rw [up2_f h2, up2_f h1, up2_f h]
def s_X3_finishFrame (S : SX) (N : Nat) (f p j z t : Nat) : SX := if S 3 t = nI f then (s_rem (up2 (s_X2_receive S (t) (S 43 (5 * (qof j (S 28 f)))) (nI (wr N (f + p)))) 17 j (S 17 j + (S 43 (5 * (qof j (S 28 f)))))) (qof j (S 28 f)) z) else (s_rem (up2 (up2 S 18 j (S 18 j + (nI 1))) 17 j (S 17 j + (S 43 (5 * (qof j (S 28 f)))))) (qof j (S 28 f)) z)
set_option maxHeartbeats 4000000 in
set_option maxRecDepth 100000 in
theorem k_X3_finishFrame (l : Launch) (g : GX) (b N : Nat) (S : SX) (Fl : FX) (hN : N ≤ 6) (f p j : Nat) (hf : f < N) (hp : p < N) (hj : j < N) (h20 : S 20 f = nI f) (h25 : S 25 f = nI p) (z t : Nat) (hz : z ≤ 5) (ht : t < N) (h41 : S 41 (qof j (S 28 f)) = nI z) (h42 : S 42 (5 * qof j (S 28 f)) = nI t)  : MR l yX3_finishFrame (.code yX3_finishFrame cX3_finishFrame 6 none :: tb) (rmk 1 23) g (RepX g b N S Fl) (RepX g b N (s_X3_finishFrame S N f p j z t) Fl) (AX b N) [.ref b, .ref (aRg b f), .ref (aSt b j)] none := by
  refine MR.start RX3 (by decide) rfl (Nat.le_of_ble_eq_true rfl) (fun zp ze zs zm zb zt zc ls C hr hlk hR hS hl => ?_)
  have hl : lv_has ls 6 [(0, .ref b), (1, .ref (aRg b f)), (2, .ref (aSt b j))] := hl
  refine lv_aload_n C.1 C.2.1 dX3_finishFrame_0 rfl (lv_at hl 2 rfl) ?_
  refine lv_aload_n C.1 C.2.1 dX3_finishFrame_1 rfl (lv_at hl 1 rfl) ?_
  refine xR_get (j := f) C hR (by omega) 8 (by decide) rfl fl_X3_182 (v := .int (S 28 f)) rfl dX3_finishFrame_2 ?_
  refine cxV (b := aSt b j) (As := [.int (S 28 f)]) (rest := []) (ci := 2) (q := (RX2, TX2, 19)) C (kq_X2_queueFor l g b N S Fl hN (j) (by omega) (S 28 f)) cf_X2_queueFor ml_X3_46 ⟨by decide, by decide⟩ ⟨rfl, rfl⟩ rfl (hR.2.2.2.2.1 _ (by omega)) rfl hl.1 rfl (Nat.le_of_ble_eq_true rfl) dX3_finishFrame_5 hR ⟨Nat.zero_le _, Nat.zero_le _⟩ hS (fun _ h => h) (fun H locs hR hS _ _ => ?_)
  simp only [Option.toList, List.cons_append, List.nil_append]
  have hw3 := qof_lt (N := N) (j := j) (x := S 28 f) (by omega)
  refine lv_astore_n (lv' := [(3, .ref (aQ b (qof j (S 28 f)))), (0, .ref b), (1, .ref (aRg b f)), (2, .ref (aSt b j))]) C.1 C.2.1 dX3_finishFrame_8 rfl hl (by decide) rfl (fun ls hl => ?_)
  refine lv_aload_n C.1 C.2.1 dX3_finishFrame_9 rfl (lv_at hl 0 rfl) ?_
  refine xQ_get (q := qof j (S 28 f)) C hR (by omega) 1 (by decide) rfl fl_X3_243 (v := .ref (aQA b (qof j (S 28 f)) 1)) rfl dX3_finishFrame_10 ?_
  refine lv_iconst (v := nI 0) C.1 C.2.1 dX3_finishFrame_13 (by decide) ?_
  refine xA_ld (q := qof j (S 28 f)) (i := 1) (k := 0) C hR (by omega) (by decide) (by omega) (v := S 43 (5 * (qof j (S 28 f)))) rfl dX3_finishFrame_14 ?_
  refine lv_istore (lv' := [(4, .int (S 43 (5 * (qof j (S 28 f))))), (3, .ref (aQ b (qof j (S 28 f)))), (0, .ref b), (1, .ref (aRg b f)), (2, .ref (aSt b j))]) C.1 C.2.1 dX3_finishFrame_15 hl (by decide) rfl (fun ls hl => ?_)
  refine lv_aload_n C.1 C.2.1 dX3_finishFrame_17 rfl (lv_at hl 2 rfl) ?_
  refine xO_get C hR 1 (by decide) rfl fl_X3_15 (v := .ref (b + 1)) rfl dX3_finishFrame_18 ?_
  refine lv_aload_n C.1 C.2.1 dX3_finishFrame_21 rfl (lv_at hl 1 rfl) ?_
  refine xQ_get (q := qof j (S 28 f)) C hR (by omega) 0 (by decide) rfl fl_X3_247 (v := .ref (aQA b (qof j (S 28 f)) 0)) rfl dX3_finishFrame_22 ?_
  refine lv_iconst (v := nI 0) C.1 C.2.1 dX3_finishFrame_25 (by decide) ?_
  refine xA_ld (q := qof j (S 28 f)) (i := 0) (k := 0) C hR (by omega) (by decide) (by omega) (v := S 42 (5 * (qof j (S 28 f)))) rfl dX3_finishFrame_26 ?_
  refine lv_re (y := nI t) (by rw [h42]) ?_
  refine xS_ald (j := t) C hR (by omega) hN dX3_finishFrame_27 ?_
  refine lv_astore (lv' := [(5, .ref (aSt b t)), (4, .int (S 43 (5 * (qof j (S 28 f))))), (3, .ref (aQ b (qof j (S 28 f)))), (0, .ref b), (1, .ref (aRg b f)), (2, .ref (aSt b j))]) C.1 C.2.1 dX3_finishFrame_28 hl (by decide) rfl (fun ls hl => ?_)
  refine lv_aload C.1 C.2.1 dX3_finishFrame_30 (lv_at hl 0 rfl) ?_
  refine xS_get (j := t) C hR (by omega) 3 (by decide) rfl fl_X3_70 (v := .int (S 3 t)) rfl dX3_finishFrame_32 ?_
  refine lv_aload_n C.1 C.2.1 dX3_finishFrame_35 rfl (lv_at hl 4 rfl) ?_
  refine xR_get (j := f) C hR (by omega) 0 (by decide) rfl fl_X3_144 (v := .int (S 20 f)) rfl dX3_finishFrame_36 ?_
  refine lv_re (y := nI f) (by rw [h20]) ?_
  refine lv_icmp_ne (tgt := 61) C.1 C.2.1 dX3_finishFrame_39 (by decide) (fun c39 => ?_) (fun c39 => ?_)
  · skip
    refine lv_aload_n C.1 C.2.1 dX3_finishFrame_61 rfl (lv_at hl 5 rfl) ?_
    refine lv_dup C.1 C.2.1 dX3_finishFrame_62 rfl ?_
    refine xS_get (j := j) C hR (by omega) 18 (by decide) rfl fl_X3_134 (v := .int (S 18 j)) rfl dX3_finishFrame_63 ?_
    refine lv_iconst (v := nI 1) C.1 C.2.1 dX3_finishFrame_66 (by decide) ?_
    refine lv_iadd C.1 C.2.1 dX3_finishFrame_67 ?_
    refine xS_put (j := j) C hR hS (by omega) 18 (by decide) rfl rfl fl_X3_134 rfl rfl stS_18 dX3_finishFrame_68 (fun S1 H locs eS1 hR hS => ?_)
    refine lv_aload_n C.1 C.2.1 dX3_finishFrame_71 rfl (lv_at hl 5 rfl) ?_
    refine lv_dup C.1 C.2.1 dX3_finishFrame_72 rfl ?_
    refine xS_get (j := j) C hR (by omega) 17 (by decide) rfl fl_X3_131 (v := .int (S1 17 j)) rfl dX3_finishFrame_73 ?_
    refine lv_re (y := S 17 j) (by rw [eS1, up2_f (by decide)]) ?_
    refine lv_iload C.1 C.2.1 dX3_finishFrame_76 (lv_at hl 1 rfl) ?_
    refine lv_iadd C.1 C.2.1 dX3_finishFrame_78 ?_
    refine xS_put (j := j) C hR hS (by omega) 17 (by decide) rfl rfl fl_X3_131 rfl rfl stS_17 dX3_finishFrame_79 (fun S2 H locs eS2 hR hS => ?_)
    refine lv_aload_n C.1 C.2.1 dX3_finishFrame_82 rfl (lv_at hl 2 rfl) ?_
    refine cxV (b := aQ b (qof j (S 28 f))) (As := []) (rest := []) (ci := 0) (q := (RX0, TX0, 4)) C (k_X0_removeFirst l g b N S2 Fl hN (qof j (S 28 f)) z (by omega) (by omega) (by rw [eS2, up2_f (by decide), eS1, up2_f (by decide), h41])) cf_X0_removeFirst ml_X3_185 ⟨by decide, by decide⟩ ⟨rfl, rfl⟩ rfl (hR.2.2.2.2.2.2.1 _ (by omega)) rfl hl.1 rfl (Nat.le_of_ble_eq_true rfl) dX3_finishFrame_83 hR ⟨Nat.zero_le _, Nat.zero_le _⟩ hS (fun _ h => h) (fun H locs hR hS _ _ => ?_)
    obtain ⟨S3, eS3⟩ : ∃ y, y = s_rem S2 (qof j (S 28 f)) z := ⟨_, rfl⟩
    rw [← eS3] at hR
    simp only [Option.toList, List.nil_append]
    have hs : s_X3_finishFrame S N f p j z t = S3 := (if_neg c39).trans (by rw [eS3, eS2, eS1])
    rw [hs]
    exact endv C hr hlk hR hS dX3_finishFrame_86
  · skip
    refine lv_aload C.1 C.2.1 dX3_finishFrame_42 (lv_at hl 0 rfl) ?_
    refine lv_iload C.1 C.2.1 dX3_finishFrame_44 (lv_at hl 1 rfl) ?_
    refine lv_aload_n C.1 C.2.1 dX3_finishFrame_46 rfl (lv_at hl 3 rfl) ?_
    refine lv_aload_n C.1 C.2.1 dX3_finishFrame_47 rfl (lv_at hl 4 rfl) ?_
    refine lv_aload_n C.1 C.2.1 dX3_finishFrame_48 rfl (lv_at hl 4 rfl) ?_
    refine xR_get (j := f) C hR (by omega) 5 (by decide) rfl fl_X3_84 (v := .int (S 25 f)) rfl dX3_finishFrame_49 ?_
    refine lv_re (y := nI p) (by rw [h25]) ?_
    refine cxV (b := b) (As := [.ref (aRg b f), .int (nI p)]) (rest := [.int (S 43 (5 * (qof j (S 28 f)))), .ref (aSt b t)]) (ci := 3) (q := (RX3, TX3, 6)) C (kn_numberAt l g b N S Fl hN (f) (p) (by omega) (by omega) (by rw [h20])) cf_X3_numberAt ml_X3_87 ⟨by decide, by decide⟩ ⟨rfl, rfl⟩ rfl (hR.1) rfl hl.1 rfl (Nat.le_of_ble_eq_true rfl) dX3_finishFrame_52 hR ⟨Nat.zero_le _, Nat.zero_le _⟩ hS (fun _ h => h) (fun H locs hR hS _ _ => ?_)
    simp only [Option.toList, List.cons_append, List.nil_append]
    have hw56 := wr_lt (N := N) (i := f + p) (by omega)
    refine cxV (b := aSt b t) (As := [.int (S 43 (5 * (qof j (S 28 f)))), .int (nI (wr N (f + p)))]) (rest := []) (ci := 2) (q := (RX2, TX2, 19)) C (k_X2_receive l g b N S Fl hN (t) (by omega) (S 43 (5 * (qof j (S 28 f)))) (nI (wr N (f + p)))) cf_X2_receive ml_X3_250 ⟨by decide, by decide⟩ ⟨rfl, rfl⟩ rfl (hR.2.2.2.2.1 _ (by omega)) rfl hl.1 rfl (Nat.le_of_ble_eq_true rfl) dX3_finishFrame_55 hR ⟨Nat.zero_le _, Nat.zero_le _⟩ hS (fun _ h => h) (fun H locs hR hS _ _ => ?_)
    obtain ⟨S4, eS4⟩ : ∃ y, y = s_X2_receive S (t) (S 43 (5 * (qof j (S 28 f)))) (nI (wr N (f + p))) := ⟨_, rfl⟩
    rw [← eS4] at hR
    simp only [Option.toList, List.nil_append]
    refine lv_goto (tgt := 71) C.1 C.2.1 dX3_finishFrame_58 (by decide) ?_
    refine lv_aload_n C.1 C.2.1 dX3_finishFrame_71 rfl (lv_at hl 5 rfl) ?_
    refine lv_dup C.1 C.2.1 dX3_finishFrame_72 rfl ?_
    refine xS_get (j := j) C hR (by omega) 17 (by decide) rfl fl_X3_131 (v := .int (S4 17 j)) rfl dX3_finishFrame_73 ?_
    refine lv_re (y := S 17 j) (by rw [eS4, rcv_o (by decide) (by decide) (by decide)]) ?_
    refine lv_iload C.1 C.2.1 dX3_finishFrame_76 (lv_at hl 1 rfl) ?_
    refine lv_iadd C.1 C.2.1 dX3_finishFrame_78 ?_
    refine xS_put (j := j) C hR hS (by omega) 17 (by decide) rfl rfl fl_X3_131 rfl rfl stS_17 dX3_finishFrame_79 (fun S5 H locs eS5 hR hS => ?_)
    refine lv_aload_n C.1 C.2.1 dX3_finishFrame_82 rfl (lv_at hl 2 rfl) ?_
    refine cxV (b := aQ b (qof j (S 28 f))) (As := []) (rest := []) (ci := 0) (q := (RX0, TX0, 4)) C (k_X0_removeFirst l g b N S5 Fl hN (qof j (S 28 f)) z (by omega) (by omega) (by rw [eS5, up2_f (by decide), eS4, rcv_o (by decide) (by decide) (by decide), h41])) cf_X0_removeFirst ml_X3_185 ⟨by decide, by decide⟩ ⟨rfl, rfl⟩ rfl (hR.2.2.2.2.2.2.1 _ (by omega)) rfl hl.1 rfl (Nat.le_of_ble_eq_true rfl) dX3_finishFrame_83 hR ⟨Nat.zero_le _, Nat.zero_le _⟩ hS (fun _ h => h) (fun H locs hR hS _ _ => ?_)
    obtain ⟨S6, eS6⟩ : ∃ y, y = s_rem S5 (qof j (S 28 f)) z := ⟨_, rfl⟩
    rw [← eS6] at hR
    simp only [Option.toList, List.nil_append]
    have hs : s_X3_finishFrame S N f p j z t = S6 := (if_pos c39).trans (by rw [eS6, eS5, eS4])
    rw [hs]
    exact endv C hr hlk hR hS dX3_finishFrame_86

def s_X3_passFrame (S : SX) (N : Nat) (f p z t : Nat) : SX := if S 28 f = 0 then (if S 8 (wr N (f + p)) ≤ 0 then (if (S 27 f) - (nI 1) = 0 then (s_X3_finishFrame (up2 S 27 f ((S 27 f) - (nI 1))) N f p (wr N (f + p)) z t) else (up2 S 27 f ((S 27 f) - (nI 1)))) else (if (S 27 f) - (nI 1) = 0 then (s_X3_finishFrame (up2 (up2 S 27 f ((S 27 f) - (nI 1))) 8 (wr N (f + p)) ((S 8 (wr N (f + p))) - (nI 1))) N f p (wr N (f + p)) z t) else (up2 (up2 S 27 f ((S 27 f) - (nI 1))) 8 (wr N (f + p)) ((S 8 (wr N (f + p))) - (nI 1))))) else (if (S 27 f) - (nI 1) = 0 then (s_X3_finishFrame (up2 S 27 f ((S 27 f) - (nI 1))) N f p (wr N (f + p)) z t) else (up2 S 27 f ((S 27 f) - (nI 1))))
set_option maxHeartbeats 4000000 in
set_option maxRecDepth 100000 in
theorem k_X3_passFrame (l : Launch) (g : GX) (b N : Nat) (S : SX) (Fl : FX) (hN : N ≤ 6) (f p L : Nat) (hf : f < N) (hp : p < N) (hL : L ≤ N) (hL1 : 1 ≤ L) (h20 : S 20 f = nI f) (h25 : S 25 f = nI p) (h21 : S 21 f = nI L) (z t : Nat) (hz : z ≤ 5) (ht : t < N) (h41 : S 41 (qof (wr N (f + p)) (S 28 f)) = nI z) (h42 : S 42 (5 * qof (wr N (f + p)) (S 28 f)) = nI t)  : MR l yX3_passFrame (.code yX3_passFrame cX3_passFrame 3 none :: tb) (rmk 2 48) g (RepX g b N S Fl) (RepX g b N (s_X3_passFrame S N f p z t) Fl) (AX b N) [.ref b, .ref (aRg b f)] none := by
  refine MR.start RX3 (by decide) rfl (Nat.le_of_ble_eq_true rfl) (fun zp ze zs zm zb zt zc ls C hr hlk hR hS hl => ?_)
  have hl : lv_has ls 3 [(0, .ref b), (1, .ref (aRg b f))] := hl
  refine lv_aload_n C.1 C.2.1 dX3_passFrame_0 rfl (lv_at hl 0 rfl) ?_
  refine lv_aload_n C.1 C.2.1 dX3_passFrame_1 rfl (lv_at hl 1 rfl) ?_
  refine lv_aload_n C.1 C.2.1 dX3_passFrame_2 rfl (lv_at hl 1 rfl) ?_
  refine xR_get (j := f) C hR (by omega) 5 (by decide) rfl fl_X3_84 (v := .int (S 25 f)) rfl dX3_passFrame_3 ?_
  refine lv_re (y := nI p) (by rw [h25]) ?_
  refine cxV (b := b) (As := [.ref (aRg b f), .int (nI p)]) (rest := []) (ci := 3) (q := (RX3, TX3, 6)) C (k_X3_stationAt l g b N S Fl hN (f) (p) (by omega) (by omega) (by rw [h20])) cf_X3_stationAt ml_X3_178 ⟨by decide, by decide⟩ ⟨rfl, rfl⟩ rfl (hR.1) rfl hl.1 rfl (Nat.le_of_ble_eq_true rfl) dX3_passFrame_6 hR ⟨Nat.zero_le _, Nat.zero_le _⟩ hS (fun _ h => h) (fun H locs hR hS _ _ => ?_)
  simp only [Option.toList, List.cons_append, List.nil_append]
  have hw5 := wr_lt (N := N) (i := f + p) (by omega)
  refine lv_astore_n (lv' := [(2, .ref (aSt b (wr N (f + p)))), (0, .ref b), (1, .ref (aRg b f))]) C.1 C.2.1 dX3_passFrame_9 rfl hl (by decide) rfl (fun ls hl => ?_)
  refine lv_aload_n C.1 C.2.1 dX3_passFrame_10 rfl (lv_at hl 2 rfl) ?_
  refine lv_dup C.1 C.2.1 dX3_passFrame_11 rfl ?_
  refine xR_get (j := f) C hR (by omega) 7 (by decide) rfl fl_X3_91 (v := .int (S 27 f)) rfl dX3_passFrame_12 ?_
  refine lv_iconst (v := nI 1) C.1 C.2.1 dX3_passFrame_15 (by decide) ?_
  refine lv_isub C.1 C.2.1 dX3_passFrame_16 ?_
  refine xR_put (j := f) C hR hS (by omega) 7 (by decide) rfl rfl fl_X3_91 rfl rfl rgS_7 dX3_passFrame_17 (fun S1 H locs eS1 hR hS => ?_)
  refine lv_aload_n C.1 C.2.1 dX3_passFrame_20 rfl (lv_at hl 2 rfl) ?_
  refine xR_get (j := f) C hR (by omega) 8 (by decide) rfl fl_X3_182 (v := .int (S1 28 f)) rfl dX3_passFrame_21 ?_
  refine lv_re (y := S 28 f) (by rw [eS1, up2_f (by decide)]) ?_
  refine lv_if_ne (tgt := 44) C.1 C.2.1 dX3_passFrame_24 (by decide) (fun c24 => ?_) (fun c24 => ?_)
  · skip
    refine lv_aload_n C.1 C.2.1 dX3_passFrame_44 rfl (lv_at hl 2 rfl) ?_
    refine xR_get (j := f) C hR (by omega) 7 (by decide) rfl fl_X3_91 (v := .int (S1 27 f)) rfl dX3_passFrame_45 ?_
    refine lv_re (y := (S 27 f) - (nI 1)) (by rw [eS1, up2_eq]) ?_
    refine lv_if_ne (tgt := 57) C.1 C.2.1 dX3_passFrame_48 (by decide) (fun c48 => ?_) (fun c48 => ?_)
    · skip
      have hs : s_X3_passFrame S N f p z t = S1 := (if_neg c24).trans ((if_neg c48).trans (by rw [eS1]))
      rw [hs]
      exact endv C hr hlk hR hS dX3_passFrame_57
    · skip
      refine lv_aload_n C.1 C.2.1 dX3_passFrame_51 rfl (lv_at hl 1 rfl) ?_
      refine lv_aload_n C.1 C.2.1 dX3_passFrame_52 rfl (lv_at hl 2 rfl) ?_
      refine lv_aload_n C.1 C.2.1 dX3_passFrame_53 rfl (lv_at hl 0 rfl) ?_
      refine cxV (b := b) (As := [.ref (aRg b f), .ref (aSt b (wr N (f + p)))]) (rest := []) (ci := 3) (q := (RX3, TX3, 6)) C (k_X3_finishFrame l g b N S1 Fl hN f p (wr N (f + p)) (by omega) (by omega) (by omega) (by rw [eS1, up2_f (by decide), h20]) (by rw [eS1, up2_f (by decide), h25]) z t hz ht (by rw [show S1 28 f = S 28 f from by rw [eS1, up2_f (by decide)], eS1, up2_f (by decide), h41]) (by rw [show S1 28 f = S 28 f from by rw [eS1, up2_f (by decide)], eS1, up2_f (by decide), h42])) cf_X3_finishFrame ml_X3_239 ⟨by decide, by decide⟩ ⟨rfl, rfl⟩ rfl (hR.1) rfl hl.1 rfl (Nat.le_of_ble_eq_true rfl) dX3_passFrame_54 hR ⟨Nat.zero_le _, Nat.zero_le _⟩ hS (fun _ h => h) (fun H locs hR hS _ _ => ?_)
      obtain ⟨S2, eS2⟩ : ∃ y, y = s_X3_finishFrame S1 N f p (wr N (f + p)) z t := ⟨_, rfl⟩
      rw [← eS2] at hR
      simp only [Option.toList, List.nil_append]
      have hs : s_X3_passFrame S N f p z t = S2 := (if_neg c24).trans ((if_pos c48).trans (by rw [eS2, eS1]))
      rw [hs]
      exact endv C hr hlk hR hS dX3_passFrame_57
  · skip
    refine lv_aload_n C.1 C.2.1 dX3_passFrame_27 rfl (lv_at hl 0 rfl) ?_
    refine xS_get (j := wr N (f + p)) C hR (by omega) 8 (by decide) rfl fl_X3_103 (v := .int (S1 8 (wr N (f + p)))) rfl dX3_passFrame_28 ?_
    refine lv_re (y := S 8 (wr N (f + p))) (by rw [eS1, up2_f (by decide)]) ?_
    refine lv_if_le (tgt := 44) C.1 C.2.1 dX3_passFrame_31 (by decide) (fun c31 => ?_) (fun c31 => ?_)
    · skip
      refine lv_aload_n C.1 C.2.1 dX3_passFrame_44 rfl (lv_at hl 2 rfl) ?_
      refine xR_get (j := f) C hR (by omega) 7 (by decide) rfl fl_X3_91 (v := .int (S1 27 f)) rfl dX3_passFrame_45 ?_
      refine lv_re (y := (S 27 f) - (nI 1)) (by rw [eS1, up2_eq]) ?_
      refine lv_if_ne (tgt := 57) C.1 C.2.1 dX3_passFrame_48 (by decide) (fun c48 => ?_) (fun c48 => ?_)
      · skip
        have hs : s_X3_passFrame S N f p z t = S1 := (if_pos c24).trans ((if_pos c31).trans ((if_neg c48).trans (by rw [eS1])))
        rw [hs]
        exact endv C hr hlk hR hS dX3_passFrame_57
      · skip
        refine lv_aload_n C.1 C.2.1 dX3_passFrame_51 rfl (lv_at hl 1 rfl) ?_
        refine lv_aload_n C.1 C.2.1 dX3_passFrame_52 rfl (lv_at hl 2 rfl) ?_
        refine lv_aload_n C.1 C.2.1 dX3_passFrame_53 rfl (lv_at hl 0 rfl) ?_
        refine cxV (b := b) (As := [.ref (aRg b f), .ref (aSt b (wr N (f + p)))]) (rest := []) (ci := 3) (q := (RX3, TX3, 6)) C (k_X3_finishFrame l g b N S1 Fl hN f p (wr N (f + p)) (by omega) (by omega) (by omega) (by rw [eS1, up2_f (by decide), h20]) (by rw [eS1, up2_f (by decide), h25]) z t hz ht (by rw [show S1 28 f = S 28 f from by rw [eS1, up2_f (by decide)], eS1, up2_f (by decide), h41]) (by rw [show S1 28 f = S 28 f from by rw [eS1, up2_f (by decide)], eS1, up2_f (by decide), h42])) cf_X3_finishFrame ml_X3_239 ⟨by decide, by decide⟩ ⟨rfl, rfl⟩ rfl (hR.1) rfl hl.1 rfl (Nat.le_of_ble_eq_true rfl) dX3_passFrame_54 hR ⟨Nat.zero_le _, Nat.zero_le _⟩ hS (fun _ h => h) (fun H locs hR hS _ _ => ?_)
        obtain ⟨S3, eS3⟩ : ∃ y, y = s_X3_finishFrame S1 N f p (wr N (f + p)) z t := ⟨_, rfl⟩
        rw [← eS3] at hR
        simp only [Option.toList, List.nil_append]
        have hs : s_X3_passFrame S N f p z t = S3 := (if_pos c24).trans ((if_pos c31).trans ((if_pos c48).trans (by rw [eS3, eS1])))
        rw [hs]
        exact endv C hr hlk hR hS dX3_passFrame_57
    · skip
      refine lv_aload_n C.1 C.2.1 dX3_passFrame_34 rfl (lv_at hl 0 rfl) ?_
      refine lv_dup C.1 C.2.1 dX3_passFrame_35 rfl ?_
      refine xS_get (j := wr N (f + p)) C hR (by omega) 8 (by decide) rfl fl_X3_103 (v := .int (S1 8 (wr N (f + p)))) rfl dX3_passFrame_36 ?_
      refine lv_re (y := S 8 (wr N (f + p))) (by rw [eS1, up2_f (by decide)]) ?_
      refine lv_iconst (v := nI 1) C.1 C.2.1 dX3_passFrame_39 (by decide) ?_
      refine lv_isub C.1 C.2.1 dX3_passFrame_40 ?_
      refine xS_put (j := wr N (f + p)) C hR hS (by omega) 8 (by decide) rfl rfl fl_X3_103 rfl rfl stS_8 dX3_passFrame_41 (fun S4 H locs eS4 hR hS => ?_)
      refine lv_aload_n C.1 C.2.1 dX3_passFrame_44 rfl (lv_at hl 2 rfl) ?_
      refine xR_get (j := f) C hR (by omega) 7 (by decide) rfl fl_X3_91 (v := .int (S4 27 f)) rfl dX3_passFrame_45 ?_
      refine lv_re (y := (S 27 f) - (nI 1)) (by rw [eS4, up2_f (by decide), eS1, up2_eq]) ?_
      refine lv_if_ne (tgt := 57) C.1 C.2.1 dX3_passFrame_48 (by decide) (fun c48 => ?_) (fun c48 => ?_)
      · skip
        have hs : s_X3_passFrame S N f p z t = S4 := (if_pos c24).trans ((if_neg c31).trans ((if_neg c48).trans (by rw [eS4, eS1])))
        rw [hs]
        exact endv C hr hlk hR hS dX3_passFrame_57
      · skip
        refine lv_aload_n C.1 C.2.1 dX3_passFrame_51 rfl (lv_at hl 1 rfl) ?_
        refine lv_aload_n C.1 C.2.1 dX3_passFrame_52 rfl (lv_at hl 2 rfl) ?_
        refine lv_aload_n C.1 C.2.1 dX3_passFrame_53 rfl (lv_at hl 0 rfl) ?_
        refine cxV (b := b) (As := [.ref (aRg b f), .ref (aSt b (wr N (f + p)))]) (rest := []) (ci := 3) (q := (RX3, TX3, 6)) C (k_X3_finishFrame l g b N S4 Fl hN f p (wr N (f + p)) (by omega) (by omega) (by omega) (by rw [eS4, up2_f (by decide), eS1, up2_f (by decide), h20]) (by rw [eS4, up2_f (by decide), eS1, up2_f (by decide), h25]) z t hz ht (by rw [show S4 28 f = S 28 f from by rw [eS4, up2_f (by decide), eS1, up2_f (by decide)], eS4, up2_f (by decide), eS1, up2_f (by decide), h41]) (by rw [show S4 28 f = S 28 f from by rw [eS4, up2_f (by decide), eS1, up2_f (by decide)], eS4, up2_f (by decide), eS1, up2_f (by decide), h42])) cf_X3_finishFrame ml_X3_239 ⟨by decide, by decide⟩ ⟨rfl, rfl⟩ rfl (hR.1) rfl hl.1 rfl (Nat.le_of_ble_eq_true rfl) dX3_passFrame_54 hR ⟨Nat.zero_le _, Nat.zero_le _⟩ hS (fun _ h => h) (fun H locs hR hS _ _ => ?_)
        obtain ⟨S5, eS5⟩ : ∃ y, y = s_X3_finishFrame S4 N f p (wr N (f + p)) z t := ⟨_, rfl⟩
        rw [← eS5] at hR
        simp only [Option.toList, List.nil_append]
        have hs : s_X3_passFrame S N f p z t = S5 := (if_pos c24).trans ((if_neg c31).trans ((if_pos c48).trans (by rw [eS5, eS4, eS1])))
        rw [hs]
        exact endv C hr hlk hR hS dX3_passFrame_57

theorem fin_o {S : SX} {N f p j z t g k : Nat} (h : 20 ≤ g) (h1 : g < 41 ∨ 44 < g) : s_X3_finishFrame S N f p j z t g k = S g k := by
  unfold s_X3_finishFrame
  split
  · rw [s_rem_o h1, up2_f (by omega), rcv_o (by omega) (by omega) (by omega)]
  · rw [s_rem_o h1, up2_f (by omega), up2_f (by omega)]
theorem pfr_o {S : SX} {N f p z t g k : Nat} (h : 20 ≤ g) (h1 : g < 41 ∨ 44 < g) (h2 : g ≠ 27) : s_X3_passFrame S N f p z t g k = S g k := by
  unfold s_X3_passFrame
  repeat' split
  all_goals first | (rw [fin_o h h1, up2_f (by omega), up2_f (by omega)]; done) | (rw [fin_o h h1, up2_f (by omega)]; done) | (rw [up2_f (by omega), up2_f (by omega)]; done) | (rw [up2_f (by omega)]; done)
def s_X3_beginFrameOrLeave (S : SX) (N : Nat) (f p L : Nat) : SX := if S 29 f = 0 then (if r_X2_mayBeginSynchronous S (wr N (f + p)) = 0 then (if r_X2_mayBeginAsynchronous S (wr N (f + p)) (S 24 f) = 0 then (s_X3_leave S f (p) L) else (up2 (up2 (up2 S 28 f (nI 0)) 29 f (nI 1)) 27 f (S 43 (5 * (2 * (wr N (f + p)) + 1))))) else (up2 (up2 (up2 S 28 f (nI 1)) 27 f (S 43 (5 * (2 * (wr N (f + p)))))) 9 (wr N (f + p)) ((S 9 (wr N (f + p))) - (S 43 (5 * (2 * (wr N (f + p)))))))) else (if r_X2_mayBeginAsynchronous S (wr N (f + p)) (S 24 f) = 0 then (s_X3_leave S f (p) L) else (up2 (up2 (up2 S 28 f (nI 0)) 29 f (nI 1)) 27 f (S 43 (5 * (2 * (wr N (f + p)) + 1)))))
set_option maxHeartbeats 4000000 in
set_option maxRecDepth 100000 in
theorem k_X3_beginFrameOrLeave (l : Launch) (g : GX) (b N : Nat) (S : SX) (Fl : FX) (hN : N ≤ 6) (f p L : Nat) (hf : f < N) (hp : p < N) (hL : L ≤ N) (hL1 : 1 ≤ L) (h20 : S 20 f = nI f) (h25 : S 25 f = nI p) (h21 : S 21 f = nI L)  : MR l yX3_beginFrameOrLeave (.code yX3_beginFrameOrLeave cX3_beginFrameOrLeave 3 none :: tb) (rmk 2 45) g (RepX g b N S Fl) (RepX g b N (s_X3_beginFrameOrLeave S N f p L) Fl) (AX b N) [.ref b, .ref (aRg b f)] none := by
  refine MR.start RX3 (by decide) rfl (Nat.le_of_ble_eq_true rfl) (fun zp ze zs zm zb zt zc ls C hr hlk hR hS hl => ?_)
  have hl : lv_has ls 3 [(0, .ref b), (1, .ref (aRg b f))] := hl
  refine lv_aload_n C.1 C.2.1 dX3_beginFrameOrLeave_0 rfl (lv_at hl 0 rfl) ?_
  refine lv_aload_n C.1 C.2.1 dX3_beginFrameOrLeave_1 rfl (lv_at hl 1 rfl) ?_
  refine lv_aload_n C.1 C.2.1 dX3_beginFrameOrLeave_2 rfl (lv_at hl 1 rfl) ?_
  refine xR_get (j := f) C hR (by omega) 5 (by decide) rfl fl_X3_84 (v := .int (S 25 f)) rfl dX3_beginFrameOrLeave_3 ?_
  refine lv_re (y := nI p) (by rw [h25]) ?_
  refine cxV (b := b) (As := [.ref (aRg b f), .int (nI p)]) (rest := []) (ci := 3) (q := (RX3, TX3, 6)) C (k_X3_stationAt l g b N S Fl hN (f) (p) (by omega) (by omega) (by rw [h20])) cf_X3_stationAt ml_X3_178 ⟨by decide, by decide⟩ ⟨rfl, rfl⟩ rfl (hR.1) rfl hl.1 rfl (Nat.le_of_ble_eq_true rfl) dX3_beginFrameOrLeave_6 hR ⟨Nat.zero_le _, Nat.zero_le _⟩ hS (fun _ h => h) (fun H locs hR hS _ _ => ?_)
  simp only [Option.toList, List.cons_append, List.nil_append]
  have hw5 := wr_lt (N := N) (i := f + p) (by omega)
  refine lv_astore_n (lv' := [(2, .ref (aSt b (wr N (f + p)))), (0, .ref b), (1, .ref (aRg b f))]) C.1 C.2.1 dX3_beginFrameOrLeave_9 rfl hl (by decide) rfl (fun ls hl => ?_)
  refine lv_aload_n C.1 C.2.1 dX3_beginFrameOrLeave_10 rfl (lv_at hl 2 rfl) ?_
  refine xR_get (j := f) C hR (by omega) 9 (by decide) rfl fl_X3_236 (v := .int (S 29 f)) rfl dX3_beginFrameOrLeave_11 ?_
  refine lv_if_ne (tgt := 58) C.1 C.2.1 dX3_beginFrameOrLeave_14 (by decide) (fun c14 => ?_) (fun c14 => ?_)
  · skip
    refine lv_aload_n C.1 C.2.1 dX3_beginFrameOrLeave_58 rfl (lv_at hl 0 rfl) ?_
    refine lv_aload_n C.1 C.2.1 dX3_beginFrameOrLeave_59 rfl (lv_at hl 2 rfl) ?_
    refine xR_get (j := f) C hR (by omega) 4 (by decide) rfl fl_X3_94 (v := .int (S 24 f)) rfl dX3_beginFrameOrLeave_60 ?_
    refine cxV (b := aSt b (wr N (f + p))) (As := [.int (S 24 f)]) (rest := []) (ci := 2) (q := (RX2, TX2, 19)) C (k_X2_mayBeginAsynchronous l g b N S Fl hN (wr N (f + p)) (by omega) (S 24 f)) cf_X2_mayBeginAsynchronous ml_X3_256 ⟨by decide, by decide⟩ ⟨rfl, rfl⟩ rfl (hR.2.2.2.2.1 _ (by omega)) rfl hl.1 rfl (Nat.le_of_ble_eq_true rfl) dX3_beginFrameOrLeave_63 hR ⟨Nat.zero_le _, Nat.zero_le _⟩ hS (fun _ h => h) (fun H locs hR hS _ _ => ?_)
    simp only [Option.toList, List.cons_append, List.nil_append]
    refine lv_if_eq (tgt := 95) C.1 C.2.1 dX3_beginFrameOrLeave_66 (by decide) (fun c66 => ?_) (fun c66 => ?_)
    · skip
      refine lv_aload_n C.1 C.2.1 dX3_beginFrameOrLeave_95 rfl (lv_at hl 1 rfl) ?_
      refine lv_aload_n C.1 C.2.1 dX3_beginFrameOrLeave_96 rfl (lv_at hl 2 rfl) ?_
      refine cxV (b := b) (As := [.ref (aRg b f)]) (rest := []) (ci := 3) (q := (RX3, TX3, 6)) C (k_X3_leave l g b N S Fl hN f (p) L (by omega) (by omega) (by omega) (by omega) (by rw [h25]) (by rw [h21])) cf_X3_leave ml_X3_211 ⟨by decide, by decide⟩ ⟨rfl, rfl⟩ rfl (hR.1) rfl hl.1 rfl (Nat.le_of_ble_eq_true rfl) dX3_beginFrameOrLeave_97 hR ⟨Nat.zero_le _, Nat.zero_le _⟩ hS (fun _ h => h) (fun H locs hR hS _ _ => ?_)
      obtain ⟨S1, eS1⟩ : ∃ y, y = s_X3_leave S f (p) L := ⟨_, rfl⟩
      rw [← eS1] at hR
      simp only [Option.toList, List.nil_append]
      have hs : s_X3_beginFrameOrLeave S N f p L = S1 := (if_neg c14).trans ((if_pos c66).trans (by rw [eS1]))
      rw [hs]
      exact endv C hr hlk hR hS dX3_beginFrameOrLeave_100
    · skip
      refine lv_aload_n C.1 C.2.1 dX3_beginFrameOrLeave_69 rfl (lv_at hl 2 rfl) ?_
      refine lv_iconst (v := nI 0) C.1 C.2.1 dX3_beginFrameOrLeave_70 (by decide) ?_
      refine xR_put (j := f) C hR hS (by omega) 8 (by decide) rfl rfl fl_X3_182 (nz_n (Or.inl rfl)) (nz_f (Or.inl rfl)) rgS_8 dX3_beginFrameOrLeave_71 (fun S2 H locs eS2 hR hS => ?_)
      refine lv_aload_n C.1 C.2.1 dX3_beginFrameOrLeave_74 rfl (lv_at hl 2 rfl) ?_
      refine lv_iconst (v := nI 1) C.1 C.2.1 dX3_beginFrameOrLeave_75 (by decide) ?_
      refine xR_put (j := f) C hR hS (by omega) 9 (by decide) rfl rfl fl_X3_236 (nz_n (Or.inr rfl)) (nz_f (Or.inr rfl)) rgS_9 dX3_beginFrameOrLeave_76 (fun S3 H locs eS3 hR hS => ?_)
      refine lv_aload_n C.1 C.2.1 dX3_beginFrameOrLeave_79 rfl (lv_at hl 2 rfl) ?_
      refine lv_aload_n C.1 C.2.1 dX3_beginFrameOrLeave_80 rfl (lv_at hl 0 rfl) ?_
      refine xS_get (j := wr N (f + p)) C hR (by omega) 1 (by decide) rfl fl_X3_116 (v := .ref (aQ b (2 * (wr N (f + p)) + 1))) rfl dX3_beginFrameOrLeave_81 ?_
      refine xQ_get (q := 2 * (wr N (f + p)) + 1) C hR (by omega) 1 (by decide) rfl fl_X3_243 (v := .ref (aQA b (2 * (wr N (f + p)) + 1) 1)) rfl dX3_beginFrameOrLeave_84 ?_
      refine lv_iconst (v := nI 0) C.1 C.2.1 dX3_beginFrameOrLeave_87 (by decide) ?_
      refine xA_ld (q := 2 * (wr N (f + p)) + 1) (i := 1) (k := 0) C hR (by omega) (by decide) (by omega) (v := S3 43 (5 * (2 * (wr N (f + p)) + 1))) rfl dX3_beginFrameOrLeave_88 ?_
      refine lv_re (y := S 43 (5 * (2 * (wr N (f + p)) + 1))) (by rw [eS3, up2_f (by decide), eS2, up2_f (by decide)]) ?_
      refine xR_put (j := f) C hR hS (by omega) 7 (by decide) rfl rfl fl_X3_91 rfl rfl rgS_7 dX3_beginFrameOrLeave_89 (fun S4 H locs eS4 hR hS => ?_)
      refine lv_goto (tgt := 100) C.1 C.2.1 dX3_beginFrameOrLeave_92 (by decide) ?_
      have hs : s_X3_beginFrameOrLeave S N f p L = S4 := (if_neg c14).trans ((if_neg c66).trans (by rw [eS4, eS3, eS2]))
      rw [hs]
      exact endv C hr hlk hR hS dX3_beginFrameOrLeave_100
  · skip
    refine lv_aload_n C.1 C.2.1 dX3_beginFrameOrLeave_17 rfl (lv_at hl 0 rfl) ?_
    refine cxV (b := aSt b (wr N (f + p))) (As := []) (rest := []) (ci := 2) (q := (RX2, TX2, 19)) C (k_X2_mayBeginSynchronous l g b N S Fl hN (wr N (f + p)) (by omega)) cf_X2_mayBeginSynchronous ml_X3_253 ⟨by decide, by decide⟩ ⟨rfl, rfl⟩ rfl (hR.2.2.2.2.1 _ (by omega)) rfl hl.1 rfl (Nat.le_of_ble_eq_true rfl) dX3_beginFrameOrLeave_18 hR ⟨Nat.zero_le _, Nat.zero_le _⟩ hS (fun _ h => h) (fun H locs hR hS _ _ => ?_)
    simp only [Option.toList, List.cons_append, List.nil_append]
    refine lv_if_eq (tgt := 58) C.1 C.2.1 dX3_beginFrameOrLeave_21 (by decide) (fun c21 => ?_) (fun c21 => ?_)
    · skip
      refine lv_aload_n C.1 C.2.1 dX3_beginFrameOrLeave_58 rfl (lv_at hl 0 rfl) ?_
      refine lv_aload_n C.1 C.2.1 dX3_beginFrameOrLeave_59 rfl (lv_at hl 2 rfl) ?_
      refine xR_get (j := f) C hR (by omega) 4 (by decide) rfl fl_X3_94 (v := .int (S 24 f)) rfl dX3_beginFrameOrLeave_60 ?_
      refine cxV (b := aSt b (wr N (f + p))) (As := [.int (S 24 f)]) (rest := []) (ci := 2) (q := (RX2, TX2, 19)) C (k_X2_mayBeginAsynchronous l g b N S Fl hN (wr N (f + p)) (by omega) (S 24 f)) cf_X2_mayBeginAsynchronous ml_X3_256 ⟨by decide, by decide⟩ ⟨rfl, rfl⟩ rfl (hR.2.2.2.2.1 _ (by omega)) rfl hl.1 rfl (Nat.le_of_ble_eq_true rfl) dX3_beginFrameOrLeave_63 hR ⟨Nat.zero_le _, Nat.zero_le _⟩ hS (fun _ h => h) (fun H locs hR hS _ _ => ?_)
      simp only [Option.toList, List.cons_append, List.nil_append]
      refine lv_if_eq (tgt := 95) C.1 C.2.1 dX3_beginFrameOrLeave_66 (by decide) (fun c66 => ?_) (fun c66 => ?_)
      · skip
        refine lv_aload_n C.1 C.2.1 dX3_beginFrameOrLeave_95 rfl (lv_at hl 1 rfl) ?_
        refine lv_aload_n C.1 C.2.1 dX3_beginFrameOrLeave_96 rfl (lv_at hl 2 rfl) ?_
        refine cxV (b := b) (As := [.ref (aRg b f)]) (rest := []) (ci := 3) (q := (RX3, TX3, 6)) C (k_X3_leave l g b N S Fl hN f (p) L (by omega) (by omega) (by omega) (by omega) (by rw [h25]) (by rw [h21])) cf_X3_leave ml_X3_211 ⟨by decide, by decide⟩ ⟨rfl, rfl⟩ rfl (hR.1) rfl hl.1 rfl (Nat.le_of_ble_eq_true rfl) dX3_beginFrameOrLeave_97 hR ⟨Nat.zero_le _, Nat.zero_le _⟩ hS (fun _ h => h) (fun H locs hR hS _ _ => ?_)
        obtain ⟨S5, eS5⟩ : ∃ y, y = s_X3_leave S f (p) L := ⟨_, rfl⟩
        rw [← eS5] at hR
        simp only [Option.toList, List.nil_append]
        have hs : s_X3_beginFrameOrLeave S N f p L = S5 := (if_pos c14).trans ((if_pos c21).trans ((if_pos c66).trans (by rw [eS5])))
        rw [hs]
        exact endv C hr hlk hR hS dX3_beginFrameOrLeave_100
      · skip
        refine lv_aload_n C.1 C.2.1 dX3_beginFrameOrLeave_69 rfl (lv_at hl 2 rfl) ?_
        refine lv_iconst (v := nI 0) C.1 C.2.1 dX3_beginFrameOrLeave_70 (by decide) ?_
        refine xR_put (j := f) C hR hS (by omega) 8 (by decide) rfl rfl fl_X3_182 (nz_n (Or.inl rfl)) (nz_f (Or.inl rfl)) rgS_8 dX3_beginFrameOrLeave_71 (fun S6 H locs eS6 hR hS => ?_)
        refine lv_aload_n C.1 C.2.1 dX3_beginFrameOrLeave_74 rfl (lv_at hl 2 rfl) ?_
        refine lv_iconst (v := nI 1) C.1 C.2.1 dX3_beginFrameOrLeave_75 (by decide) ?_
        refine xR_put (j := f) C hR hS (by omega) 9 (by decide) rfl rfl fl_X3_236 (nz_n (Or.inr rfl)) (nz_f (Or.inr rfl)) rgS_9 dX3_beginFrameOrLeave_76 (fun S7 H locs eS7 hR hS => ?_)
        refine lv_aload_n C.1 C.2.1 dX3_beginFrameOrLeave_79 rfl (lv_at hl 2 rfl) ?_
        refine lv_aload_n C.1 C.2.1 dX3_beginFrameOrLeave_80 rfl (lv_at hl 0 rfl) ?_
        refine xS_get (j := wr N (f + p)) C hR (by omega) 1 (by decide) rfl fl_X3_116 (v := .ref (aQ b (2 * (wr N (f + p)) + 1))) rfl dX3_beginFrameOrLeave_81 ?_
        refine xQ_get (q := 2 * (wr N (f + p)) + 1) C hR (by omega) 1 (by decide) rfl fl_X3_243 (v := .ref (aQA b (2 * (wr N (f + p)) + 1) 1)) rfl dX3_beginFrameOrLeave_84 ?_
        refine lv_iconst (v := nI 0) C.1 C.2.1 dX3_beginFrameOrLeave_87 (by decide) ?_
        refine xA_ld (q := 2 * (wr N (f + p)) + 1) (i := 1) (k := 0) C hR (by omega) (by decide) (by omega) (v := S7 43 (5 * (2 * (wr N (f + p)) + 1))) rfl dX3_beginFrameOrLeave_88 ?_
        refine lv_re (y := S 43 (5 * (2 * (wr N (f + p)) + 1))) (by rw [eS7, up2_f (by decide), eS6, up2_f (by decide)]) ?_
        refine xR_put (j := f) C hR hS (by omega) 7 (by decide) rfl rfl fl_X3_91 rfl rfl rgS_7 dX3_beginFrameOrLeave_89 (fun S8 H locs eS8 hR hS => ?_)
        refine lv_goto (tgt := 100) C.1 C.2.1 dX3_beginFrameOrLeave_92 (by decide) ?_
        have hs : s_X3_beginFrameOrLeave S N f p L = S8 := (if_pos c14).trans ((if_pos c21).trans ((if_neg c66).trans (by rw [eS8, eS7, eS6])))
        rw [hs]
        exact endv C hr hlk hR hS dX3_beginFrameOrLeave_100
    · skip
      refine lv_aload_n C.1 C.2.1 dX3_beginFrameOrLeave_24 rfl (lv_at hl 2 rfl) ?_
      refine lv_iconst (v := nI 1) C.1 C.2.1 dX3_beginFrameOrLeave_25 (by decide) ?_
      refine xR_put (j := f) C hR hS (by omega) 8 (by decide) rfl rfl fl_X3_182 (nz_n (Or.inr rfl)) (nz_f (Or.inr rfl)) rgS_8 dX3_beginFrameOrLeave_26 (fun S9 H locs eS9 hR hS => ?_)
      refine lv_aload_n C.1 C.2.1 dX3_beginFrameOrLeave_29 rfl (lv_at hl 2 rfl) ?_
      refine lv_aload_n C.1 C.2.1 dX3_beginFrameOrLeave_30 rfl (lv_at hl 0 rfl) ?_
      refine xS_get (j := wr N (f + p)) C hR (by omega) 0 (by decide) rfl fl_X3_109 (v := .ref (aQ b (2 * (wr N (f + p))))) rfl dX3_beginFrameOrLeave_31 ?_
      refine xQ_get (q := 2 * (wr N (f + p))) C hR (by omega) 1 (by decide) rfl fl_X3_243 (v := .ref (aQA b (2 * (wr N (f + p))) 1)) rfl dX3_beginFrameOrLeave_34 ?_
      refine lv_iconst (v := nI 0) C.1 C.2.1 dX3_beginFrameOrLeave_37 (by decide) ?_
      refine xA_ld (q := 2 * (wr N (f + p))) (i := 1) (k := 0) C hR (by omega) (by decide) (by omega) (v := S9 43 (5 * (2 * (wr N (f + p))))) rfl dX3_beginFrameOrLeave_38 ?_
      refine lv_re (y := S 43 (5 * (2 * (wr N (f + p))))) (by rw [eS9, up2_f (by decide)]) ?_
      refine xR_put (j := f) C hR hS (by omega) 7 (by decide) rfl rfl fl_X3_91 rfl rfl rgS_7 dX3_beginFrameOrLeave_39 (fun S10 H locs eS10 hR hS => ?_)
      refine lv_aload_n C.1 C.2.1 dX3_beginFrameOrLeave_42 rfl (lv_at hl 0 rfl) ?_
      refine lv_dup C.1 C.2.1 dX3_beginFrameOrLeave_43 rfl ?_
      refine xS_get (j := wr N (f + p)) C hR (by omega) 9 (by decide) rfl fl_X3_106 (v := .int (S10 9 (wr N (f + p)))) rfl dX3_beginFrameOrLeave_44 ?_
      refine lv_re (y := S 9 (wr N (f + p))) (by rw [eS10, up2_f (by decide), eS9, up2_f (by decide)]) ?_
      refine lv_aload_n C.1 C.2.1 dX3_beginFrameOrLeave_47 rfl (lv_at hl 2 rfl) ?_
      refine xR_get (j := f) C hR (by omega) 7 (by decide) rfl fl_X3_91 (v := .int (S10 27 f)) rfl dX3_beginFrameOrLeave_48 ?_
      refine lv_re (y := S 43 (5 * (2 * (wr N (f + p))))) (by rw [eS10, up2_eq]) ?_
      refine lv_isub C.1 C.2.1 dX3_beginFrameOrLeave_51 ?_
      refine xS_put (j := wr N (f + p)) C hR hS (by omega) 9 (by decide) rfl rfl fl_X3_106 rfl rfl stS_9 dX3_beginFrameOrLeave_52 (fun S11 H locs eS11 hR hS => ?_)
      refine lv_goto (tgt := 100) C.1 C.2.1 dX3_beginFrameOrLeave_55 (by decide) ?_
      have hs : s_X3_beginFrameOrLeave S N f p L = S11 := (if_pos c14).trans ((if_neg c21).trans (by rw [eS11, eS10, eS9]))
      rw [hs]
      exact endv C hr hlk hR hS dX3_beginFrameOrLeave_100

def s_X3_passToken (S : SX) (N : Nat) (f p L z t : Nat) : SX := if S 26 f ≤ 0 then (if S 27 f ≤ 0 then (if S 27 f = 0 then (s_X3_beginFrameOrLeave S N f p L) else S) else (if (s_X3_passFrame S N f p z t) 27 f = 0 then (s_X3_beginFrameOrLeave (s_X3_passFrame S N f p z t) N f p L) else (s_X3_passFrame S N f p z t))) else (if (S 26 f) - (nI 1) = 0 then (s_X3_arrive (up2 S 26 f ((S 26 f) - (nI 1))) N f p L) else (up2 S 26 f ((S 26 f) - (nI 1))))
def f_X3_passToken (S : SX) (Fl : FX) (N : Nat) (f p L z t : Nat) : FX := if S 26 f ≤ 0 then Fl else (if (S 26 f) - (nI 1) = 0 then (f_X3_arrive (up2 S 26 f ((S 26 f) - (nI 1))) Fl N f p L) else Fl)
set_option maxHeartbeats 4000000 in
set_option maxRecDepth 100000 in
theorem k_X3_passToken (l : Launch) (g : GX) (b N : Nat) (S : SX) (Fl : FX) (hN : N ≤ 6) (f p L : Nat) (hf : f < N) (hp : p < N) (hL : L ≤ N) (hL1 : 1 ≤ L) (h20 : S 20 f = nI f) (h25 : S 25 f = nI p) (h21 : S 21 f = nI L) (z t : Nat) (hz : z ≤ 5) (ht : t < N) (h41 : S 41 (qof (wr N (f + p)) (S 28 f)) = nI z) (h42 : S 42 (5 * qof (wr N (f + p)) (S 28 f)) = nI t) (hF : fOK (Fl (wr N (f + p))))  : MR l yX3_passToken (.code yX3_passToken cX3_passToken 2 none :: tb) (rmk 3 70) g (RepX g b N S Fl) (RepX g b N (s_X3_passToken S N f p L z t) (f_X3_passToken S Fl N f p L z t)) (AX b N) [.ref b, .ref (aRg b f)] none := by
  refine MR.start RX3 (by decide) rfl (Nat.le_of_ble_eq_true rfl) (fun zp ze zs zm zb zt zc ls C hr hlk hR hS hl => ?_)
  have hl : lv_has ls 2 [(0, .ref b), (1, .ref (aRg b f))] := hl
  refine lv_aload_n C.1 C.2.1 dX3_passToken_0 rfl (lv_at hl 1 rfl) ?_
  refine xR_get (j := f) C hR (by omega) 6 (by decide) rfl fl_X3_81 (v := .int (S 26 f)) rfl dX3_passToken_1 ?_
  refine lv_if_le (tgt := 30) C.1 C.2.1 dX3_passToken_4 (by decide) (fun c4 => ?_) (fun c4 => ?_)
  · skip
    refine lv_aload_n C.1 C.2.1 dX3_passToken_30 rfl (lv_at hl 1 rfl) ?_
    refine xR_get (j := f) C hR (by omega) 7 (by decide) rfl fl_X3_91 (v := .int (S 27 f)) rfl dX3_passToken_31 ?_
    refine lv_if_le (tgt := 42) C.1 C.2.1 dX3_passToken_34 (by decide) (fun c34 => ?_) (fun c34 => ?_)
    · skip
      refine lv_aload_n C.1 C.2.1 dX3_passToken_42 rfl (lv_at hl 1 rfl) ?_
      refine xR_get (j := f) C hR (by omega) 7 (by decide) rfl fl_X3_91 (v := .int (S 27 f)) rfl dX3_passToken_43 ?_
      refine lv_if_ne (tgt := 54) C.1 C.2.1 dX3_passToken_46 (by decide) (fun c46 => ?_) (fun c46 => ?_)
      · skip
        have hs : s_X3_passToken S N f p L z t = S := (if_pos c4).trans ((if_pos c34).trans ((if_neg c46).trans (rfl)))
        rw [hs]
        have hf : f_X3_passToken S Fl N f p L z t = Fl := (if_pos c4).trans (rfl)
        rw [hf]
        exact endv C hr hlk hR hS dX3_passToken_54
      · skip
        refine lv_aload_n C.1 C.2.1 dX3_passToken_49 rfl (lv_at hl 0 rfl) ?_
        refine lv_aload_n C.1 C.2.1 dX3_passToken_50 rfl (lv_at hl 1 rfl) ?_
        refine cxV (b := b) (As := [.ref (aRg b f)]) (rest := []) (ci := 3) (q := (RX3, TX3, 6)) C (k_X3_beginFrameOrLeave l g b N S Fl hN f p L (by omega) (by omega) (by omega) (by omega) (by rw [h20]) (by rw [h25]) (by rw [h21])) cf_X3_beginFrameOrLeave ml_X3_223 ⟨by decide, by decide⟩ ⟨rfl, rfl⟩ rfl (hR.1) rfl hl.1 rfl (Nat.le_of_ble_eq_true rfl) dX3_passToken_51 hR ⟨Nat.zero_le _, Nat.zero_le _⟩ hS (fun _ h => h) (fun H locs hR hS _ _ => ?_)
        obtain ⟨S1, eS1⟩ : ∃ y, y = s_X3_beginFrameOrLeave S N f p L := ⟨_, rfl⟩
        rw [← eS1] at hR
        simp only [Option.toList, List.nil_append]
        have hs : s_X3_passToken S N f p L z t = S1 := (if_pos c4).trans ((if_pos c34).trans ((if_pos c46).trans (by rw [eS1])))
        rw [hs]
        have hf : f_X3_passToken S Fl N f p L z t = Fl := (if_pos c4).trans (rfl)
        rw [hf]
        exact endv C hr hlk hR hS dX3_passToken_54
    · skip
      refine lv_aload_n C.1 C.2.1 dX3_passToken_37 rfl (lv_at hl 0 rfl) ?_
      refine lv_aload_n C.1 C.2.1 dX3_passToken_38 rfl (lv_at hl 1 rfl) ?_
      refine cxV (b := b) (As := [.ref (aRg b f)]) (rest := []) (ci := 3) (q := (RX3, TX3, 6)) C (k_X3_passFrame l g b N S Fl hN f p L (by omega) (by omega) (by omega) (by omega) (by rw [h20]) (by rw [h25]) (by rw [h21]) z t hz ht (by rw [h41]) (by rw [h42])) cf_X3_passFrame ml_X3_220 ⟨by decide, by decide⟩ ⟨rfl, rfl⟩ rfl (hR.1) rfl hl.1 rfl (Nat.le_of_ble_eq_true rfl) dX3_passToken_39 hR ⟨Nat.zero_le _, Nat.zero_le _⟩ hS (fun _ h => h) (fun H locs hR hS _ _ => ?_)
      obtain ⟨S2, eS2⟩ : ∃ y, y = s_X3_passFrame S N f p z t := ⟨_, rfl⟩
      rw [← eS2] at hR
      simp only [Option.toList, List.nil_append]
      refine lv_aload_n C.1 C.2.1 dX3_passToken_42 rfl (lv_at hl 1 rfl) ?_
      refine xR_get (j := f) C hR (by omega) 7 (by decide) rfl fl_X3_91 (v := .int (S2 27 f)) rfl dX3_passToken_43 ?_
      refine lv_if_ne (tgt := 54) C.1 C.2.1 dX3_passToken_46 (by decide) (fun c46 => ?_) (fun c46 => ?_)
      · skip
        rw [eS2] at c46
        have hs : s_X3_passToken S N f p L z t = S2 := (if_pos c4).trans ((if_neg c34).trans ((if_neg c46).trans (by rw [eS2])))
        rw [hs]
        have hf : f_X3_passToken S Fl N f p L z t = Fl := (if_pos c4).trans (rfl)
        rw [hf]
        exact endv C hr hlk hR hS dX3_passToken_54
      · skip
        rw [eS2] at c46
        refine lv_aload_n C.1 C.2.1 dX3_passToken_49 rfl (lv_at hl 0 rfl) ?_
        refine lv_aload_n C.1 C.2.1 dX3_passToken_50 rfl (lv_at hl 1 rfl) ?_
        refine cxV (b := b) (As := [.ref (aRg b f)]) (rest := []) (ci := 3) (q := (RX3, TX3, 6)) C (k_X3_beginFrameOrLeave l g b N S2 Fl hN f p L (by omega) (by omega) (by omega) (by omega) (by rw [eS2, pfr_o (by decide) (by decide) (by decide), h20]) (by rw [eS2, pfr_o (by decide) (by decide) (by decide), h25]) (by rw [eS2, pfr_o (by decide) (by decide) (by decide), h21])) cf_X3_beginFrameOrLeave ml_X3_223 ⟨by decide, by decide⟩ ⟨rfl, rfl⟩ rfl (hR.1) rfl hl.1 rfl (Nat.le_of_ble_eq_true rfl) dX3_passToken_51 hR ⟨Nat.zero_le _, Nat.zero_le _⟩ hS (fun _ h => h) (fun H locs hR hS _ _ => ?_)
        obtain ⟨S3, eS3⟩ : ∃ y, y = s_X3_beginFrameOrLeave S2 N f p L := ⟨_, rfl⟩
        rw [← eS3] at hR
        simp only [Option.toList, List.nil_append]
        have hs : s_X3_passToken S N f p L z t = S3 := (if_pos c4).trans ((if_neg c34).trans ((if_pos c46).trans (by rw [eS3, eS2])))
        rw [hs]
        have hf : f_X3_passToken S Fl N f p L z t = Fl := (if_pos c4).trans (rfl)
        rw [hf]
        exact endv C hr hlk hR hS dX3_passToken_54
  · skip
    refine lv_aload_n C.1 C.2.1 dX3_passToken_7 rfl (lv_at hl 1 rfl) ?_
    refine lv_dup C.1 C.2.1 dX3_passToken_8 rfl ?_
    refine xR_get (j := f) C hR (by omega) 6 (by decide) rfl fl_X3_81 (v := .int (S 26 f)) rfl dX3_passToken_9 ?_
    refine lv_iconst (v := nI 1) C.1 C.2.1 dX3_passToken_12 (by decide) ?_
    refine lv_isub C.1 C.2.1 dX3_passToken_13 ?_
    refine xR_put (j := f) C hR hS (by omega) 6 (by decide) rfl rfl fl_X3_81 rfl rfl rgS_6 dX3_passToken_14 (fun S4 H locs eS4 hR hS => ?_)
    refine lv_aload_n C.1 C.2.1 dX3_passToken_17 rfl (lv_at hl 1 rfl) ?_
    refine xR_get (j := f) C hR (by omega) 6 (by decide) rfl fl_X3_81 (v := .int (S4 26 f)) rfl dX3_passToken_18 ?_
    refine lv_re (y := (S 26 f) - (nI 1)) (by rw [eS4, up2_eq]) ?_
    refine lv_if_ne (tgt := 29) C.1 C.2.1 dX3_passToken_21 (by decide) (fun c21 => ?_) (fun c21 => ?_)
    · skip
      have hs : s_X3_passToken S N f p L z t = S4 := (if_neg c4).trans ((if_neg c21).trans (by rw [eS4]))
      rw [hs]
      have hf : f_X3_passToken S Fl N f p L z t = Fl := (if_neg c4).trans ((if_neg c21).trans (rfl))
      rw [hf]
      exact endv C hr hlk hR hS dX3_passToken_29
    · skip
      refine lv_aload_n C.1 C.2.1 dX3_passToken_24 rfl (lv_at hl 0 rfl) ?_
      refine lv_aload_n C.1 C.2.1 dX3_passToken_25 rfl (lv_at hl 1 rfl) ?_
      refine cxV (b := b) (As := [.ref (aRg b f)]) (rest := []) (ci := 3) (q := (RX3, TX3, 6)) C (k_X3_arrive l g b N S4 Fl hN f p L (by omega) (by omega) (by omega) (by omega) (by rw [eS4, up2_f (by decide), h20]) (by rw [eS4, up2_f (by decide), h25]) (by rw [eS4, up2_f (by decide), h21]) hF) cf_X3_arrive ml_X3_217 ⟨by decide, by decide⟩ ⟨rfl, rfl⟩ rfl (hR.1) rfl hl.1 rfl (Nat.le_of_ble_eq_true rfl) dX3_passToken_26 hR ⟨Nat.zero_le _, Nat.zero_le _⟩ hS (fun _ h => h) (fun H locs hR hS _ _ => ?_)
      obtain ⟨S5, eS5⟩ : ∃ y, y = s_X3_arrive S4 N f p L := ⟨_, rfl⟩
      rw [← eS5] at hR
      obtain ⟨F6, eF6⟩ : ∃ y, y = f_X3_arrive S4 Fl N f p L := ⟨_, rfl⟩
      rw [← eF6] at hR
      simp only [Option.toList, List.nil_append]
      have hs : s_X3_passToken S N f p L z t = S5 := (if_neg c4).trans ((if_pos c21).trans (by rw [eS5, eS4]))
      rw [hs]
      have hf : f_X3_passToken S Fl N f p L z t = F6 := (if_neg c4).trans ((if_pos c21).trans (by rw [eF6]; try simp only [eS5, eS4, true_and]))
      rw [hf]
      exact endv C hr hlk hR hS dX3_passToken_29

def s_X3_passClaim (S : SX) (N : Nat) (f p L : Nat) : SX := if (S 23 f) - (nI 1) = 0 then (s_X3_leave (opr N (up2 S 23 f ((S 23 f) - (nI 1))) f L) f (wins N (up2 S 23 f ((S 23 f) - (nI 1))) f (L - 1) 1 0) L) else (up2 S 23 f ((S 23 f) - (nI 1)))
set_option maxHeartbeats 4000000 in
set_option maxRecDepth 100000 in
theorem k_X3_passClaim (l : Launch) (g : GX) (b N : Nat) (S : SX) (Fl : FX) (hN : N ≤ 6) (f p L : Nat) (hf : f < N) (hp : p < N) (hL : L ≤ N) (hL1 : 1 ≤ L) (h20 : S 20 f = nI f) (h25 : S 25 f = nI p) (h21 : S 21 f = nI L)  : MR l yX3_passClaim (.code yX3_passClaim cX3_passClaim 2 none :: tb) (rmk 4 94) g (RepX g b N S Fl) (RepX g b N (s_X3_passClaim S N f p L) Fl) (AX b N) [.ref b, .ref (aRg b f)] none := by
  refine MR.start RX3 (by decide) rfl (Nat.le_of_ble_eq_true rfl) (fun zp ze zs zm zb zt zc ls C hr hlk hR hS hl => ?_)
  have hl : lv_has ls 2 [(0, .ref b), (1, .ref (aRg b f))] := hl
  refine lv_aload_n C.1 C.2.1 dX3_passClaim_0 rfl (lv_at hl 1 rfl) ?_
  refine lv_dup C.1 C.2.1 dX3_passClaim_1 rfl ?_
  refine xR_get (j := f) C hR (by omega) 3 (by decide) rfl fl_X3_175 (v := .int (S 23 f)) rfl dX3_passClaim_2 ?_
  refine lv_iconst (v := nI 1) C.1 C.2.1 dX3_passClaim_5 (by decide) ?_
  refine lv_isub C.1 C.2.1 dX3_passClaim_6 ?_
  refine xR_put (j := f) C hR hS (by omega) 3 (by decide) rfl rfl fl_X3_175 rfl rfl rgS_3 dX3_passClaim_7 (fun S1 H locs eS1 hR hS => ?_)
  refine lv_aload_n C.1 C.2.1 dX3_passClaim_10 rfl (lv_at hl 1 rfl) ?_
  refine xR_get (j := f) C hR (by omega) 3 (by decide) rfl fl_X3_175 (v := .int (S1 23 f)) rfl dX3_passClaim_11 ?_
  refine lv_re (y := (S 23 f) - (nI 1)) (by rw [eS1, up2_eq]) ?_
  refine lv_if_ne (tgt := 22) C.1 C.2.1 dX3_passClaim_14 (by decide) (fun c14 => ?_) (fun c14 => ?_)
  · skip
    have hs : s_X3_passClaim S N f p L = S1 := (if_neg c14).trans (by rw [eS1])
    rw [hs]
    exact endv C hr hlk hR hS dX3_passClaim_22
  · skip
    refine lv_aload_n C.1 C.2.1 dX3_passClaim_17 rfl (lv_at hl 0 rfl) ?_
    refine lv_aload_n C.1 C.2.1 dX3_passClaim_18 rfl (lv_at hl 1 rfl) ?_
    refine cxV (b := b) (As := [.ref (aRg b f)]) (rest := []) (ci := 3) (q := (RX3, TX3, 6)) C (k_X3_operate l g b N S1 Fl hN f p L (by omega) (by omega) (by omega) (by omega) (by rw [eS1, up2_f (by decide), h20]) (by rw [eS1, up2_f (by decide), h25]) (by rw [eS1, up2_f (by decide), h21])) cf_X3_operate ml_X3_201 ⟨by decide, by decide⟩ ⟨rfl, rfl⟩ rfl (hR.1) rfl hl.1 rfl (Nat.le_of_ble_eq_true rfl) dX3_passClaim_19 hR ⟨Nat.zero_le _, Nat.zero_le _⟩ hS (fun _ h => h) (fun H locs hR hS _ _ => ?_)
    obtain ⟨S2, eS2⟩ : ∃ y, y = s_X3_leave (opr N S1 f L) f (wins N S1 f (L - 1) 1 0) L := ⟨_, rfl⟩
    rw [← eS2] at hR
    simp only [Option.toList, List.nil_append]
    have hs : s_X3_passClaim S N f p L = S2 := (if_pos c14).trans (by rw [eS2, eS1])
    rw [hs]
    exact endv C hr hlk hR hS dX3_passClaim_22

def s_X3_passTick (S : SX) (N : Nat) (f p L z t : Nat) : SX := if r_X1_claims S f = 0 then (if L ≤ 0 then S else (if bI (rtB N f (S 24 f) L 0 S) = 0 then (s_X3_claim (rtS N f (S 24 f) L 0 S) N f p z L) else (s_X3_passToken (rtS N f (S 24 f) L 0 S) N f p L z t))) else (s_X3_passClaim S N f p L)
def f_X3_passTick (S : SX) (Fl : FX) (N : Nat) (f p L z t : Nat) : FX := if r_X1_claims S f = 0 then (if L ≤ 0 then Fl else (if bI (rtB N f (S 24 f) L 0 S) = 0 then Fl else (f_X3_passToken (rtS N f (S 24 f) L 0 S) Fl N f p L z t))) else Fl
set_option maxHeartbeats 4000000 in
set_option maxRecDepth 100000 in
theorem k_X3_passTick (l : Launch) (g : GX) (b N : Nat) (S : SX) (Fl : FX) (hN : N ≤ 6) (f p L : Nat) (hf : f < N) (hp : p < N) (hL : L ≤ N) (h20 : S 20 f = nI f) (h25 : S 25 f = nI p) (h21 : S 21 f = nI L) (z t : Nat) (hz : z ≤ 5) (ht : t < N) (h41 : S 41 (qof (wr N (f + p)) (S 28 f)) = nI z) (h42 : S 42 (5 * qof (wr N (f + p)) (S 28 f)) = nI t) (hF : fOK (Fl (wr N (f + p)))) (hcl : ¬ r_X1_claims S f = 0 → 1 ≤ L)  : MR l yX3_passTick (.code yX3_passTick cX3_passTick 2 none :: tb) (rmk 5 115) g (RepX g b N S Fl) (RepX g b N (s_X3_passTick S N f p L z t) (f_X3_passTick S Fl N f p L z t)) (AX b N) [.ref b, .ref (aRg b f)] none := by
  refine MR.start RX3 (by decide) rfl (Nat.le_of_ble_eq_true rfl) (fun zp ze zs zm zb zt zc ls C hr hlk hR hS hl => ?_)
  have hl : lv_has ls 2 [(0, .ref b), (1, .ref (aRg b f))] := hl
  refine lv_aload_n C.1 C.2.1 dX3_passTick_0 rfl (lv_at hl 1 rfl) ?_
  refine cxV (b := aRg b f) (As := []) (rest := []) (ci := 1) (q := (RX1, TX1, 10)) C (k_X1_claims l g b N S Fl hN (f) (by omega)) cf_X1_claims ml_X3_77 ⟨by decide, by decide⟩ ⟨rfl, rfl⟩ rfl (hR.2.2.2.2.2.1 _ (by omega)) rfl hl.1 rfl (Nat.le_of_ble_eq_true rfl) dX3_passTick_1 hR ⟨Nat.zero_le _, Nat.zero_le _⟩ hS (fun _ h => h) (fun H locs hR hS _ _ => ?_)
  simp only [Option.toList, List.cons_append, List.nil_append]
  refine lv_if_eq (tgt := 15) C.1 C.2.1 dX3_passTick_4 (by decide) (fun c4 => ?_) (fun c4 => ?_)
  · skip
    refine lv_aload_n C.1 C.2.1 dX3_passTick_15 rfl (lv_at hl 1 rfl) ?_
    refine xR_get (j := f) C hR (by omega) 1 (by decide) rfl fl_X3_153 (v := .int (S 21 f)) rfl dX3_passTick_16 ?_
    refine lv_re (y := nI L) (by rw [h21]) ?_
    refine lv_if_le (tgt := 43) C.1 C.2.1 dX3_passTick_19 (by decide) (fun c19 => ?_) (fun c19 => ?_)
    · skip
      have c19 : L ≤ 0 := (nI_leI (a := L) (b := 0) (by omega) (by omega)).mp c19
      have hs : s_X3_passTick S N f p L z t = S := (if_pos c4).trans ((if_pos c19).trans (rfl))
      rw [hs]
      have hf : f_X3_passTick S Fl N f p L z t = Fl := (if_pos c4).trans ((if_pos c19).trans (rfl))
      rw [hf]
      exact endv C hr hlk hR hS dX3_passTick_43
    · skip
      have c19 : ¬ (L ≤ 0) := mt (nI_leI (a := L) (b := 0) (by omega) (by omega)).mpr c19
      refine lv_aload_n C.1 C.2.1 dX3_passTick_22 rfl (lv_at hl 0 rfl) ?_
      refine lv_aload_n C.1 C.2.1 dX3_passTick_23 rfl (lv_at hl 1 rfl) ?_
      refine cxV (b := b) (As := [.ref (aRg b f)]) (rest := []) (ci := 3) (q := (RX3, TX3, 6)) C (k_X3_runTimers l g b N S Fl hN f p L (by omega) (by omega) (by omega) (by omega) (by rw [h20]) (by rw [h25]) (by rw [h21])) cf_X3_runTimers ml_X3_191 ⟨by decide, by decide⟩ ⟨rfl, rfl⟩ rfl (hR.1) rfl hl.1 rfl (Nat.le_of_ble_eq_true rfl) dX3_passTick_24 hR ⟨Nat.zero_le _, Nat.zero_le _⟩ hS (fun _ h => h) (fun H locs hR hS _ _ => ?_)
      obtain ⟨S1, eS1⟩ : ∃ y, y = rtS N f (S 24 f) L 0 S := ⟨_, rfl⟩
      rw [← eS1] at hR
      simp only [Option.toList, List.cons_append, List.nil_append]
      refine lv_if_eq (tgt := 38) C.1 C.2.1 dX3_passTick_27 (by decide) (fun c27 => ?_) (fun c27 => ?_)
      · skip
        refine lv_aload_n C.1 C.2.1 dX3_passTick_38 rfl (lv_at hl 0 rfl) ?_
        refine lv_aload_n C.1 C.2.1 dX3_passTick_39 rfl (lv_at hl 1 rfl) ?_
        refine cxV (b := b) (As := [.ref (aRg b f)]) (rest := []) (ci := 3) (q := (RX3, TX3, 6)) C (k_X3_claim l g b N S1 Fl hN f p z (by omega) (by omega) (by omega) (by rw [eS1, rtS_o (by decide) (by decide) (by decide), h20]) (by rw [eS1, rtS_o (by decide) (by decide) (by decide), h25]) (by rw [show S1 28 f = S 28 f from by rw [eS1, rtS_o (by decide) (by decide) (by decide)], eS1, rtS_o (by decide) (by decide) (by decide), h41]) L (by omega) (by rw [eS1, rtS_o (by decide) (by decide) (by decide), h21])) cf_X3_claim ml_X3_198 ⟨by decide, by decide⟩ ⟨rfl, rfl⟩ rfl (hR.1) rfl hl.1 rfl (Nat.le_of_ble_eq_true rfl) dX3_passTick_40 hR ⟨Nat.zero_le _, Nat.zero_le _⟩ hS (fun _ h => h) (fun H locs hR hS _ _ => ?_)
        obtain ⟨S2, eS2⟩ : ∃ y, y = s_X3_claim S1 N f p z L := ⟨_, rfl⟩
        rw [← eS2] at hR
        simp only [Option.toList, List.nil_append]
        have hs : s_X3_passTick S N f p L z t = S2 := (if_pos c4).trans ((if_neg c19).trans ((if_pos c27).trans (by rw [eS2, eS1])))
        rw [hs]
        have hf : f_X3_passTick S Fl N f p L z t = Fl := (if_pos c4).trans ((if_neg c19).trans ((if_pos c27).trans (rfl)))
        rw [hf]
        exact endv C hr hlk hR hS dX3_passTick_43
      · skip
        refine lv_aload_n C.1 C.2.1 dX3_passTick_30 rfl (lv_at hl 0 rfl) ?_
        refine lv_aload_n C.1 C.2.1 dX3_passTick_31 rfl (lv_at hl 1 rfl) ?_
        refine cxV (b := b) (As := [.ref (aRg b f)]) (rest := []) (ci := 3) (q := (RX3, TX3, 6)) C (k_X3_passToken l g b N S1 Fl hN f p L (by omega) (by omega) (by omega) (by omega) (by rw [eS1, rtS_o (by decide) (by decide) (by decide), h20]) (by rw [eS1, rtS_o (by decide) (by decide) (by decide), h25]) (by rw [eS1, rtS_o (by decide) (by decide) (by decide), h21]) z t hz ht (by rw [show S1 28 f = S 28 f from by rw [eS1, rtS_o (by decide) (by decide) (by decide)], eS1, rtS_o (by decide) (by decide) (by decide), h41]) (by rw [show S1 28 f = S 28 f from by rw [eS1, rtS_o (by decide) (by decide) (by decide)], eS1, rtS_o (by decide) (by decide) (by decide), h42]) hF) cf_X3_passToken ml_X3_195 ⟨by decide, by decide⟩ ⟨rfl, rfl⟩ rfl (hR.1) rfl hl.1 rfl (Nat.le_of_ble_eq_true rfl) dX3_passTick_32 hR ⟨Nat.zero_le _, Nat.zero_le _⟩ hS (fun _ h => h) (fun H locs hR hS _ _ => ?_)
        obtain ⟨S3, eS3⟩ : ∃ y, y = s_X3_passToken S1 N f p L z t := ⟨_, rfl⟩
        rw [← eS3] at hR
        obtain ⟨F4, eF4⟩ : ∃ y, y = f_X3_passToken S1 Fl N f p L z t := ⟨_, rfl⟩
        rw [← eF4] at hR
        simp only [Option.toList, List.nil_append]
        refine lv_goto (tgt := 43) C.1 C.2.1 dX3_passTick_35 (by decide) ?_
        have hs : s_X3_passTick S N f p L z t = S3 := (if_pos c4).trans ((if_neg c19).trans ((if_neg c27).trans (by rw [eS3, eS1])))
        rw [hs]
        have hf : f_X3_passTick S Fl N f p L z t = F4 := (if_pos c4).trans ((if_neg c19).trans ((if_neg c27).trans (by rw [eF4]; try simp only [eS3, eS1, true_and])))
        rw [hf]
        exact endv C hr hlk hR hS dX3_passTick_43
  · skip
    refine lv_aload_n C.1 C.2.1 dX3_passTick_7 rfl (lv_at hl 0 rfl) ?_
    refine lv_aload_n C.1 C.2.1 dX3_passTick_8 rfl (lv_at hl 1 rfl) ?_
    refine cxV (b := b) (As := [.ref (aRg b f)]) (rest := []) (ci := 3) (q := (RX3, TX3, 6)) C (k_X3_passClaim l g b N S Fl hN f p L (by omega) (by omega) (by omega) (hcl c4) (by rw [h20]) (by rw [h25]) (by rw [h21])) cf_X3_passClaim ml_X3_188 ⟨by decide, by decide⟩ ⟨rfl, rfl⟩ rfl (hR.1) rfl hl.1 rfl (Nat.le_of_ble_eq_true rfl) dX3_passTick_9 hR ⟨Nat.zero_le _, Nat.zero_le _⟩ hS (fun _ h => h) (fun H locs hR hS _ _ => ?_)
    obtain ⟨S5, eS5⟩ : ∃ y, y = s_X3_passClaim S N f p L := ⟨_, rfl⟩
    rw [← eS5] at hR
    simp only [Option.toList, List.nil_append]
    refine lv_goto (tgt := 43) C.1 C.2.1 dX3_passTick_12 (by decide) ?_
    have hs : s_X3_passTick S N f p L z t = S5 := (if_neg c4).trans (by rw [eS5])
    rw [hs]
    have hf : f_X3_passTick S Fl N f p L z t = Fl := (if_neg c4).trans (rfl)
    rw [hf]
    exact endv C hr hlk hR hS dX3_passTick_43
end
section
def bad (N : Nat) (x : Int32) : Prop := ∀ j, j < N → ¬ x = nI j
theorem st_or {N : Nat} (hN : N ≤ 6) (x : Int32) : bad N x ∨ ∃ j, j < N ∧ x = nI j := by
  by_cases h : ∃ j, j < N ∧ x = nI j
  · exact Or.inr h
  · exact Or.inl (fun j hj e => h ⟨j, hj, e⟩)
theorem ist_ok {N : Nat} {S : SX} (hN : N ≤ 6) {j : Nat} (hj : j < N) : r_X3_isStation S N (nI j) = nI 1 := by
  unfold r_X3_isStation
  rw [if_neg (nI_pos (by omega)), if_neg (nI_ge hj (by omega))]
theorem ist_bad {N : Nat} {S : SX} (hN : N ≤ 6) {x : Int32} (h : bad N x) : r_X3_isStation S N x = nI 0 := by
  unfold r_X3_isStation
  rcases pk_ix x (n := N) (by omega) with h1 | h1 | ⟨j, h1, h2⟩
  · rw [if_pos h1]
  · split
    · rfl
    · rfl
  · exact absurd h2 (h j h1)
theorem kis_ok (l : Launch) (g : GX) (b N : Nat) (S : SX) (Fl : FX) (hN : N ≤ 6) (j : Nat) (hj : j < N) : MR l yX3_isStation (.code yX3_isStation cX3_isStation 2 (some .boolean) :: tb) (rmk 0 0) g (RepX g b N S Fl) (RepX g b N S Fl) (AX b N) [.ref b, .int (nI j)] (some (.int (nI 1))) := by
  have h := k_X3_isStation l g b N S Fl hN (nI j)
  rw [ist_ok hN hj] at h
  exact h
theorem kis_bad (l : Launch) (g : GX) (b N : Nat) (S : SX) (Fl : FX) (hN : N ≤ 6) (x : Int32) (hb : bad N x) : MR l yX3_isStation (.code yX3_isStation cX3_isStation 2 (some .boolean) :: tb) (rmk 0 0) g (RepX g b N S Fl) (RepX g b N S Fl) (AX b N) [.ref b, .int x] (some (.int (nI 0))) := by
  have h := k_X3_isStation l g b N S Fl hN x
  rw [ist_bad hN hb] at h
  exact h

def s_X0_addLast (S : SX) (q z : Nat) (t n pr : Int32) : SX := if z < 5 then (up2 (up2 (up2 (up2 S 42 (5 * q + z) t) 43 (5 * q + z) n) 44 (5 * q + z) pr) 41 q (nI (z + 1))) else S
def r_X0_addLast (S : SX) (q z : Nat) (t n pr : Int32) : Int32 := if z < 5 then (nI 1) else (nI 0)
set_option maxHeartbeats 4000000 in
set_option maxRecDepth 100000 in
theorem k_X0_addLast (l : Launch) (g : GX) (b N : Nat) (S : SX) (Fl : FX) (hN : N ≤ 6) (q z : Nat) (hq : q < 2 * N) (hz : z ≤ 5) (h41 : S 41 q = nI z) (t n pr : Int32)  : MR l yX0_addLast (.code yX0_addLast cX0_addLast 4 (some .boolean) :: tb) (rmk 0 0) g (RepX g b N S Fl) (RepX g b N (s_X0_addLast S q z t n pr) Fl) (AX b N) [.ref (aQ b q), .int t, .int n, .int pr] (some (.int (r_X0_addLast S q z t n pr))) := by
  refine MR.start RX0 (by decide) rfl (Nat.le_of_ble_eq_true rfl) (fun zp ze zs zm zb zt zc ls C hr hlk hR hS hl => ?_)
  have hl : lv_has ls 4 [(0, .ref (aQ b q)), (1, .int t), (2, .int n), (3, .int pr)] := hl
  refine lv_aload_n C.1 C.2.1 dX0_addLast_0 rfl (lv_at hl 0 rfl) ?_
  refine xQ_get (q := q) C hR (by omega) 3 (by decide) rfl fl_X0_21 (v := .int (S 41 q)) rfl dX0_addLast_1 ?_
  refine lv_re (y := nI z) (by rw [h41]) ?_
  refine lv_iconst (v := nI 5) C.1 C.2.1 dX0_addLast_4 (by decide) ?_
  refine lv_icmp_lt (tgt := 10) C.1 C.2.1 dX0_addLast_5 (by decide) (fun c5 => ?_) (fun c5 => ?_)
  · skip
    have c5 : z < 5 := (nI_ltI (a := z) (b := 5) (by omega) (by omega)).mp c5
    refine lv_aload_n C.1 C.2.1 dX0_addLast_10 rfl (lv_at hl 0 rfl) ?_
    refine xQ_get (q := q) C hR (by omega) 0 (by decide) rfl fl_X0_9 (v := .ref (aQA b q 0)) rfl dX0_addLast_11 ?_
    refine lv_aload_n C.1 C.2.1 dX0_addLast_14 rfl (lv_at hl 0 rfl) ?_
    refine xQ_get (q := q) C hR (by omega) 3 (by decide) rfl fl_X0_21 (v := .int (S 41 q)) rfl dX0_addLast_15 ?_
    refine lv_re (y := nI z) (by rw [h41]) ?_
    refine lv_iload_n C.1 C.2.1 dX0_addLast_18 rfl (lv_at hl 1 rfl) ?_
    refine xA_st (q := q) (i := 0) (k := z) C hR hS (by omega) (by decide) (by omega) dX0_addLast_19 (fun S1 H locs eS1 hR hS => ?_)
    refine lv_aload_n C.1 C.2.1 dX0_addLast_20 rfl (lv_at hl 0 rfl) ?_
    refine xQ_get (q := q) C hR (by omega) 1 (by decide) rfl fl_X0_15 (v := .ref (aQA b q 1)) rfl dX0_addLast_21 ?_
    refine lv_aload_n C.1 C.2.1 dX0_addLast_24 rfl (lv_at hl 0 rfl) ?_
    refine xQ_get (q := q) C hR (by omega) 3 (by decide) rfl fl_X0_21 (v := .int (S1 41 q)) rfl dX0_addLast_25 ?_
    refine lv_re (y := nI z) (by rw [eS1, up2_f (by decide), h41]) ?_
    refine lv_iload_n C.1 C.2.1 dX0_addLast_28 rfl (lv_at hl 2 rfl) ?_
    refine xA_st (q := q) (i := 1) (k := z) C hR hS (by omega) (by decide) (by omega) dX0_addLast_29 (fun S2 H locs eS2 hR hS => ?_)
    refine lv_aload_n C.1 C.2.1 dX0_addLast_30 rfl (lv_at hl 0 rfl) ?_
    refine xQ_get (q := q) C hR (by omega) 2 (by decide) rfl fl_X0_18 (v := .ref (aQA b q 2)) rfl dX0_addLast_31 ?_
    refine lv_aload_n C.1 C.2.1 dX0_addLast_34 rfl (lv_at hl 0 rfl) ?_
    refine xQ_get (q := q) C hR (by omega) 3 (by decide) rfl fl_X0_21 (v := .int (S2 41 q)) rfl dX0_addLast_35 ?_
    refine lv_re (y := nI z) (by rw [eS2, up2_f (by decide), eS1, up2_f (by decide), h41]) ?_
    refine lv_iload_n C.1 C.2.1 dX0_addLast_38 rfl (lv_at hl 3 rfl) ?_
    refine xA_st (q := q) (i := 2) (k := z) C hR hS (by omega) (by decide) (by omega) dX0_addLast_39 (fun S3 H locs eS3 hR hS => ?_)
    refine lv_aload_n C.1 C.2.1 dX0_addLast_40 rfl (lv_at hl 0 rfl) ?_
    refine lv_dup C.1 C.2.1 dX0_addLast_41 rfl ?_
    refine xQ_get (q := q) C hR (by omega) 3 (by decide) rfl fl_X0_21 (v := .int (S3 41 q)) rfl dX0_addLast_42 ?_
    refine lv_re (y := nI z) (by rw [eS3, up2_f (by decide), eS2, up2_f (by decide), eS1, up2_f (by decide), h41]) ?_
    refine lv_iconst (v := nI 1) C.1 C.2.1 dX0_addLast_45 (by decide) ?_
    refine n_iadd (z := z + 1) C dX0_addLast_46 (by omega) ?_
    refine xQ_put (q := q) C hR hS (by omega) fl_X0_21 dX0_addLast_47 (fun S4 H locs eS4 hR hS => ?_)
    refine lv_iconst (v := nI 1) C.1 C.2.1 dX0_addLast_50 (by decide) ?_
    have hs : s_X0_addLast S q z t n pr = S4 := (if_pos c5).trans (by rw [eS4, eS3, eS2, eS1])
    rw [hs]
    have hv : r_X0_addLast S q z t n pr = nI 1 := (if_pos c5).trans (rfl)
    rw [hv]
    exact endz C hr hlk (Or.inr rfl) hR hS dX0_addLast_51
  · skip
    have c5 : ¬ (z < 5) := mt (nI_ltI (a := z) (b := 5) (by omega) (by omega)).mpr c5
    refine lv_iconst (v := nI 0) C.1 C.2.1 dX0_addLast_8 (by decide) ?_
    have hs : s_X0_addLast S q z t n pr = S := (if_neg c5).trans (rfl)
    rw [hs]
    have hv : r_X0_addLast S q z t n pr = nI 0 := (if_neg c5).trans (rfl)
    rw [hv]
    exact endz C hr hlk (Or.inl rfl) hR hS dX0_addLast_9

set_option maxHeartbeats 4000000 in
set_option maxRecDepth 100000 in
theorem k_X3_bid_bad (l : Launch) (g : GX) (b N : Nat) (S : SX) (Fl : FX) (hN : N ≤ 6) (x t : Int32) (hb : bad N x)  : MR l yX3_bid (.code yX3_bid cX3_bid 3 (some .boolean) :: tb) (rmk 1 21) g (RepX g b N S Fl) (RepX g b N S Fl) (AX b N) [.ref b, .int x, .int t] (some (.int (nI 0))) := by
  refine MR.start RX3 (by decide) rfl (Nat.le_of_ble_eq_true rfl) (fun zp ze zs zm zb zt zc ls C hr hlk hR hS hl => ?_)
  have hl : lv_has ls 3 [(0, .ref b), (1, .int x), (2, .int t)] := hl
  refine lv_aload_n C.1 C.2.1 dX3_bid_0 rfl (lv_at hl 0 rfl) ?_
  refine lv_iload_n C.1 C.2.1 dX3_bid_1 rfl (lv_at hl 1 rfl) ?_
  refine cxV (b := b) (As := [.int x]) (rest := []) (ci := 3) (q := (RX3, TX3, 6)) C (kis_bad l g b N S Fl hN x hb) cf_X3_isStation ml_X3_36 ⟨by decide, by decide⟩ ⟨rfl, rfl⟩ rfl (hR.1) rfl hl.1 rfl (Nat.le_of_ble_eq_true rfl) dX3_bid_2 hR ⟨Nat.zero_le _, Nat.zero_le _⟩ hS (fun _ h => h) (fun H locs hR hS _ _ => ?_)
  simp only [Option.toList, List.cons_append, List.nil_append]
  refine lv_if_eq (tgt := 19) C.1 C.2.1 dX3_bid_5 (by decide) (fun c5 => ?_) (fun c5 => ?_)
  · skip
    refine lv_iconst (v := nI 0) C.1 C.2.1 dX3_bid_19 (by decide) ?_
    skip
    exact endz C hr hlk (Or.inl rfl) hR hS dX3_bid_20
  · skip
    exact absurd c5 (by decide)

def s_X3_bid_ok (S : SX) (j : Nat) (t : Int32) : SX := if t < nI 4 then S else (if t ≤ nI 60 then (up2 S 4 j t) else S)
def r_X3_bid_ok (S : SX) (j : Nat) (t : Int32) : Int32 := if t < nI 4 then (nI 0) else (if t ≤ nI 60 then (nI 1) else (nI 0))
set_option maxHeartbeats 4000000 in
set_option maxRecDepth 100000 in
theorem k_X3_bid_ok (l : Launch) (g : GX) (b N : Nat) (S : SX) (Fl : FX) (hN : N ≤ 6) (j : Nat) (hj : j < N) (t : Int32)  : MR l yX3_bid (.code yX3_bid cX3_bid 3 (some .boolean) :: tb) (rmk 1 21) g (RepX g b N S Fl) (RepX g b N (s_X3_bid_ok S j t) Fl) (AX b N) [.ref b, .int (nI j), .int t] (some (.int (r_X3_bid_ok S j t))) := by
  refine MR.start RX3 (by decide) rfl (Nat.le_of_ble_eq_true rfl) (fun zp ze zs zm zb zt zc ls C hr hlk hR hS hl => ?_)
  have hl : lv_has ls 3 [(0, .ref b), (1, .int (nI j)), (2, .int t)] := hl
  refine lv_aload_n C.1 C.2.1 dX3_bid_0 rfl (lv_at hl 0 rfl) ?_
  refine lv_iload_n C.1 C.2.1 dX3_bid_1 rfl (lv_at hl 1 rfl) ?_
  refine cxV (b := b) (As := [.int (nI j)]) (rest := []) (ci := 3) (q := (RX3, TX3, 6)) C (kis_ok l g b N S Fl hN j (by omega)) cf_X3_isStation ml_X3_36 ⟨by decide, by decide⟩ ⟨rfl, rfl⟩ rfl (hR.1) rfl hl.1 rfl (Nat.le_of_ble_eq_true rfl) dX3_bid_2 hR ⟨Nat.zero_le _, Nat.zero_le _⟩ hS (fun _ h => h) (fun H locs hR hS _ _ => ?_)
  simp only [Option.toList, List.cons_append, List.nil_append]
  refine lv_if_eq (tgt := 19) C.1 C.2.1 dX3_bid_5 (by decide) (fun c5 => ?_) (fun c5 => ?_)
  · skip
    exact absurd c5 (by decide)
  · skip
    refine lv_iload_n C.1 C.2.1 dX3_bid_8 rfl (lv_at hl 2 rfl) ?_
    refine lv_iconst (v := nI 4) C.1 C.2.1 dX3_bid_9 (by decide) ?_
    refine lv_icmp_lt (tgt := 19) C.1 C.2.1 dX3_bid_10 (by decide) (fun c10 => ?_) (fun c10 => ?_)
    · skip
      refine lv_iconst (v := nI 0) C.1 C.2.1 dX3_bid_19 (by decide) ?_
      have hs : s_X3_bid_ok S j t = S := (if_pos c10).trans (rfl)
      rw [hs]
      have hv : r_X3_bid_ok S j t = nI 0 := (if_pos c10).trans (rfl)
      rw [hv]
      exact endz C hr hlk (Or.inl rfl) hR hS dX3_bid_20
    · skip
      refine lv_iload_n C.1 C.2.1 dX3_bid_13 rfl (lv_at hl 2 rfl) ?_
      refine lv_bipush (v := nI 60) C.1 C.2.1 dX3_bid_14 (by decide) ?_
      refine lv_icmp_le (tgt := 21) C.1 C.2.1 dX3_bid_16 (by decide) (fun c16 => ?_) (fun c16 => ?_)
      · skip
        refine lv_aload_n C.1 C.2.1 dX3_bid_21 rfl (lv_at hl 0 rfl) ?_
        refine xO_get C hR 1 (by decide) rfl fl_X3_15 (v := .ref (b + 1)) rfl dX3_bid_22 ?_
        refine lv_iload_n C.1 C.2.1 dX3_bid_25 rfl (lv_at hl 1 rfl) ?_
        refine xS_ald (j := j) C hR (by omega) hN dX3_bid_26 ?_
        refine lv_iload_n C.1 C.2.1 dX3_bid_27 rfl (lv_at hl 2 rfl) ?_
        refine xS_put (j := j) C hR hS (by omega) 4 (by decide) rfl rfl fl_X3_40 rfl rfl stS_4 dX3_bid_28 (fun S1 H locs eS1 hR hS => ?_)
        refine lv_iconst (v := nI 1) C.1 C.2.1 dX3_bid_31 (by decide) ?_
        have hs : s_X3_bid_ok S j t = S1 := (if_neg c10).trans ((if_pos c16).trans (by rw [eS1]))
        rw [hs]
        have hv : r_X3_bid_ok S j t = nI 1 := (if_neg c10).trans ((if_pos c16).trans (rfl))
        rw [hv]
        exact endz C hr hlk (Or.inr rfl) hR hS dX3_bid_32
      · skip
        refine lv_iconst (v := nI 0) C.1 C.2.1 dX3_bid_19 (by decide) ?_
        have hs : s_X3_bid_ok S j t = S := (if_neg c10).trans ((if_neg c16).trans (rfl))
        rw [hs]
        have hv : r_X3_bid_ok S j t = nI 0 := (if_neg c10).trans ((if_neg c16).trans (rfl))
        rw [hv]
        exact endz C hr hlk (Or.inl rfl) hR hS dX3_bid_20

set_option maxHeartbeats 4000000 in
set_option maxRecDepth 100000 in
theorem k_X3_allot_bad (l : Launch) (g : GX) (b N : Nat) (S : SX) (Fl : FX) (hN : N ≤ 6) (x t : Int32) (hb : bad N x)  : MR l yX3_allot (.code yX3_allot cX3_allot 3 (some .boolean) :: tb) (rmk 1 21) g (RepX g b N S Fl) (RepX g b N S Fl) (AX b N) [.ref b, .int x, .int t] (some (.int (nI 0))) := by
  refine MR.start RX3 (by decide) rfl (Nat.le_of_ble_eq_true rfl) (fun zp ze zs zm zb zt zc ls C hr hlk hR hS hl => ?_)
  have hl : lv_has ls 3 [(0, .ref b), (1, .int x), (2, .int t)] := hl
  refine lv_aload_n C.1 C.2.1 dX3_allot_0 rfl (lv_at hl 0 rfl) ?_
  refine lv_iload_n C.1 C.2.1 dX3_allot_1 rfl (lv_at hl 1 rfl) ?_
  refine cxV (b := b) (As := [.int x]) (rest := []) (ci := 3) (q := (RX3, TX3, 6)) C (kis_bad l g b N S Fl hN x hb) cf_X3_isStation ml_X3_36 ⟨by decide, by decide⟩ ⟨rfl, rfl⟩ rfl (hR.1) rfl hl.1 rfl (Nat.le_of_ble_eq_true rfl) dX3_allot_2 hR ⟨Nat.zero_le _, Nat.zero_le _⟩ hS (fun _ h => h) (fun H locs hR hS _ _ => ?_)
  simp only [Option.toList, List.cons_append, List.nil_append]
  refine lv_if_eq (tgt := 18) C.1 C.2.1 dX3_allot_5 (by decide) (fun c5 => ?_) (fun c5 => ?_)
  · skip
    refine lv_iconst (v := nI 0) C.1 C.2.1 dX3_allot_18 (by decide) ?_
    skip
    exact endz C hr hlk (Or.inl rfl) hR hS dX3_allot_19
  · skip
    exact absurd c5 (by decide)

def s_X3_allot_ok (S : SX) (j : Nat) (t : Int32) : SX := if t < 0 then S else (if t ≤ nI 20 then (up2 S 5 j t) else S)
def r_X3_allot_ok (S : SX) (j : Nat) (t : Int32) : Int32 := if t < 0 then (nI 0) else (if t ≤ nI 20 then (nI 1) else (nI 0))
set_option maxHeartbeats 4000000 in
set_option maxRecDepth 100000 in
theorem k_X3_allot_ok (l : Launch) (g : GX) (b N : Nat) (S : SX) (Fl : FX) (hN : N ≤ 6) (j : Nat) (hj : j < N) (t : Int32)  : MR l yX3_allot (.code yX3_allot cX3_allot 3 (some .boolean) :: tb) (rmk 1 21) g (RepX g b N S Fl) (RepX g b N (s_X3_allot_ok S j t) Fl) (AX b N) [.ref b, .int (nI j), .int t] (some (.int (r_X3_allot_ok S j t))) := by
  refine MR.start RX3 (by decide) rfl (Nat.le_of_ble_eq_true rfl) (fun zp ze zs zm zb zt zc ls C hr hlk hR hS hl => ?_)
  have hl : lv_has ls 3 [(0, .ref b), (1, .int (nI j)), (2, .int t)] := hl
  refine lv_aload_n C.1 C.2.1 dX3_allot_0 rfl (lv_at hl 0 rfl) ?_
  refine lv_iload_n C.1 C.2.1 dX3_allot_1 rfl (lv_at hl 1 rfl) ?_
  refine cxV (b := b) (As := [.int (nI j)]) (rest := []) (ci := 3) (q := (RX3, TX3, 6)) C (kis_ok l g b N S Fl hN j (by omega)) cf_X3_isStation ml_X3_36 ⟨by decide, by decide⟩ ⟨rfl, rfl⟩ rfl (hR.1) rfl hl.1 rfl (Nat.le_of_ble_eq_true rfl) dX3_allot_2 hR ⟨Nat.zero_le _, Nat.zero_le _⟩ hS (fun _ h => h) (fun H locs hR hS _ _ => ?_)
  simp only [Option.toList, List.cons_append, List.nil_append]
  refine lv_if_eq (tgt := 18) C.1 C.2.1 dX3_allot_5 (by decide) (fun c5 => ?_) (fun c5 => ?_)
  · skip
    exact absurd c5 (by decide)
  · skip
    refine lv_iload_n C.1 C.2.1 dX3_allot_8 rfl (lv_at hl 2 rfl) ?_
    refine lv_if_lt (tgt := 18) C.1 C.2.1 dX3_allot_9 (by decide) (fun c9 => ?_) (fun c9 => ?_)
    · skip
      refine lv_iconst (v := nI 0) C.1 C.2.1 dX3_allot_18 (by decide) ?_
      have hs : s_X3_allot_ok S j t = S := (if_pos c9).trans (rfl)
      rw [hs]
      have hv : r_X3_allot_ok S j t = nI 0 := (if_pos c9).trans (rfl)
      rw [hv]
      exact endz C hr hlk (Or.inl rfl) hR hS dX3_allot_19
    · skip
      refine lv_iload_n C.1 C.2.1 dX3_allot_12 rfl (lv_at hl 2 rfl) ?_
      refine lv_bipush (v := nI 20) C.1 C.2.1 dX3_allot_13 (by decide) ?_
      refine lv_icmp_le (tgt := 20) C.1 C.2.1 dX3_allot_15 (by decide) (fun c15 => ?_) (fun c15 => ?_)
      · skip
        refine lv_aload_n C.1 C.2.1 dX3_allot_20 rfl (lv_at hl 0 rfl) ?_
        refine xO_get C hR 1 (by decide) rfl fl_X3_15 (v := .ref (b + 1)) rfl dX3_allot_21 ?_
        refine lv_iload_n C.1 C.2.1 dX3_allot_24 rfl (lv_at hl 1 rfl) ?_
        refine xS_ald (j := j) C hR (by omega) hN dX3_allot_25 ?_
        refine lv_iload_n C.1 C.2.1 dX3_allot_26 rfl (lv_at hl 2 rfl) ?_
        refine xS_put (j := j) C hR hS (by omega) 5 (by decide) rfl rfl fl_X3_43 rfl rfl stS_5 dX3_allot_27 (fun S1 H locs eS1 hR hS => ?_)
        refine lv_iconst (v := nI 1) C.1 C.2.1 dX3_allot_30 (by decide) ?_
        have hs : s_X3_allot_ok S j t = S1 := (if_neg c9).trans ((if_pos c15).trans (by rw [eS1]))
        rw [hs]
        have hv : r_X3_allot_ok S j t = nI 1 := (if_neg c9).trans ((if_pos c15).trans (rfl))
        rw [hv]
        exact endz C hr hlk (Or.inr rfl) hR hS dX3_allot_31
      · skip
        refine lv_iconst (v := nI 0) C.1 C.2.1 dX3_allot_18 (by decide) ?_
        have hs : s_X3_allot_ok S j t = S := (if_neg c9).trans ((if_neg c15).trans (rfl))
        rw [hs]
        have hv : r_X3_allot_ok S j t = nI 0 := (if_neg c9).trans ((if_neg c15).trans (rfl))
        rw [hv]
        exact endz C hr hlk (Or.inl rfl) hR hS dX3_allot_19

theorem al_01 {S : SX} {q z : Nat} {t n pr : Int32} : r_X0_addLast S q z t n pr = 0 ∨ r_X0_addLast S q z t n pr = 1 := by
  unfold r_X0_addLast
  split
  · exact Or.inr rfl
  · exact Or.inl rfl
set_option maxHeartbeats 4000000 in
set_option maxRecDepth 100000 in
theorem k_X3_send_bad (l : Launch) (g : GX) (b N : Nat) (S : SX) (Fl : FX) (hN : N ≤ 6) (x y n pr : Int32) (hb : bad N x)  : MR l yX3_send (.code yX3_send cX3_send 5 (some .boolean) :: tb) (rmk 1 23) g (RepX g b N S Fl) (RepX g b N S Fl) (AX b N) [.ref b, .int x, .int y, .int n, .int pr] (some (.int (nI 0))) := by
  refine MR.start RX3 (by decide) rfl (Nat.le_of_ble_eq_true rfl) (fun zp ze zs zm zb zt zc ls C hr hlk hR hS hl => ?_)
  have hl : lv_has ls 5 [(0, .ref b), (1, .int x), (2, .int y), (3, .int n), (4, .int pr)] := hl
  refine lv_aload_n C.1 C.2.1 dX3_send_0 rfl (lv_at hl 0 rfl) ?_
  refine lv_iload_n C.1 C.2.1 dX3_send_1 rfl (lv_at hl 1 rfl) ?_
  refine cxV (b := b) (As := [.int x]) (rest := []) (ci := 3) (q := (RX3, TX3, 6)) C (kis_bad l g b N S Fl hN x hb) cf_X3_isStation ml_X3_36 ⟨by decide, by decide⟩ ⟨rfl, rfl⟩ rfl (hR.1) rfl hl.1 rfl (Nat.le_of_ble_eq_true rfl) dX3_send_2 hR ⟨Nat.zero_le _, Nat.zero_le _⟩ hS (fun _ h => h) (fun H locs hR hS _ _ => ?_)
  simp only [Option.toList, List.cons_append, List.nil_append]
  refine lv_if_eq (tgt := 21) C.1 C.2.1 dX3_send_5 (by decide) (fun c5 => ?_) (fun c5 => ?_)
  · skip
    refine lv_iconst (v := nI 0) C.1 C.2.1 dX3_send_21 (by decide) ?_
    skip
    exact endz C hr hlk (Or.inl rfl) hR hS dX3_send_22
  · skip
    exact absurd c5 (by decide)

set_option maxHeartbeats 4000000 in
set_option maxRecDepth 100000 in
theorem k_X3_send_bad2 (l : Launch) (g : GX) (b N : Nat) (S : SX) (Fl : FX) (hN : N ≤ 6) (j : Nat) (hj : j < N) (y n pr : Int32) (hb : bad N y)  : MR l yX3_send (.code yX3_send cX3_send 5 (some .boolean) :: tb) (rmk 1 23) g (RepX g b N S Fl) (RepX g b N S Fl) (AX b N) [.ref b, .int (nI j), .int y, .int n, .int pr] (some (.int (nI 0))) := by
  refine MR.start RX3 (by decide) rfl (Nat.le_of_ble_eq_true rfl) (fun zp ze zs zm zb zt zc ls C hr hlk hR hS hl => ?_)
  have hl : lv_has ls 5 [(0, .ref b), (1, .int (nI j)), (2, .int y), (3, .int n), (4, .int pr)] := hl
  refine lv_aload_n C.1 C.2.1 dX3_send_0 rfl (lv_at hl 0 rfl) ?_
  refine lv_iload_n C.1 C.2.1 dX3_send_1 rfl (lv_at hl 1 rfl) ?_
  refine cxV (b := b) (As := [.int (nI j)]) (rest := []) (ci := 3) (q := (RX3, TX3, 6)) C (kis_ok l g b N S Fl hN j (by omega)) cf_X3_isStation ml_X3_36 ⟨by decide, by decide⟩ ⟨rfl, rfl⟩ rfl (hR.1) rfl hl.1 rfl (Nat.le_of_ble_eq_true rfl) dX3_send_2 hR ⟨Nat.zero_le _, Nat.zero_le _⟩ hS (fun _ h => h) (fun H locs hR hS _ _ => ?_)
  simp only [Option.toList, List.cons_append, List.nil_append]
  refine lv_if_eq (tgt := 21) C.1 C.2.1 dX3_send_5 (by decide) (fun c5 => ?_) (fun c5 => ?_)
  · skip
    exact absurd c5 (by decide)
  · skip
    refine lv_aload_n C.1 C.2.1 dX3_send_8 rfl (lv_at hl 0 rfl) ?_
    refine lv_iload_n C.1 C.2.1 dX3_send_9 rfl (lv_at hl 2 rfl) ?_
    refine cxV (b := b) (As := [.int y]) (rest := []) (ci := 3) (q := (RX3, TX3, 6)) C (kis_bad l g b N S Fl hN y hb) cf_X3_isStation ml_X3_36 ⟨by decide, by decide⟩ ⟨rfl, rfl⟩ rfl (hR.1) rfl hl.1 rfl (Nat.le_of_ble_eq_true rfl) dX3_send_10 hR ⟨Nat.zero_le _, Nat.zero_le _⟩ hS (fun _ h => h) (fun H locs hR hS _ _ => ?_)
    simp only [Option.toList, List.cons_append, List.nil_append]
    refine lv_if_eq (tgt := 21) C.1 C.2.1 dX3_send_13 (by decide) (fun c13 => ?_) (fun c13 => ?_)
    · skip
      refine lv_iconst (v := nI 0) C.1 C.2.1 dX3_send_21 (by decide) ?_
      skip
      exact endz C hr hlk (Or.inl rfl) hR hS dX3_send_22
    · skip
      exact absurd c13 (by decide)

def s_X3_send_ok (S : SX) (j t : Nat) (n pr : Int32) (z0 z1 : Nat) : SX := if j = t then S else (if n < nI 1 then S else (if nI 10 < n then S else (if pr < 0 then S else (if pr ≤ nI 3 then (if pr = nI 3 then (s_X0_addLast S (qof j (nI 1)) z1 (nI t) n pr) else (s_X0_addLast S (qof j (nI 0)) z0 (nI t) n pr)) else S))))
def r_X3_send_ok (S : SX) (j t : Nat) (n pr : Int32) (z0 z1 : Nat) : Int32 := if j = t then (nI 0) else (if n < nI 1 then (nI 0) else (if nI 10 < n then (nI 0) else (if pr < 0 then (nI 0) else (if pr ≤ nI 3 then (if pr = nI 3 then (r_X0_addLast S (qof j (nI 1)) z1 (nI t) n pr) else (r_X0_addLast S (qof j (nI 0)) z0 (nI t) n pr)) else (nI 0)))))
set_option maxHeartbeats 4000000 in
set_option maxRecDepth 100000 in
theorem k_X3_send_ok (l : Launch) (g : GX) (b N : Nat) (S : SX) (Fl : FX) (hN : N ≤ 6) (j : Nat) (hj : j < N) (t : Nat) (ht : t < N) (n pr : Int32) (z0 z1 : Nat) (hz0 : z0 ≤ 5) (hz1 : z1 ≤ 5) (h41a : S 41 (qof j (nI 1)) = nI z1) (h41b : S 41 (qof j (nI 0)) = nI z0)  : MR l yX3_send (.code yX3_send cX3_send 5 (some .boolean) :: tb) (rmk 1 23) g (RepX g b N S Fl) (RepX g b N (s_X3_send_ok S j t n pr z0 z1) Fl) (AX b N) [.ref b, .int (nI j), .int (nI t), .int n, .int pr] (some (.int (r_X3_send_ok S j t n pr z0 z1))) := by
  refine MR.start RX3 (by decide) rfl (Nat.le_of_ble_eq_true rfl) (fun zp ze zs zm zb zt zc ls C hr hlk hR hS hl => ?_)
  have hl : lv_has ls 5 [(0, .ref b), (1, .int (nI j)), (2, .int (nI t)), (3, .int n), (4, .int pr)] := hl
  refine lv_aload_n C.1 C.2.1 dX3_send_0 rfl (lv_at hl 0 rfl) ?_
  refine lv_iload_n C.1 C.2.1 dX3_send_1 rfl (lv_at hl 1 rfl) ?_
  refine cxV (b := b) (As := [.int (nI j)]) (rest := []) (ci := 3) (q := (RX3, TX3, 6)) C (kis_ok l g b N S Fl hN j (by omega)) cf_X3_isStation ml_X3_36 ⟨by decide, by decide⟩ ⟨rfl, rfl⟩ rfl (hR.1) rfl hl.1 rfl (Nat.le_of_ble_eq_true rfl) dX3_send_2 hR ⟨Nat.zero_le _, Nat.zero_le _⟩ hS (fun _ h => h) (fun H locs hR hS _ _ => ?_)
  simp only [Option.toList, List.cons_append, List.nil_append]
  refine lv_if_eq (tgt := 21) C.1 C.2.1 dX3_send_5 (by decide) (fun c5 => ?_) (fun c5 => ?_)
  · skip
    exact absurd c5 (by decide)
  · skip
    refine lv_aload_n C.1 C.2.1 dX3_send_8 rfl (lv_at hl 0 rfl) ?_
    refine lv_iload_n C.1 C.2.1 dX3_send_9 rfl (lv_at hl 2 rfl) ?_
    refine cxV (b := b) (As := [.int (nI t)]) (rest := []) (ci := 3) (q := (RX3, TX3, 6)) C (kis_ok l g b N S Fl hN t (by omega)) cf_X3_isStation ml_X3_36 ⟨by decide, by decide⟩ ⟨rfl, rfl⟩ rfl (hR.1) rfl hl.1 rfl (Nat.le_of_ble_eq_true rfl) dX3_send_10 hR ⟨Nat.zero_le _, Nat.zero_le _⟩ hS (fun _ h => h) (fun H locs hR hS _ _ => ?_)
    simp only [Option.toList, List.cons_append, List.nil_append]
    refine lv_if_eq (tgt := 21) C.1 C.2.1 dX3_send_13 (by decide) (fun c13 => ?_) (fun c13 => ?_)
    · skip
      exact absurd c13 (by decide)
    · skip
      refine lv_iload_n C.1 C.2.1 dX3_send_16 rfl (lv_at hl 1 rfl) ?_
      refine lv_iload_n C.1 C.2.1 dX3_send_17 rfl (lv_at hl 2 rfl) ?_
      refine lv_icmp_ne (tgt := 23) C.1 C.2.1 dX3_send_18 (by decide) (fun c18 => ?_) (fun c18 => ?_)
      · skip
        have c18 : ¬ (j = t) := mt (nI_eq (a := j) (b := t) (by omega) (by omega)).mpr c18
        refine lv_iload_n C.1 C.2.1 dX3_send_23 rfl (lv_at hl 3 rfl) ?_
        refine lv_iconst (v := nI 1) C.1 C.2.1 dX3_send_24 (by decide) ?_
        refine lv_icmp_lt (tgt := 45) C.1 C.2.1 dX3_send_25 (by decide) (fun c25 => ?_) (fun c25 => ?_)
        · skip
          refine lv_iconst (v := nI 0) C.1 C.2.1 dX3_send_45 (by decide) ?_
          have hs : s_X3_send_ok S j t n pr z0 z1 = S := (if_neg c18).trans ((if_pos c25).trans (rfl))
          rw [hs]
          have hv : r_X3_send_ok S j t n pr z0 z1 = nI 0 := (if_neg c18).trans ((if_pos c25).trans (rfl))
          rw [hv]
          exact endz C hr hlk (Or.inl rfl) hR hS dX3_send_46
        · skip
          refine lv_iload_n C.1 C.2.1 dX3_send_28 rfl (lv_at hl 3 rfl) ?_
          refine lv_bipush (v := nI 10) C.1 C.2.1 dX3_send_29 (by decide) ?_
          refine lv_icmp_gt (tgt := 45) C.1 C.2.1 dX3_send_31 (by decide) (fun c31 => ?_) (fun c31 => ?_)
          · skip
            refine lv_iconst (v := nI 0) C.1 C.2.1 dX3_send_45 (by decide) ?_
            have hs : s_X3_send_ok S j t n pr z0 z1 = S := (if_neg c18).trans ((if_neg c25).trans ((if_pos c31).trans (rfl)))
            rw [hs]
            have hv : r_X3_send_ok S j t n pr z0 z1 = nI 0 := (if_neg c18).trans ((if_neg c25).trans ((if_pos c31).trans (rfl)))
            rw [hv]
            exact endz C hr hlk (Or.inl rfl) hR hS dX3_send_46
          · skip
            refine lv_iload C.1 C.2.1 dX3_send_34 (lv_at hl 4 rfl) ?_
            refine lv_if_lt (tgt := 45) C.1 C.2.1 dX3_send_36 (by decide) (fun c36 => ?_) (fun c36 => ?_)
            · skip
              refine lv_iconst (v := nI 0) C.1 C.2.1 dX3_send_45 (by decide) ?_
              have hs : s_X3_send_ok S j t n pr z0 z1 = S := (if_neg c18).trans ((if_neg c25).trans ((if_neg c31).trans ((if_pos c36).trans (rfl))))
              rw [hs]
              have hv : r_X3_send_ok S j t n pr z0 z1 = nI 0 := (if_neg c18).trans ((if_neg c25).trans ((if_neg c31).trans ((if_pos c36).trans (rfl))))
              rw [hv]
              exact endz C hr hlk (Or.inl rfl) hR hS dX3_send_46
            · skip
              refine lv_iload C.1 C.2.1 dX3_send_39 (lv_at hl 4 rfl) ?_
              refine lv_iconst (v := nI 3) C.1 C.2.1 dX3_send_41 (by decide) ?_
              refine lv_icmp_le (tgt := 47) C.1 C.2.1 dX3_send_42 (by decide) (fun c42 => ?_) (fun c42 => ?_)
              · skip
                refine lv_aload_n C.1 C.2.1 dX3_send_47 rfl (lv_at hl 0 rfl) ?_
                refine xO_get C hR 1 (by decide) rfl fl_X3_15 (v := .ref (b + 1)) rfl dX3_send_48 ?_
                refine lv_iload_n C.1 C.2.1 dX3_send_51 rfl (lv_at hl 1 rfl) ?_
                refine xS_ald (j := j) C hR (by omega) hN dX3_send_52 ?_
                refine lv_iload C.1 C.2.1 dX3_send_53 (lv_at hl 4 rfl) ?_
                refine lv_iconst (v := nI 3) C.1 C.2.1 dX3_send_55 (by decide) ?_
                refine lv_icmp_ne (tgt := 63) C.1 C.2.1 dX3_send_56 (by decide) (fun c56 => ?_) (fun c56 => ?_)
                · skip
                  refine lv_iconst (v := nI 0) C.1 C.2.1 dX3_send_63 (by decide) ?_
                  refine cxV (b := aSt b j) (As := [.int (nI 0)]) (rest := []) (ci := 2) (q := (RX2, TX2, 19)) C (kq_X2_queueFor l g b N S Fl hN (j) (by omega) (nI 0)) cf_X2_queueFor ml_X3_46 ⟨by decide, by decide⟩ ⟨rfl, rfl⟩ rfl (hR.2.2.2.2.1 _ (by omega)) rfl hl.1 rfl (Nat.le_of_ble_eq_true rfl) dX3_send_64 hR ⟨Nat.zero_le _, Nat.zero_le _⟩ hS (fun _ h => h) (fun H locs hR hS _ _ => ?_)
                  simp only [Option.toList, List.cons_append, List.nil_append]
                  have hw57 := qof_lt (N := N) (j := j) (x := nI 0) (by omega)
                  refine lv_iload_n C.1 C.2.1 dX3_send_67 rfl (lv_at hl 2 rfl) ?_
                  refine lv_iload_n C.1 C.2.1 dX3_send_68 rfl (lv_at hl 3 rfl) ?_
                  refine lv_iload C.1 C.2.1 dX3_send_69 (lv_at hl 4 rfl) ?_
                  refine cxV (b := aQ b (qof j (nI 0))) (As := [.int (nI t), .int n, .int pr]) (rest := []) (ci := 0) (q := (RX0, TX0, 4)) C (k_X0_addLast l g b N S Fl hN (qof j (nI 0)) z0 (by omega) (by omega) h41b (nI t) n pr) cf_X0_addLast ml_X3_50 ⟨by decide, by decide⟩ ⟨rfl, rfl⟩ rfl (hR.2.2.2.2.2.2.1 _ (by omega)) rfl hl.1 rfl (Nat.le_of_ble_eq_true rfl) dX3_send_71 hR ⟨Nat.zero_le _, Nat.zero_le _⟩ hS (fun _ h => h) (fun H locs hR hS _ _ => ?_)
                  obtain ⟨S1, eS1⟩ : ∃ y, y = s_X0_addLast S (qof j (nI 0)) z0 (nI t) n pr := ⟨_, rfl⟩
                  rw [← eS1] at hR
                  simp only [Option.toList, List.cons_append, List.nil_append]
                  have hs : s_X3_send_ok S j t n pr z0 z1 = S1 := (if_neg c18).trans ((if_neg c25).trans ((if_neg c31).trans ((if_neg c36).trans ((if_pos c42).trans ((if_neg c56).trans (by rw [eS1]))))))
                  rw [hs]
                  have hv : r_X3_send_ok S j t n pr z0 z1 = r_X0_addLast S (qof j (nI 0)) z0 (nI t) n pr := (if_neg c18).trans ((if_neg c25).trans ((if_neg c31).trans ((if_neg c36).trans ((if_pos c42).trans ((if_neg c56).trans (rfl))))))
                  rw [hv]
                  exact endz C hr hlk (al_01) hR hS dX3_send_74
                · skip
                  refine lv_iconst (v := nI 1) C.1 C.2.1 dX3_send_59 (by decide) ?_
                  refine lv_goto (tgt := 64) C.1 C.2.1 dX3_send_60 (by decide) ?_
                  refine cxV (b := aSt b j) (As := [.int (nI 1)]) (rest := []) (ci := 2) (q := (RX2, TX2, 19)) C (kq_X2_queueFor l g b N S Fl hN (j) (by omega) (nI 1)) cf_X2_queueFor ml_X3_46 ⟨by decide, by decide⟩ ⟨rfl, rfl⟩ rfl (hR.2.2.2.2.1 _ (by omega)) rfl hl.1 rfl (Nat.le_of_ble_eq_true rfl) dX3_send_64 hR ⟨Nat.zero_le _, Nat.zero_le _⟩ hS (fun _ h => h) (fun H locs hR hS _ _ => ?_)
                  simp only [Option.toList, List.cons_append, List.nil_append]
                  have hw72 := qof_lt (N := N) (j := j) (x := nI 1) (by omega)
                  refine lv_iload_n C.1 C.2.1 dX3_send_67 rfl (lv_at hl 2 rfl) ?_
                  refine lv_iload_n C.1 C.2.1 dX3_send_68 rfl (lv_at hl 3 rfl) ?_
                  refine lv_iload C.1 C.2.1 dX3_send_69 (lv_at hl 4 rfl) ?_
                  refine cxV (b := aQ b (qof j (nI 1))) (As := [.int (nI t), .int n, .int pr]) (rest := []) (ci := 0) (q := (RX0, TX0, 4)) C (k_X0_addLast l g b N S Fl hN (qof j (nI 1)) z1 (by omega) (by omega) h41a (nI t) n pr) cf_X0_addLast ml_X3_50 ⟨by decide, by decide⟩ ⟨rfl, rfl⟩ rfl (hR.2.2.2.2.2.2.1 _ (by omega)) rfl hl.1 rfl (Nat.le_of_ble_eq_true rfl) dX3_send_71 hR ⟨Nat.zero_le _, Nat.zero_le _⟩ hS (fun _ h => h) (fun H locs hR hS _ _ => ?_)
                  obtain ⟨S2, eS2⟩ : ∃ y, y = s_X0_addLast S (qof j (nI 1)) z1 (nI t) n pr := ⟨_, rfl⟩
                  rw [← eS2] at hR
                  simp only [Option.toList, List.cons_append, List.nil_append]
                  have hs : s_X3_send_ok S j t n pr z0 z1 = S2 := (if_neg c18).trans ((if_neg c25).trans ((if_neg c31).trans ((if_neg c36).trans ((if_pos c42).trans ((if_pos c56).trans (by rw [eS2]))))))
                  rw [hs]
                  have hv : r_X3_send_ok S j t n pr z0 z1 = r_X0_addLast S (qof j (nI 1)) z1 (nI t) n pr := (if_neg c18).trans ((if_neg c25).trans ((if_neg c31).trans ((if_neg c36).trans ((if_pos c42).trans ((if_pos c56).trans (rfl))))))
                  rw [hv]
                  exact endz C hr hlk (al_01) hR hS dX3_send_74
              · skip
                refine lv_iconst (v := nI 0) C.1 C.2.1 dX3_send_45 (by decide) ?_
                have hs : s_X3_send_ok S j t n pr z0 z1 = S := (if_neg c18).trans ((if_neg c25).trans ((if_neg c31).trans ((if_neg c36).trans ((if_neg c42).trans (rfl)))))
                rw [hs]
                have hv : r_X3_send_ok S j t n pr z0 z1 = nI 0 := (if_neg c18).trans ((if_neg c25).trans ((if_neg c31).trans ((if_neg c36).trans ((if_neg c42).trans (rfl)))))
                rw [hv]
                exact endz C hr hlk (Or.inl rfl) hR hS dX3_send_46
      · skip
        have c18 : j = t := (nI_eq (a := j) (b := t) (by omega) (by omega)).mp c18
        refine lv_iconst (v := nI 0) C.1 C.2.1 dX3_send_21 (by decide) ?_
        have hs : s_X3_send_ok S j t n pr z0 z1 = S := (if_pos c18).trans (rfl)
        rw [hs]
        have hv : r_X3_send_ok S j t n pr z0 z1 = nI 0 := (if_pos c18).trans (rfl)
        rw [hv]
        exact endz C hr hlk (Or.inl rfl) hR hS dX3_send_22

set_option maxHeartbeats 4000000 in
set_option maxRecDepth 100000 in
theorem k_X3_ring_bad (l : Launch) (g : GX) (b N : Nat) (S : SX) (Fl : FX) (hN : N ≤ 6) (x : Int32) (hb : bad N x)  : MR l yX3_ring (.code yX3_ring cX3_ring 2 (some .int) :: tb) (rmk 1 21) g (RepX g b N S Fl) (RepX g b N S Fl) (AX b N) [.ref b, .int x] (some (.int ((-1)))) := by
  refine MR.start RX3 (by decide) rfl (Nat.le_of_ble_eq_true rfl) (fun zp ze zs zm zb zt zc ls C hr hlk hR hS hl => ?_)
  have hl : lv_has ls 2 [(0, .ref b), (1, .int x)] := hl
  refine lv_aload_n C.1 C.2.1 dX3_ring_0 rfl (lv_at hl 0 rfl) ?_
  refine lv_iload_n C.1 C.2.1 dX3_ring_1 rfl (lv_at hl 1 rfl) ?_
  refine cxV (b := b) (As := [.int x]) (rest := []) (ci := 3) (q := (RX3, TX3, 6)) C (kis_bad l g b N S Fl hN x hb) cf_X3_isStation ml_X3_36 ⟨by decide, by decide⟩ ⟨rfl, rfl⟩ rfl (hR.1) rfl hl.1 rfl (Nat.le_of_ble_eq_true rfl) dX3_ring_2 hR ⟨Nat.zero_le _, Nat.zero_le _⟩ hS (fun _ h => h) (fun H locs hR hS _ _ => ?_)
  simp only [Option.toList, List.cons_append, List.nil_append]
  refine lv_if_eq (tgt := 20) C.1 C.2.1 dX3_ring_5 (by decide) (fun c5 => ?_) (fun c5 => ?_)
  · skip
    refine lv_iconst (v := (-1)) C.1 C.2.1 dX3_ring_20 (by decide) ?_
    skip
    exact endi C hr hlk hR hS dX3_ring_21
  · skip
    exact absurd c5 (by decide)

set_option maxHeartbeats 4000000 in
set_option maxRecDepth 100000 in
theorem k_X3_ring_ok (l : Launch) (g : GX) (b N : Nat) (S : SX) (Fl : FX) (hN : N ≤ 6) (j : Nat) (hj : j < N)  : MR l yX3_ring (.code yX3_ring cX3_ring 2 (some .int) :: tb) (rmk 1 21) g (RepX g b N S Fl) (RepX g b N S Fl) (AX b N) [.ref b, .int (nI j)] (some (.int (S 3 j))) := by
  refine MR.start RX3 (by decide) rfl (Nat.le_of_ble_eq_true rfl) (fun zp ze zs zm zb zt zc ls C hr hlk hR hS hl => ?_)
  have hl : lv_has ls 2 [(0, .ref b), (1, .int (nI j))] := hl
  refine lv_aload_n C.1 C.2.1 dX3_ring_0 rfl (lv_at hl 0 rfl) ?_
  refine lv_iload_n C.1 C.2.1 dX3_ring_1 rfl (lv_at hl 1 rfl) ?_
  refine cxV (b := b) (As := [.int (nI j)]) (rest := []) (ci := 3) (q := (RX3, TX3, 6)) C (kis_ok l g b N S Fl hN j (by omega)) cf_X3_isStation ml_X3_36 ⟨by decide, by decide⟩ ⟨rfl, rfl⟩ rfl (hR.1) rfl hl.1 rfl (Nat.le_of_ble_eq_true rfl) dX3_ring_2 hR ⟨Nat.zero_le _, Nat.zero_le _⟩ hS (fun _ h => h) (fun H locs hR hS _ _ => ?_)
  simp only [Option.toList, List.cons_append, List.nil_append]
  refine lv_if_eq (tgt := 20) C.1 C.2.1 dX3_ring_5 (by decide) (fun c5 => ?_) (fun c5 => ?_)
  · skip
    exact absurd c5 (by decide)
  · skip
    refine lv_aload_n C.1 C.2.1 dX3_ring_8 rfl (lv_at hl 0 rfl) ?_
    refine xO_get C hR 1 (by decide) rfl fl_X3_15 (v := .ref (b + 1)) rfl dX3_ring_9 ?_
    refine lv_iload_n C.1 C.2.1 dX3_ring_12 rfl (lv_at hl 1 rfl) ?_
    refine xS_ald (j := j) C hR (by omega) hN dX3_ring_13 ?_
    refine xS_get (j := j) C hR (by omega) 3 (by decide) rfl fl_X3_70 (v := .int (S 3 j)) rfl dX3_ring_14 ?_
    refine lv_goto (tgt := 21) C.1 C.2.1 dX3_ring_17 (by decide) ?_
    skip
    exact endi C hr hlk hR hS dX3_ring_21

theorem nI_nm1 {n : Nat} (h : n < 100) : ¬ nI n = -1 := fun e => by
  have h1 := nI_pos (n := n) (by omega)
  rw [e] at h1
  exact h1 (by decide)
set_option maxHeartbeats 4000000 in
set_option maxRecDepth 100000 in
theorem k_X3_state_bad (l : Launch) (g : GX) (b N : Nat) (S : SX) (Fl : FX) (hN : N ≤ 6) (x : Int32) (hb : bad N x)  : MR l yX3_state (.code yX3_state cX3_state 3 (some .int) :: tb) (rmk 2 42) g (RepX g b N S Fl) (RepX g b N S Fl) (AX b N) [.ref b, .int x] (some (.int (nI 0))) := by
  refine MR.start RX3 (by decide) rfl (Nat.le_of_ble_eq_true rfl) (fun zp ze zs zm zb zt zc ls C hr hlk hR hS hl => ?_)
  have hl : lv_has ls 3 [(0, .ref b), (1, .int x)] := hl
  refine lv_aload_n C.1 C.2.1 dX3_state_0 rfl (lv_at hl 0 rfl) ?_
  refine lv_iload_n C.1 C.2.1 dX3_state_1 rfl (lv_at hl 1 rfl) ?_
  refine cxV (b := b) (As := [.int x]) (rest := []) (ci := 3) (q := (RX3, TX3, 6)) C (k_X3_ring_bad l g b N S Fl hN x hb) cf_X3_ring ml_X3_73 ⟨by decide, by decide⟩ ⟨rfl, rfl⟩ rfl (hR.1) rfl hl.1 rfl (Nat.le_of_ble_eq_true rfl) dX3_state_2 hR ⟨Nat.zero_le _, Nat.zero_le _⟩ hS (fun _ h => h) (fun H locs hR hS _ _ => ?_)
  simp only [Option.toList, List.cons_append, List.nil_append]
  refine lv_iconst (v := (-1)) C.1 C.2.1 dX3_state_5 (by decide) ?_
  refine lv_icmp_ne (tgt := 11) C.1 C.2.1 dX3_state_6 (by decide) (fun c6 => ?_) (fun c6 => ?_)
  · skip
    exact absurd c6 (by decide)
  · skip
    refine lv_iconst (v := nI 0) C.1 C.2.1 dX3_state_9 (by decide) ?_
    skip
    exact endi C hr hlk hR hS dX3_state_10

set_option maxHeartbeats 4000000 in
set_option maxRecDepth 100000 in
theorem k_X3_state_off (l : Launch) (g : GX) (b N : Nat) (S : SX) (Fl : FX) (hN : N ≤ 6) (j : Nat) (hj : j < N) (h3 : S 3 j = -1)  : MR l yX3_state (.code yX3_state cX3_state 3 (some .int) :: tb) (rmk 2 42) g (RepX g b N S Fl) (RepX g b N S Fl) (AX b N) [.ref b, .int (nI j)] (some (.int (nI 0))) := by
  refine MR.start RX3 (by decide) rfl (Nat.le_of_ble_eq_true rfl) (fun zp ze zs zm zb zt zc ls C hr hlk hR hS hl => ?_)
  have hl : lv_has ls 3 [(0, .ref b), (1, .int (nI j))] := hl
  refine lv_aload_n C.1 C.2.1 dX3_state_0 rfl (lv_at hl 0 rfl) ?_
  refine lv_iload_n C.1 C.2.1 dX3_state_1 rfl (lv_at hl 1 rfl) ?_
  refine cxV (b := b) (As := [.int (nI j)]) (rest := []) (ci := 3) (q := (RX3, TX3, 6)) C (k_X3_ring_ok l g b N S Fl hN j (by omega)) cf_X3_ring ml_X3_73 ⟨by decide, by decide⟩ ⟨rfl, rfl⟩ rfl (hR.1) rfl hl.1 rfl (Nat.le_of_ble_eq_true rfl) dX3_state_2 hR ⟨Nat.zero_le _, Nat.zero_le _⟩ hS (fun _ h => h) (fun H locs hR hS _ _ => ?_)
  simp only [Option.toList, List.cons_append, List.nil_append]
  refine lv_re (y := (-1)) h3 ?_
  refine lv_iconst (v := (-1)) C.1 C.2.1 dX3_state_5 (by decide) ?_
  refine lv_icmp_ne (tgt := 11) C.1 C.2.1 dX3_state_6 (by decide) (fun c6 => ?_) (fun c6 => ?_)
  · skip
    exact absurd c6 (by decide)
  · skip
    refine lv_iconst (v := nI 0) C.1 C.2.1 dX3_state_9 (by decide) ?_
    skip
    exact endi C hr hlk hR hS dX3_state_10

def r_X3_state_on (S : SX) (N : Nat) (j f p : Nat) : Int32 := if r_X1_claims S f = 0 then (if 0 < S 26 f then (nI 2) else (if wr N (f + p) = j then (if S 27 f ≤ 0 then (nI 3) else (nI 4)) else (nI 2))) else (nI 1)
set_option maxHeartbeats 4000000 in
set_option maxRecDepth 100000 in
theorem k_X3_state_on (l : Launch) (g : GX) (b N : Nat) (S : SX) (Fl : FX) (hN : N ≤ 6) (j : Nat) (hj : j < N) (f p : Nat) (hf : f < N) (hp : p < N) (h20 : S 20 f = nI f) (h25 : S 25 f = nI p) (h3 : S 3 j = nI f)  : MR l yX3_state (.code yX3_state cX3_state 3 (some .int) :: tb) (rmk 2 42) g (RepX g b N S Fl) (RepX g b N S Fl) (AX b N) [.ref b, .int (nI j)] (some (.int (r_X3_state_on S N j f p))) := by
  refine MR.start RX3 (by decide) rfl (Nat.le_of_ble_eq_true rfl) (fun zp ze zs zm zb zt zc ls C hr hlk hR hS hl => ?_)
  have hl : lv_has ls 3 [(0, .ref b), (1, .int (nI j))] := hl
  refine lv_aload_n C.1 C.2.1 dX3_state_0 rfl (lv_at hl 0 rfl) ?_
  refine lv_iload_n C.1 C.2.1 dX3_state_1 rfl (lv_at hl 1 rfl) ?_
  refine cxV (b := b) (As := [.int (nI j)]) (rest := []) (ci := 3) (q := (RX3, TX3, 6)) C (k_X3_ring_ok l g b N S Fl hN j (by omega)) cf_X3_ring ml_X3_73 ⟨by decide, by decide⟩ ⟨rfl, rfl⟩ rfl (hR.1) rfl hl.1 rfl (Nat.le_of_ble_eq_true rfl) dX3_state_2 hR ⟨Nat.zero_le _, Nat.zero_le _⟩ hS (fun _ h => h) (fun H locs hR hS _ _ => ?_)
  simp only [Option.toList, List.cons_append, List.nil_append]
  refine lv_re (y := nI f) h3 ?_
  refine lv_iconst (v := (-1)) C.1 C.2.1 dX3_state_5 (by decide) ?_
  refine lv_icmp_ne (tgt := 11) C.1 C.2.1 dX3_state_6 (by decide) (fun c6 => ?_) (fun c6 => ?_)
  · skip
    refine lv_aload_n C.1 C.2.1 dX3_state_11 rfl (lv_at hl 0 rfl) ?_
    refine xO_get C hR 3 (by decide) rfl fl_X3_25 (v := .ref (b + 3)) rfl dX3_state_12 ?_
    refine lv_aload_n C.1 C.2.1 dX3_state_15 rfl (lv_at hl 0 rfl) ?_
    refine lv_iload_n C.1 C.2.1 dX3_state_16 rfl (lv_at hl 1 rfl) ?_
    refine cxV (b := b) (As := [.int (nI j)]) (rest := [.ref (b + 3)]) (ci := 3) (q := (RX3, TX3, 6)) C (k_X3_ring_ok l g b N S Fl hN j (by omega)) cf_X3_ring ml_X3_73 ⟨by decide, by decide⟩ ⟨rfl, rfl⟩ rfl (hR.1) rfl hl.1 rfl (Nat.le_of_ble_eq_true rfl) dX3_state_17 hR ⟨Nat.zero_le _, Nat.zero_le _⟩ hS (fun _ h => h) (fun H locs hR hS _ _ => ?_)
    simp only [Option.toList, List.cons_append, List.nil_append]
    refine lv_re (y := nI f) h3 ?_
    refine xR_ald (j := f) C hR (by omega) hN dX3_state_20 ?_
    refine lv_astore_n (lv' := [(2, .ref (aRg b f)), (0, .ref b), (1, .int (nI j))]) C.1 C.2.1 dX3_state_21 rfl hl (by decide) rfl (fun ls hl => ?_)
    refine lv_aload_n C.1 C.2.1 dX3_state_22 rfl (lv_at hl 0 rfl) ?_
    refine cxV (b := aRg b f) (As := []) (rest := []) (ci := 1) (q := (RX1, TX1, 10)) C (k_X1_claims l g b N S Fl hN (f) (by omega)) cf_X1_claims ml_X3_77 ⟨by decide, by decide⟩ ⟨rfl, rfl⟩ rfl (hR.2.2.2.2.2.1 _ (by omega)) rfl hl.1 rfl (Nat.le_of_ble_eq_true rfl) dX3_state_23 hR ⟨Nat.zero_le _, Nat.zero_le _⟩ hS (fun _ h => h) (fun H locs hR hS _ _ => ?_)
    simp only [Option.toList, List.cons_append, List.nil_append]
    refine lv_if_eq (tgt := 31) C.1 C.2.1 dX3_state_26 (by decide) (fun c26 => ?_) (fun c26 => ?_)
    · skip
      refine lv_aload_n C.1 C.2.1 dX3_state_31 rfl (lv_at hl 0 rfl) ?_
      refine xR_get (j := f) C hR (by omega) 6 (by decide) rfl fl_X3_81 (v := .int (S 26 f)) rfl dX3_state_32 ?_
      refine lv_if_gt (tgt := 51) C.1 C.2.1 dX3_state_35 (by decide) (fun c35 => ?_) (fun c35 => ?_)
      · skip
        refine lv_iconst (v := nI 2) C.1 C.2.1 dX3_state_51 (by decide) ?_
        have hv : r_X3_state_on S N j f p = nI 2 := (if_pos c26).trans ((if_pos c35).trans (rfl))
        rw [hv]
        exact endi C hr hlk hR hS dX3_state_52
      · skip
        refine lv_aload_n C.1 C.2.1 dX3_state_38 rfl (lv_at hl 1 rfl) ?_
        refine lv_aload_n C.1 C.2.1 dX3_state_39 rfl (lv_at hl 0 rfl) ?_
        refine lv_aload_n C.1 C.2.1 dX3_state_40 rfl (lv_at hl 0 rfl) ?_
        refine xR_get (j := f) C hR (by omega) 5 (by decide) rfl fl_X3_84 (v := .int (S 25 f)) rfl dX3_state_41 ?_
        refine lv_re (y := nI p) (by rw [h25]) ?_
        refine cxV (b := b) (As := [.ref (aRg b f), .int (nI p)]) (rest := []) (ci := 3) (q := (RX3, TX3, 6)) C (kn_numberAt l g b N S Fl hN (f) (p) (by omega) (by omega) (by rw [h20])) cf_X3_numberAt ml_X3_87 ⟨by decide, by decide⟩ ⟨rfl, rfl⟩ rfl (hR.1) rfl hl.1 rfl (Nat.le_of_ble_eq_true rfl) dX3_state_44 hR ⟨Nat.zero_le _, Nat.zero_le _⟩ hS (fun _ h => h) (fun H locs hR hS _ _ => ?_)
        simp only [Option.toList, List.cons_append, List.nil_append]
        have hw35 := wr_lt (N := N) (i := f + p) (by omega)
        refine lv_iload_n C.1 C.2.1 dX3_state_47 rfl (lv_at hl 2 rfl) ?_
        refine lv_icmp_eq (tgt := 53) C.1 C.2.1 dX3_state_48 (by decide) (fun c48 => ?_) (fun c48 => ?_)
        · skip
          have c48 : wr N (f + p) = j := (nI_eq (a := wr N (f + p)) (b := j) (by omega) (by omega)).mp c48
          refine lv_aload_n C.1 C.2.1 dX3_state_53 rfl (lv_at hl 0 rfl) ?_
          refine xR_get (j := f) C hR (by omega) 7 (by decide) rfl fl_X3_91 (v := .int (S 27 f)) rfl dX3_state_54 ?_
          refine lv_if_le (tgt := 64) C.1 C.2.1 dX3_state_57 (by decide) (fun c57 => ?_) (fun c57 => ?_)
          · skip
            refine lv_iconst (v := nI 3) C.1 C.2.1 dX3_state_64 (by decide) ?_
            have hv : r_X3_state_on S N j f p = nI 3 := (if_pos c26).trans ((if_neg c35).trans ((if_pos c48).trans ((if_pos c57).trans (rfl))))
            rw [hv]
            exact endi C hr hlk hR hS dX3_state_65
          · skip
            refine lv_iconst (v := nI 4) C.1 C.2.1 dX3_state_60 (by decide) ?_
            refine lv_goto (tgt := 65) C.1 C.2.1 dX3_state_61 (by decide) ?_
            have hv : r_X3_state_on S N j f p = nI 4 := (if_pos c26).trans ((if_neg c35).trans ((if_pos c48).trans ((if_neg c57).trans (rfl))))
            rw [hv]
            exact endi C hr hlk hR hS dX3_state_65
        · skip
          have c48 : ¬ (wr N (f + p) = j) := mt (nI_eq (a := wr N (f + p)) (b := j) (by omega) (by omega)).mpr c48
          refine lv_iconst (v := nI 2) C.1 C.2.1 dX3_state_51 (by decide) ?_
          have hv : r_X3_state_on S N j f p = nI 2 := (if_pos c26).trans ((if_neg c35).trans ((if_neg c48).trans (rfl)))
          rw [hv]
          exact endi C hr hlk hR hS dX3_state_52
    · skip
      refine lv_iconst (v := nI 1) C.1 C.2.1 dX3_state_29 (by decide) ?_
      have hv : r_X3_state_on S N j f p = nI 1 := (if_neg c26).trans (rfl)
      rw [hv]
      exact endi C hr hlk hR hS dX3_state_30
  · skip
    exact absurd c6 (nI_nm1 (by omega))

set_option maxHeartbeats 4000000 in
set_option maxRecDepth 100000 in
theorem k_X3_operating_bad (l : Launch) (g : GX) (b N : Nat) (S : SX) (Fl : FX) (hN : N ≤ 6) (x : Int32) (hb : bad N x)  : MR l yX3_operating (.code yX3_operating cX3_operating 3 (some .int) :: tb) (rmk 2 42) g (RepX g b N S Fl) (RepX g b N S Fl) (AX b N) [.ref b, .int x] (some (.int (nI 0))) := by
  refine MR.start RX3 (by decide) rfl (Nat.le_of_ble_eq_true rfl) (fun zp ze zs zm zb zt zc ls C hr hlk hR hS hl => ?_)
  have hl : lv_has ls 3 [(0, .ref b), (1, .int x)] := hl
  refine lv_aload_n C.1 C.2.1 dX3_operating_0 rfl (lv_at hl 0 rfl) ?_
  refine lv_iload_n C.1 C.2.1 dX3_operating_1 rfl (lv_at hl 1 rfl) ?_
  refine cxV (b := b) (As := [.int x]) (rest := []) (ci := 3) (q := (RX3, TX3, 6)) C (k_X3_ring_bad l g b N S Fl hN x hb) cf_X3_ring ml_X3_73 ⟨by decide, by decide⟩ ⟨rfl, rfl⟩ rfl (hR.1) rfl hl.1 rfl (Nat.le_of_ble_eq_true rfl) dX3_operating_2 hR ⟨Nat.zero_le _, Nat.zero_le _⟩ hS (fun _ h => h) (fun H locs hR hS _ _ => ?_)
  simp only [Option.toList, List.cons_append, List.nil_append]
  refine lv_iconst (v := (-1)) C.1 C.2.1 dX3_operating_5 (by decide) ?_
  refine lv_icmp_ne (tgt := 11) C.1 C.2.1 dX3_operating_6 (by decide) (fun c6 => ?_) (fun c6 => ?_)
  · skip
    exact absurd c6 (by decide)
  · skip
    refine lv_iconst (v := nI 0) C.1 C.2.1 dX3_operating_9 (by decide) ?_
    skip
    exact endi C hr hlk hR hS dX3_operating_10

set_option maxHeartbeats 4000000 in
set_option maxRecDepth 100000 in
theorem k_X3_operating_off (l : Launch) (g : GX) (b N : Nat) (S : SX) (Fl : FX) (hN : N ≤ 6) (j : Nat) (hj : j < N) (h3 : S 3 j = -1)  : MR l yX3_operating (.code yX3_operating cX3_operating 3 (some .int) :: tb) (rmk 2 42) g (RepX g b N S Fl) (RepX g b N S Fl) (AX b N) [.ref b, .int (nI j)] (some (.int (nI 0))) := by
  refine MR.start RX3 (by decide) rfl (Nat.le_of_ble_eq_true rfl) (fun zp ze zs zm zb zt zc ls C hr hlk hR hS hl => ?_)
  have hl : lv_has ls 3 [(0, .ref b), (1, .int (nI j))] := hl
  refine lv_aload_n C.1 C.2.1 dX3_operating_0 rfl (lv_at hl 0 rfl) ?_
  refine lv_iload_n C.1 C.2.1 dX3_operating_1 rfl (lv_at hl 1 rfl) ?_
  refine cxV (b := b) (As := [.int (nI j)]) (rest := []) (ci := 3) (q := (RX3, TX3, 6)) C (k_X3_ring_ok l g b N S Fl hN j (by omega)) cf_X3_ring ml_X3_73 ⟨by decide, by decide⟩ ⟨rfl, rfl⟩ rfl (hR.1) rfl hl.1 rfl (Nat.le_of_ble_eq_true rfl) dX3_operating_2 hR ⟨Nat.zero_le _, Nat.zero_le _⟩ hS (fun _ h => h) (fun H locs hR hS _ _ => ?_)
  simp only [Option.toList, List.cons_append, List.nil_append]
  refine lv_re (y := (-1)) h3 ?_
  refine lv_iconst (v := (-1)) C.1 C.2.1 dX3_operating_5 (by decide) ?_
  refine lv_icmp_ne (tgt := 11) C.1 C.2.1 dX3_operating_6 (by decide) (fun c6 => ?_) (fun c6 => ?_)
  · skip
    exact absurd c6 (by decide)
  · skip
    refine lv_iconst (v := nI 0) C.1 C.2.1 dX3_operating_9 (by decide) ?_
    skip
    exact endi C hr hlk hR hS dX3_operating_10

def r_X3_operating_on (S : SX) (j f p : Nat) : Int32 := if r_X1_claims S f = 0 then (S 24 f) else (nI 0)
set_option maxHeartbeats 4000000 in
set_option maxRecDepth 100000 in
theorem k_X3_operating_on (l : Launch) (g : GX) (b N : Nat) (S : SX) (Fl : FX) (hN : N ≤ 6) (j : Nat) (hj : j < N) (f p : Nat) (hf : f < N) (hp : p < N) (h20 : S 20 f = nI f) (h25 : S 25 f = nI p) (h3 : S 3 j = nI f)  : MR l yX3_operating (.code yX3_operating cX3_operating 3 (some .int) :: tb) (rmk 2 42) g (RepX g b N S Fl) (RepX g b N S Fl) (AX b N) [.ref b, .int (nI j)] (some (.int (r_X3_operating_on S j f p))) := by
  refine MR.start RX3 (by decide) rfl (Nat.le_of_ble_eq_true rfl) (fun zp ze zs zm zb zt zc ls C hr hlk hR hS hl => ?_)
  have hl : lv_has ls 3 [(0, .ref b), (1, .int (nI j))] := hl
  refine lv_aload_n C.1 C.2.1 dX3_operating_0 rfl (lv_at hl 0 rfl) ?_
  refine lv_iload_n C.1 C.2.1 dX3_operating_1 rfl (lv_at hl 1 rfl) ?_
  refine cxV (b := b) (As := [.int (nI j)]) (rest := []) (ci := 3) (q := (RX3, TX3, 6)) C (k_X3_ring_ok l g b N S Fl hN j (by omega)) cf_X3_ring ml_X3_73 ⟨by decide, by decide⟩ ⟨rfl, rfl⟩ rfl (hR.1) rfl hl.1 rfl (Nat.le_of_ble_eq_true rfl) dX3_operating_2 hR ⟨Nat.zero_le _, Nat.zero_le _⟩ hS (fun _ h => h) (fun H locs hR hS _ _ => ?_)
  simp only [Option.toList, List.cons_append, List.nil_append]
  refine lv_re (y := nI f) h3 ?_
  refine lv_iconst (v := (-1)) C.1 C.2.1 dX3_operating_5 (by decide) ?_
  refine lv_icmp_ne (tgt := 11) C.1 C.2.1 dX3_operating_6 (by decide) (fun c6 => ?_) (fun c6 => ?_)
  · skip
    refine lv_aload_n C.1 C.2.1 dX3_operating_11 rfl (lv_at hl 0 rfl) ?_
    refine xO_get C hR 3 (by decide) rfl fl_X3_25 (v := .ref (b + 3)) rfl dX3_operating_12 ?_
    refine lv_aload_n C.1 C.2.1 dX3_operating_15 rfl (lv_at hl 0 rfl) ?_
    refine lv_iload_n C.1 C.2.1 dX3_operating_16 rfl (lv_at hl 1 rfl) ?_
    refine cxV (b := b) (As := [.int (nI j)]) (rest := [.ref (b + 3)]) (ci := 3) (q := (RX3, TX3, 6)) C (k_X3_ring_ok l g b N S Fl hN j (by omega)) cf_X3_ring ml_X3_73 ⟨by decide, by decide⟩ ⟨rfl, rfl⟩ rfl (hR.1) rfl hl.1 rfl (Nat.le_of_ble_eq_true rfl) dX3_operating_17 hR ⟨Nat.zero_le _, Nat.zero_le _⟩ hS (fun _ h => h) (fun H locs hR hS _ _ => ?_)
    simp only [Option.toList, List.cons_append, List.nil_append]
    refine lv_re (y := nI f) h3 ?_
    refine xR_ald (j := f) C hR (by omega) hN dX3_operating_20 ?_
    refine lv_astore_n (lv' := [(2, .ref (aRg b f)), (0, .ref b), (1, .int (nI j))]) C.1 C.2.1 dX3_operating_21 rfl hl (by decide) rfl (fun ls hl => ?_)
    refine lv_aload_n C.1 C.2.1 dX3_operating_22 rfl (lv_at hl 0 rfl) ?_
    refine cxV (b := aRg b f) (As := []) (rest := []) (ci := 1) (q := (RX1, TX1, 10)) C (k_X1_claims l g b N S Fl hN (f) (by omega)) cf_X1_claims ml_X3_77 ⟨by decide, by decide⟩ ⟨rfl, rfl⟩ rfl (hR.2.2.2.2.2.1 _ (by omega)) rfl hl.1 rfl (Nat.le_of_ble_eq_true rfl) dX3_operating_23 hR ⟨Nat.zero_le _, Nat.zero_le _⟩ hS (fun _ h => h) (fun H locs hR hS _ _ => ?_)
    simp only [Option.toList, List.cons_append, List.nil_append]
    refine lv_if_eq (tgt := 33) C.1 C.2.1 dX3_operating_26 (by decide) (fun c26 => ?_) (fun c26 => ?_)
    · skip
      refine lv_aload_n C.1 C.2.1 dX3_operating_33 rfl (lv_at hl 0 rfl) ?_
      refine xR_get (j := f) C hR (by omega) 4 (by decide) rfl fl_X3_94 (v := .int (S 24 f)) rfl dX3_operating_34 ?_
      have hv : r_X3_operating_on S j f p = S 24 f := (if_pos c26).trans (rfl)
      rw [hv]
      exact endi C hr hlk hR hS dX3_operating_37
    · skip
      refine lv_iconst (v := nI 0) C.1 C.2.1 dX3_operating_29 (by decide) ?_
      refine lv_goto (tgt := 37) C.1 C.2.1 dX3_operating_30 (by decide) ?_
      have hv : r_X3_operating_on S j f p = nI 0 := (if_neg c26).trans (rfl)
      rw [hv]
      exact endi C hr hlk hR hS dX3_operating_37
  · skip
    exact absurd c6 (nI_nm1 (by omega))

set_option maxHeartbeats 4000000 in
set_option maxRecDepth 100000 in
theorem k_X3_rotation_bad (l : Launch) (g : GX) (b N : Nat) (S : SX) (Fl : FX) (hN : N ≤ 6) (x : Int32) (hb : bad N x)  : MR l yX3_rotation (.code yX3_rotation cX3_rotation 2 (some .float) :: tb) (rmk 1 21) g (RepX g b N S Fl) (RepX g b N S Fl) (AX b N) [.ref b, .int x] (some (.float (FP.fconst0))) := by
  refine MR.start RX3 (by decide) rfl (Nat.le_of_ble_eq_true rfl) (fun zp ze zs zm zb zt zc ls C hr hlk hR hS hl => ?_)
  have hl : lv_has ls 2 [(0, .ref b), (1, .int x)] := hl
  refine lv_aload_n C.1 C.2.1 dX3_rotation_0 rfl (lv_at hl 0 rfl) ?_
  refine lv_iload_n C.1 C.2.1 dX3_rotation_1 rfl (lv_at hl 1 rfl) ?_
  refine cxV (b := b) (As := [.int x]) (rest := []) (ci := 3) (q := (RX3, TX3, 6)) C (kis_bad l g b N S Fl hN x hb) cf_X3_isStation ml_X3_36 ⟨by decide, by decide⟩ ⟨rfl, rfl⟩ rfl (hR.1) rfl hl.1 rfl (Nat.le_of_ble_eq_true rfl) dX3_rotation_2 hR ⟨Nat.zero_le _, Nat.zero_le _⟩ hS (fun _ h => h) (fun H locs hR hS _ _ => ?_)
  simp only [Option.toList, List.cons_append, List.nil_append]
  refine lv_if_eq (tgt := 20) C.1 C.2.1 dX3_rotation_5 (by decide) (fun c5 => ?_) (fun c5 => ?_)
  · skip
    refine lv_fconst0 C.1 C.2.1 dX3_rotation_20 ?_
    skip
    exact endf C hr hlk hR hS dX3_rotation_21
  · skip
    exact absurd c5 (by decide)

set_option maxHeartbeats 4000000 in
set_option maxRecDepth 100000 in
theorem k_X3_rotation_ok (l : Launch) (g : GX) (b N : Nat) (S : SX) (Fl : FX) (hN : N ≤ 6) (j : Nat) (hj : j < N)  : MR l yX3_rotation (.code yX3_rotation cX3_rotation 2 (some .float) :: tb) (rmk 1 21) g (RepX g b N S Fl) (RepX g b N S Fl) (AX b N) [.ref b, .int (nI j)] (some (.float (Fl j))) := by
  refine MR.start RX3 (by decide) rfl (Nat.le_of_ble_eq_true rfl) (fun zp ze zs zm zb zt zc ls C hr hlk hR hS hl => ?_)
  have hl : lv_has ls 2 [(0, .ref b), (1, .int (nI j))] := hl
  refine lv_aload_n C.1 C.2.1 dX3_rotation_0 rfl (lv_at hl 0 rfl) ?_
  refine lv_iload_n C.1 C.2.1 dX3_rotation_1 rfl (lv_at hl 1 rfl) ?_
  refine cxV (b := b) (As := [.int (nI j)]) (rest := []) (ci := 3) (q := (RX3, TX3, 6)) C (kis_ok l g b N S Fl hN j (by omega)) cf_X3_isStation ml_X3_36 ⟨by decide, by decide⟩ ⟨rfl, rfl⟩ rfl (hR.1) rfl hl.1 rfl (Nat.le_of_ble_eq_true rfl) dX3_rotation_2 hR ⟨Nat.zero_le _, Nat.zero_le _⟩ hS (fun _ h => h) (fun H locs hR hS _ _ => ?_)
  simp only [Option.toList, List.cons_append, List.nil_append]
  refine lv_if_eq (tgt := 20) C.1 C.2.1 dX3_rotation_5 (by decide) (fun c5 => ?_) (fun c5 => ?_)
  · skip
    exact absurd c5 (by decide)
  · skip
    refine lv_aload_n C.1 C.2.1 dX3_rotation_8 rfl (lv_at hl 0 rfl) ?_
    refine xO_get C hR 1 (by decide) rfl fl_X3_15 (v := .ref (b + 1)) rfl dX3_rotation_9 ?_
    refine lv_iload_n C.1 C.2.1 dX3_rotation_12 rfl (lv_at hl 1 rfl) ?_
    refine xS_ald (j := j) C hR (by omega) hN dX3_rotation_13 ?_
    refine xS_get (j := j) C hR (by omega) 13 (by decide) rfl fl_X3_137 (v := .float (Fl j)) rfl dX3_rotation_14 ?_
    refine lv_goto (tgt := 21) C.1 C.2.1 dX3_rotation_17 (by decide) ?_
    skip
    exact endf C hr hlk hR hS dX3_rotation_21

theorem ddiv_ok (a : Int32) {d : Int32} (h : ¬ d = 0) : vf_n64 (FP.ddiv (FP.i2d a) (FP.i2d d)) := sorry
set_option maxHeartbeats 4000000 in
set_option maxRecDepth 100000 in
theorem k_X3_share_bad (l : Launch) (g : GX) (b N : Nat) (S : SX) (Fl : FX) (hN : N ≤ 6) (x : Int32) (hb : bad N x)  : MR l yX3_share (.code yX3_share cX3_share 2 (some .double) :: tb) (rmk 1 21) g (RepX g b N S Fl) (RepX g b N S Fl) (AX b N) [.ref b, .int x] (some (.double (FP.dconst0))) := by
  refine MR.start RX3 (by decide) rfl (Nat.le_of_ble_eq_true rfl) (fun zp ze zs zm zb zt zc ls C hr hlk hR hS hl => ?_)
  have hl : lv_has ls 2 [(0, .ref b), (1, .int x)] := hl
  refine lv_aload_n C.1 C.2.1 dX3_share_0 rfl (lv_at hl 0 rfl) ?_
  refine lv_iload_n C.1 C.2.1 dX3_share_1 rfl (lv_at hl 1 rfl) ?_
  refine cxV (b := b) (As := [.int x]) (rest := []) (ci := 3) (q := (RX3, TX3, 6)) C (kis_bad l g b N S Fl hN x hb) cf_X3_isStation ml_X3_36 ⟨by decide, by decide⟩ ⟨rfl, rfl⟩ rfl (hR.1) rfl hl.1 rfl (Nat.le_of_ble_eq_true rfl) dX3_share_2 hR ⟨Nat.zero_le _, Nat.zero_le _⟩ hS (fun _ h => h) (fun H locs hR hS _ _ => ?_)
  simp only [Option.toList, List.cons_append, List.nil_append]
  refine lv_if_eq (tgt := 15) C.1 C.2.1 dX3_share_5 (by decide) (fun c5 => ?_) (fun c5 => ?_)
  · skip
    refine lv_dconst0 C.1 C.2.1 dX3_share_15 ?_
    skip
    exact endd C hr hlk hR hS dX3_share_16
  · skip
    exact absurd c5 (by decide)

def r_X3_share_ok (S : SX) (j : Nat) : UInt64 := if S 45 0 = 0 then (FP.dconst0) else (FP.ddiv (FP.i2d (S 17 j)) (FP.i2d (S 45 0)))
set_option maxHeartbeats 4000000 in
set_option maxRecDepth 100000 in
theorem k_X3_share_ok (l : Launch) (g : GX) (b N : Nat) (S : SX) (Fl : FX) (hN : N ≤ 6) (j : Nat) (hj : j < N)  : MR l yX3_share (.code yX3_share cX3_share 2 (some .double) :: tb) (rmk 1 21) g (RepX g b N S Fl) (RepX g b N S Fl) (AX b N) [.ref b, .int (nI j)] (some (.double (r_X3_share_ok S j))) := by
  refine MR.start RX3 (by decide) rfl (Nat.le_of_ble_eq_true rfl) (fun zp ze zs zm zb zt zc ls C hr hlk hR hS hl => ?_)
  have hl : lv_has ls 2 [(0, .ref b), (1, .int (nI j))] := hl
  refine lv_aload_n C.1 C.2.1 dX3_share_0 rfl (lv_at hl 0 rfl) ?_
  refine lv_iload_n C.1 C.2.1 dX3_share_1 rfl (lv_at hl 1 rfl) ?_
  refine cxV (b := b) (As := [.int (nI j)]) (rest := []) (ci := 3) (q := (RX3, TX3, 6)) C (kis_ok l g b N S Fl hN j (by omega)) cf_X3_isStation ml_X3_36 ⟨by decide, by decide⟩ ⟨rfl, rfl⟩ rfl (hR.1) rfl hl.1 rfl (Nat.le_of_ble_eq_true rfl) dX3_share_2 hR ⟨Nat.zero_le _, Nat.zero_le _⟩ hS (fun _ h => h) (fun H locs hR hS _ _ => ?_)
  simp only [Option.toList, List.cons_append, List.nil_append]
  refine lv_if_eq (tgt := 15) C.1 C.2.1 dX3_share_5 (by decide) (fun c5 => ?_) (fun c5 => ?_)
  · skip
    exact absurd c5 (by decide)
  · skip
    refine lv_aload_n C.1 C.2.1 dX3_share_8 rfl (lv_at hl 0 rfl) ?_
    refine xO_get C hR 4 (by decide) rfl fl_X3_63 (v := .int (S 45 0)) rfl dX3_share_9 ?_
    refine lv_if_ne (tgt := 17) C.1 C.2.1 dX3_share_12 (by decide) (fun c12 => ?_) (fun c12 => ?_)
    · skip
      refine lv_aload_n C.1 C.2.1 dX3_share_17 rfl (lv_at hl 0 rfl) ?_
      refine xO_get C hR 1 (by decide) rfl fl_X3_15 (v := .ref (b + 1)) rfl dX3_share_18 ?_
      refine lv_iload_n C.1 C.2.1 dX3_share_21 rfl (lv_at hl 1 rfl) ?_
      refine xS_ald (j := j) C hR (by omega) hN dX3_share_22 ?_
      refine xS_get (j := j) C hR (by omega) 17 (by decide) rfl fl_X3_131 (v := .int (S 17 j)) rfl dX3_share_23 ?_
      refine lv_i2d C.1 C.2.1 dX3_share_26 ?_
      refine lv_aload_n C.1 C.2.1 dX3_share_27 rfl (lv_at hl 0 rfl) ?_
      refine xO_get C hR 4 (by decide) rfl fl_X3_63 (v := .int (S 45 0)) rfl dX3_share_28 ?_
      refine lv_i2d C.1 C.2.1 dX3_share_31 ?_
      refine lv_ddiv C.1 C.2.1 dX3_share_32 (ddiv_ok _ c12) ?_
      have hv : r_X3_share_ok S j = FP.ddiv (FP.i2d (S 17 j)) (FP.i2d (S 45 0)) := (if_neg c12).trans (rfl)
      rw [hv]
      exact endd C hr hlk hR hS dX3_share_33
    · skip
      refine lv_dconst0 C.1 C.2.1 dX3_share_15 ?_
      have hv : r_X3_share_ok S j = FP.dconst0 := (if_pos c12).trans (rfl)
      rw [hv]
      exact endd C hr hlk hR hS dX3_share_16

theorem sw_out {x : Int32} (h0 : ¬ x = nI 0) (h1 : ¬ x = nI 1) (h2 : ¬ x = nI 2) (h3 : ¬ x = nI 3) (h4 : ¬ x = nI 4) (h5 : ¬ x = nI 5) (h6 : ¬ x = nI 6) (h7 : ¬ x = nI 7) (h8 : ¬ x = nI 8) (h9 : ¬ x = nI 9) (h10 : ¬ x = nI 10) (h11 : ¬ x = nI 11) : x.toInt < 0 ∨ 11 < x.toInt := by
  rcases pk_ix x (n := 12) (by decide) with h | h | ⟨j, hj, e⟩
  · exact Or.inl (by rw [Int32.lt_iff_toInt_lt] at h; exact h)
  · refine Or.inr ?_
    have : (nI 12).toInt ≤ x.toInt := by rw [Int32.le_iff_toInt_le] at h; exact h
    rw [nI_toInt (by decide)] at this
    omega
  · exfalso
    match j, hj with
    | 0, _ => exact h0 e
    | 1, _ => exact h1 e
    | 2, _ => exact h2 e
    | 3, _ => exact h3 e
    | 4, _ => exact h4 e
    | 5, _ => exact h5 e
    | 6, _ => exact h6 e
    | 7, _ => exact h7 e
    | 8, _ => exact h8 e
    | 9, _ => exact h9 e
    | 10, _ => exact h10 e
    | 11, _ => exact h11 e
    | k + 12, hj => omega
set_option maxHeartbeats 4000000 in
set_option maxRecDepth 100000 in
theorem k_X3_station_bad (l : Launch) (g : GX) (b N : Nat) (S : SX) (Fl : FX) (hN : N ≤ 6) (x w : Int32) (hb : bad N x)  : MR l yX3_station (.code yX3_station cX3_station 4 (some .int) :: tb) (rmk 1 21) g (RepX g b N S Fl) (RepX g b N S Fl) (AX b N) [.ref b, .int x, .int w] (some (.int ((-1)))) := by
  refine MR.start RX3 (by decide) rfl (Nat.le_of_ble_eq_true rfl) (fun zp ze zs zm zb zt zc ls C hr hlk hR hS hl => ?_)
  have hl : lv_has ls 4 [(0, .ref b), (1, .int x), (2, .int w)] := hl
  refine lv_aload_n C.1 C.2.1 dX3_station_0 rfl (lv_at hl 0 rfl) ?_
  refine lv_iload_n C.1 C.2.1 dX3_station_1 rfl (lv_at hl 1 rfl) ?_
  refine cxV (b := b) (As := [.int x]) (rest := []) (ci := 3) (q := (RX3, TX3, 6)) C (kis_bad l g b N S Fl hN x hb) cf_X3_isStation ml_X3_36 ⟨by decide, by decide⟩ ⟨rfl, rfl⟩ rfl (hR.1) rfl hl.1 rfl (Nat.le_of_ble_eq_true rfl) dX3_station_2 hR ⟨Nat.zero_le _, Nat.zero_le _⟩ hS (fun _ h => h) (fun H locs hR hS _ _ => ?_)
  simp only [Option.toList, List.cons_append, List.nil_append]
  refine lv_if_ne (tgt := 10) C.1 C.2.1 dX3_station_5 (by decide) (fun c5 => ?_) (fun c5 => ?_)
  · skip
    exact absurd c5 (by decide)
  · skip
    refine lv_iconst (v := (-1)) C.1 C.2.1 dX3_station_8 (by decide) ?_
    skip
    exact endi C hr hlk hR hS dX3_station_9

def r_X3_station_ok (S : SX) (j : Nat) (w : Int32) : Int32 := if w = nI 0 then (S 6 j) else (if w = nI 1 then (S 7 j) else (if w = nI 2 then (S 8 j) else (if w = nI 3 then (S 9 j) else (if w = nI 4 then (S 41 (2 * j)) else (if w = nI 5 then (S 41 (2 * j + 1)) else (if w = nI 6 then (S 12 j) else (if w = nI 7 then (S 14 j) else (if w = nI 8 then (S 15 j) else (if w = nI 9 then (S 16 j) else (if w = nI 10 then (S 17 j) else (if w = nI 11 then (S 18 j) else (-1))))))))))))
set_option maxHeartbeats 4000000 in
set_option maxRecDepth 100000 in
theorem k_X3_station_ok (l : Launch) (g : GX) (b N : Nat) (S : SX) (Fl : FX) (hN : N ≤ 6) (j : Nat) (hj : j < N) (w : Int32)  : MR l yX3_station (.code yX3_station cX3_station 4 (some .int) :: tb) (rmk 1 21) g (RepX g b N S Fl) (RepX g b N S Fl) (AX b N) [.ref b, .int (nI j), .int w] (some (.int (r_X3_station_ok S j w))) := by
  refine MR.start RX3 (by decide) rfl (Nat.le_of_ble_eq_true rfl) (fun zp ze zs zm zb zt zc ls C hr hlk hR hS hl => ?_)
  have hl : lv_has ls 4 [(0, .ref b), (1, .int (nI j)), (2, .int w)] := hl
  refine lv_aload_n C.1 C.2.1 dX3_station_0 rfl (lv_at hl 0 rfl) ?_
  refine lv_iload_n C.1 C.2.1 dX3_station_1 rfl (lv_at hl 1 rfl) ?_
  refine cxV (b := b) (As := [.int (nI j)]) (rest := []) (ci := 3) (q := (RX3, TX3, 6)) C (kis_ok l g b N S Fl hN j (by omega)) cf_X3_isStation ml_X3_36 ⟨by decide, by decide⟩ ⟨rfl, rfl⟩ rfl (hR.1) rfl hl.1 rfl (Nat.le_of_ble_eq_true rfl) dX3_station_2 hR ⟨Nat.zero_le _, Nat.zero_le _⟩ hS (fun _ h => h) (fun H locs hR hS _ _ => ?_)
  simp only [Option.toList, List.cons_append, List.nil_append]
  refine lv_if_ne (tgt := 10) C.1 C.2.1 dX3_station_5 (by decide) (fun c5 => ?_) (fun c5 => ?_)
  · skip
    refine lv_aload_n C.1 C.2.1 dX3_station_10 rfl (lv_at hl 0 rfl) ?_
    refine xO_get C hR 1 (by decide) rfl fl_X3_15 (v := .ref (b + 1)) rfl dX3_station_11 ?_
    refine lv_iload_n C.1 C.2.1 dX3_station_14 rfl (lv_at hl 1 rfl) ?_
    refine xS_ald (j := j) C hR (by omega) hN dX3_station_15 ?_
    refine lv_astore_n (lv' := [(3, .ref (aSt b j)), (0, .ref b), (1, .int (nI j)), (2, .int w)]) C.1 C.2.1 dX3_station_16 rfl hl (by decide) rfl (fun ls hl => ?_)
    refine lv_iload_n C.1 C.2.1 dX3_station_17 rfl (lv_at hl 3 rfl) ?_
    by_cases hw0 : w = nI 0
    · skip
      refine lv_tableIn (off := 62) (tgt := 80) C.1 C.2.1 dX3_station_18 (by rw [hw0]; decide) (by rw [hw0]; decide) (by rw [hw0]; decide) (by decide) ?_
      refine lv_aload_n C.1 C.2.1 dX3_station_80 rfl (lv_at hl 0 rfl) ?_
      refine xS_get (j := j) C hR (by omega) 6 (by decide) rfl fl_X3_97 (v := .int (S 6 j)) rfl dX3_station_81 ?_
      have hv : r_X3_station_ok S j w = S 6 j := (if_pos hw0).trans (rfl)
      rw [hv]
      exact endi C hr hlk hR hS dX3_station_84
    by_cases hw1 : w = nI 1
    · skip
      refine lv_tableIn (off := 67) (tgt := 85) C.1 C.2.1 dX3_station_18 (by rw [hw1]; decide) (by rw [hw1]; decide) (by rw [hw1]; decide) (by decide) ?_
      refine lv_aload_n C.1 C.2.1 dX3_station_85 rfl (lv_at hl 0 rfl) ?_
      refine xS_get (j := j) C hR (by omega) 7 (by decide) rfl fl_X3_100 (v := .int (S 7 j)) rfl dX3_station_86 ?_
      have hv : r_X3_station_ok S j w = S 7 j := (if_neg hw0).trans ((if_pos hw1).trans (rfl))
      rw [hv]
      exact endi C hr hlk hR hS dX3_station_89
    by_cases hw2 : w = nI 2
    · skip
      refine lv_tableIn (off := 72) (tgt := 90) C.1 C.2.1 dX3_station_18 (by rw [hw2]; decide) (by rw [hw2]; decide) (by rw [hw2]; decide) (by decide) ?_
      refine lv_aload_n C.1 C.2.1 dX3_station_90 rfl (lv_at hl 0 rfl) ?_
      refine xS_get (j := j) C hR (by omega) 8 (by decide) rfl fl_X3_103 (v := .int (S 8 j)) rfl dX3_station_91 ?_
      have hv : r_X3_station_ok S j w = S 8 j := (if_neg hw0).trans ((if_neg hw1).trans ((if_pos hw2).trans (rfl)))
      rw [hv]
      exact endi C hr hlk hR hS dX3_station_94
    by_cases hw3 : w = nI 3
    · skip
      refine lv_tableIn (off := 77) (tgt := 95) C.1 C.2.1 dX3_station_18 (by rw [hw3]; decide) (by rw [hw3]; decide) (by rw [hw3]; decide) (by decide) ?_
      refine lv_aload_n C.1 C.2.1 dX3_station_95 rfl (lv_at hl 0 rfl) ?_
      refine xS_get (j := j) C hR (by omega) 9 (by decide) rfl fl_X3_106 (v := .int (S 9 j)) rfl dX3_station_96 ?_
      have hv : r_X3_station_ok S j w = S 9 j := (if_neg hw0).trans ((if_neg hw1).trans ((if_neg hw2).trans ((if_pos hw3).trans (rfl))))
      rw [hv]
      exact endi C hr hlk hR hS dX3_station_99
    by_cases hw4 : w = nI 4
    · skip
      refine lv_tableIn (off := 82) (tgt := 100) C.1 C.2.1 dX3_station_18 (by rw [hw4]; decide) (by rw [hw4]; decide) (by rw [hw4]; decide) (by decide) ?_
      refine lv_aload_n C.1 C.2.1 dX3_station_100 rfl (lv_at hl 0 rfl) ?_
      refine xS_get (j := j) C hR (by omega) 0 (by decide) rfl fl_X3_109 (v := .ref (aQ b (2 * j))) rfl dX3_station_101 ?_
      refine xQ_get (q := 2 * j) C hR (by omega) 3 (by decide) rfl fl_X3_113 (v := .int (S 41 (2 * j))) rfl dX3_station_104 ?_
      have hv : r_X3_station_ok S j w = S 41 (2 * j) := (if_neg hw0).trans ((if_neg hw1).trans ((if_neg hw2).trans ((if_neg hw3).trans ((if_pos hw4).trans (rfl)))))
      rw [hv]
      exact endi C hr hlk hR hS dX3_station_107
    by_cases hw5 : w = nI 5
    · skip
      refine lv_tableIn (off := 90) (tgt := 108) C.1 C.2.1 dX3_station_18 (by rw [hw5]; decide) (by rw [hw5]; decide) (by rw [hw5]; decide) (by decide) ?_
      refine lv_aload_n C.1 C.2.1 dX3_station_108 rfl (lv_at hl 0 rfl) ?_
      refine xS_get (j := j) C hR (by omega) 1 (by decide) rfl fl_X3_116 (v := .ref (aQ b (2 * j + 1))) rfl dX3_station_109 ?_
      refine xQ_get (q := 2 * j + 1) C hR (by omega) 3 (by decide) rfl fl_X3_113 (v := .int (S 41 (2 * j + 1))) rfl dX3_station_112 ?_
      have hv : r_X3_station_ok S j w = S 41 (2 * j + 1) := (if_neg hw0).trans ((if_neg hw1).trans ((if_neg hw2).trans ((if_neg hw3).trans ((if_neg hw4).trans ((if_pos hw5).trans (rfl))))))
      rw [hv]
      exact endi C hr hlk hR hS dX3_station_115
    by_cases hw6 : w = nI 6
    · skip
      refine lv_tableIn (off := 98) (tgt := 116) C.1 C.2.1 dX3_station_18 (by rw [hw6]; decide) (by rw [hw6]; decide) (by rw [hw6]; decide) (by decide) ?_
      refine lv_aload_n C.1 C.2.1 dX3_station_116 rfl (lv_at hl 0 rfl) ?_
      refine xS_get (j := j) C hR (by omega) 12 (by decide) rfl fl_X3_119 (v := .int (S 12 j)) rfl dX3_station_117 ?_
      have hv : r_X3_station_ok S j w = S 12 j := (if_neg hw0).trans ((if_neg hw1).trans ((if_neg hw2).trans ((if_neg hw3).trans ((if_neg hw4).trans ((if_neg hw5).trans ((if_pos hw6).trans (rfl)))))))
      rw [hv]
      exact endi C hr hlk hR hS dX3_station_120
    by_cases hw7 : w = nI 7
    · skip
      refine lv_tableIn (off := 103) (tgt := 121) C.1 C.2.1 dX3_station_18 (by rw [hw7]; decide) (by rw [hw7]; decide) (by rw [hw7]; decide) (by decide) ?_
      refine lv_aload_n C.1 C.2.1 dX3_station_121 rfl (lv_at hl 0 rfl) ?_
      refine xS_get (j := j) C hR (by omega) 14 (by decide) rfl fl_X3_122 (v := .int (S 14 j)) rfl dX3_station_122 ?_
      have hv : r_X3_station_ok S j w = S 14 j := (if_neg hw0).trans ((if_neg hw1).trans ((if_neg hw2).trans ((if_neg hw3).trans ((if_neg hw4).trans ((if_neg hw5).trans ((if_neg hw6).trans ((if_pos hw7).trans (rfl))))))))
      rw [hv]
      exact endi C hr hlk hR hS dX3_station_125
    by_cases hw8 : w = nI 8
    · skip
      refine lv_tableIn (off := 108) (tgt := 126) C.1 C.2.1 dX3_station_18 (by rw [hw8]; decide) (by rw [hw8]; decide) (by rw [hw8]; decide) (by decide) ?_
      refine lv_aload_n C.1 C.2.1 dX3_station_126 rfl (lv_at hl 0 rfl) ?_
      refine xS_get (j := j) C hR (by omega) 15 (by decide) rfl fl_X3_125 (v := .int (S 15 j)) rfl dX3_station_127 ?_
      have hv : r_X3_station_ok S j w = S 15 j := (if_neg hw0).trans ((if_neg hw1).trans ((if_neg hw2).trans ((if_neg hw3).trans ((if_neg hw4).trans ((if_neg hw5).trans ((if_neg hw6).trans ((if_neg hw7).trans ((if_pos hw8).trans (rfl)))))))))
      rw [hv]
      exact endi C hr hlk hR hS dX3_station_130
    by_cases hw9 : w = nI 9
    · skip
      refine lv_tableIn (off := 113) (tgt := 131) C.1 C.2.1 dX3_station_18 (by rw [hw9]; decide) (by rw [hw9]; decide) (by rw [hw9]; decide) (by decide) ?_
      refine lv_aload_n C.1 C.2.1 dX3_station_131 rfl (lv_at hl 0 rfl) ?_
      refine xS_get (j := j) C hR (by omega) 16 (by decide) rfl fl_X3_128 (v := .int (S 16 j)) rfl dX3_station_132 ?_
      have hv : r_X3_station_ok S j w = S 16 j := (if_neg hw0).trans ((if_neg hw1).trans ((if_neg hw2).trans ((if_neg hw3).trans ((if_neg hw4).trans ((if_neg hw5).trans ((if_neg hw6).trans ((if_neg hw7).trans ((if_neg hw8).trans ((if_pos hw9).trans (rfl))))))))))
      rw [hv]
      exact endi C hr hlk hR hS dX3_station_135
    by_cases hw10 : w = nI 10
    · skip
      refine lv_tableIn (off := 118) (tgt := 136) C.1 C.2.1 dX3_station_18 (by rw [hw10]; decide) (by rw [hw10]; decide) (by rw [hw10]; decide) (by decide) ?_
      refine lv_aload_n C.1 C.2.1 dX3_station_136 rfl (lv_at hl 0 rfl) ?_
      refine xS_get (j := j) C hR (by omega) 17 (by decide) rfl fl_X3_131 (v := .int (S 17 j)) rfl dX3_station_137 ?_
      have hv : r_X3_station_ok S j w = S 17 j := (if_neg hw0).trans ((if_neg hw1).trans ((if_neg hw2).trans ((if_neg hw3).trans ((if_neg hw4).trans ((if_neg hw5).trans ((if_neg hw6).trans ((if_neg hw7).trans ((if_neg hw8).trans ((if_neg hw9).trans ((if_pos hw10).trans (rfl)))))))))))
      rw [hv]
      exact endi C hr hlk hR hS dX3_station_140
    by_cases hw11 : w = nI 11
    · skip
      refine lv_tableIn (off := 123) (tgt := 141) C.1 C.2.1 dX3_station_18 (by rw [hw11]; decide) (by rw [hw11]; decide) (by rw [hw11]; decide) (by decide) ?_
      refine lv_aload_n C.1 C.2.1 dX3_station_141 rfl (lv_at hl 0 rfl) ?_
      refine xS_get (j := j) C hR (by omega) 18 (by decide) rfl fl_X3_134 (v := .int (S 18 j)) rfl dX3_station_142 ?_
      have hv : r_X3_station_ok S j w = S 18 j := (if_neg hw0).trans ((if_neg hw1).trans ((if_neg hw2).trans ((if_neg hw3).trans ((if_neg hw4).trans ((if_neg hw5).trans ((if_neg hw6).trans ((if_neg hw7).trans ((if_neg hw8).trans ((if_neg hw9).trans ((if_neg hw10).trans ((if_pos hw11).trans (rfl))))))))))))
      rw [hv]
      exact endi C hr hlk hR hS dX3_station_145
    refine lv_tableOut (tgt := 146) C.1 C.2.1 dX3_station_18 (sw_out hw0 hw1 hw2 hw3 hw4 hw5 hw6 hw7 hw8 hw9 hw10 hw11) (by decide) ?_
    refine lv_iconst (v := (-1)) C.1 C.2.1 dX3_station_146 (by decide) ?_
    have hv : r_X3_station_ok S j w = (-1) := (if_neg hw0).trans ((if_neg hw1).trans ((if_neg hw2).trans ((if_neg hw3).trans ((if_neg hw4).trans ((if_neg hw5).trans ((if_neg hw6).trans ((if_neg hw7).trans ((if_neg hw8).trans ((if_neg hw9).trans ((if_neg hw10).trans ((if_neg hw11).trans (rfl))))))))))))
    rw [hv]
    exact endi C hr hlk hR hS dX3_station_147
  · skip
    exact absurd c5 (by decide)

def nv (x : Int32) : Nat := x.toNatClampNeg
theorem nv_nI {n : Nat} (h : n < 1000) : nv (nI n) = n := nI_clamp (by omega)
def IX (N : Nat) (S : SX) : Prop := (∀ f, f < N → S 20 f = nI f) ∧ (∀ f, f < N → ∃ p, p < N ∧ S 25 f = nI p) ∧ (∀ f, f < N → ∃ L, L ≤ N ∧ S 21 f = nI L) ∧ (∀ q, q < 2 * N → ∃ z, z ≤ 5 ∧ S 41 q = nI z) ∧ (∀ i, i < 10 * N → ∃ t, t < N ∧ S 42 i = nI t)
def qS (N : Nat) (S : SX) (f : Nat) : Nat := qof (wr N (f + nv (S 25 f))) (S 28 f)
theorem IX.p {N : Nat} {S : SX} (h : IX N S) (hN : N ≤ 6) {f : Nat} (hf : f < N) : nv (S 25 f) < N ∧ S 25 f = nI (nv (S 25 f)) := by
  obtain ⟨p, h1, h2⟩ := h.2.1 f hf
  rw [h2, nv_nI (by omega)]
  exact ⟨h1, rfl⟩
theorem IX.L {N : Nat} {S : SX} (h : IX N S) (hN : N ≤ 6) {f : Nat} (hf : f < N) : nv (S 21 f) ≤ N ∧ S 21 f = nI (nv (S 21 f)) := by
  obtain ⟨p, h1, h2⟩ := h.2.2.1 f hf
  rw [h2, nv_nI (by omega)]
  exact ⟨h1, rfl⟩
theorem IX.z {N : Nat} {S : SX} (h : IX N S) {q : Nat} (hq : q < 2 * N) : nv (S 41 q) ≤ 5 ∧ S 41 q = nI (nv (S 41 q)) := by
  obtain ⟨p, h1, h2⟩ := h.2.2.2.1 q hq
  rw [h2, nv_nI (by omega)]
  exact ⟨h1, rfl⟩
theorem IX.t {N : Nat} {S : SX} (h : IX N S) (hN : N ≤ 6) {i : Nat} (hi : i < 10 * N) : nv (S 42 i) < N ∧ S 42 i = nI (nv (S 42 i)) := by
  obtain ⟨p, h1, h2⟩ := h.2.2.2.2 i hi
  rw [h2, nv_nI (by omega)]
  exact ⟨h1, rfl⟩
theorem IX.q {N : Nat} {S : SX} (h : IX N S) (hN : N ≤ 6) {f : Nat} (hf : f < N) : qS N S f < 2 * N := qof_lt (wr_lt (by have := (h.p hN hf).1; omega))
def xRef (N : Nat) (S : SX) (f L : Nat) (cl : Int32) : SX := sfr N (ref0 S N f (nv (S 25 f)) (nv (S 41 (qS N S f))) L cl) f L
theorem kx_reform (l : Launch) (g : GX) (b N : Nat) (S : SX) (Fl : FX) (hN : N ≤ 6) (hI : IX N S) (f : Nat) (hf : f < N) (L : Nat) (hL : L ≤ N) (cl : Int32) (hcl : cl = 0 ∨ cl = 1) : MR l yX3_reform (.code yX3_reform cX3_reform 5 none :: tb) (rmk 3 67) g (RepX g b N S Fl) (RepX g b N (xRef N S f L cl) Fl) (AX b N) [.ref b, .ref (aRg b f), .int (nI L), .int cl] none :=
  k_X3_reform l g b N S Fl hN f (nv (S 25 f)) (nv (S 41 (qS N S f))) hf (hI.p hN hf).1 (hI.z (hI.q hN hf)).1 (hI.1 f hf) (hI.p hN hf).2 (hI.z (hI.q hN hf)).2 L hL cl hcl
theorem shf_IX {N : Nat} {S : SX} {q i : Nat} (hi : i ≤ 4) (hq : q < 2 * N) (h : ∀ k, k < 10 * N → ∃ t, t < N ∧ S 42 k = nI t) : ∀ k, k < 10 * N → ∃ t, t < N ∧ shf S q i 42 k = nI t := by
  intro k hk
  simp only [shf]
  split
  · exact h (k + 1) (by omega)
  · exact h k hk
theorem s_rem_IX {N : Nat} {S : SX} {q z : Nat} (hq : q < 2 * N) (hz : z ≤ 5) (h : IX N S) : IX N (s_rem S q z) := by
  obtain ⟨h1, h2, h3, h4, h5⟩ := h
  refine ⟨fun f hf => ?_, fun f hf => ?_, fun f hf => ?_, fun k hk => ?_, ?_⟩
  · rw [s_rem_o (by decide)]; exact h1 f hf
  · rw [s_rem_o (by decide)]; exact h2 f hf
  · rw [s_rem_o (by decide)]; exact h3 f hf
  · unfold s_rem
    split
    · exact h4 k hk
    · rw [shf_o (by decide)]
      by_cases hkq : k = q
      · subst hkq; rw [up2_eq]; exact ⟨z - 1, by omega, rfl⟩
      · rw [up2_i hkq]; exact h4 k hk
  · unfold s_rem
    split
    · exact h5
    · exact shf_IX (by omega) hq (fun k hk => by rw [up2_f (by decide)]; exact h5 k hk)
theorem up_IX {N : Nat} {S : SX} {g i : Nat} {v : Int32} (h : IX N S) (h1 : g ≠ 20) (h2 : g ≠ 25) (h3 : g ≠ 21) (h4 : g ≠ 41) (h5 : g ≠ 42) : IX N (up2 S g i v) := by
  obtain ⟨a1, a2, a3, a4, a5⟩ := h
  refine ⟨fun f hf => ?_, fun f hf => ?_, fun f hf => ?_, fun k hk => ?_, fun k hk => ?_⟩
  · rw [up2_f (Ne.symm h1)]; exact a1 f hf
  · rw [up2_f (Ne.symm h2)]; exact a2 f hf
  · rw [up2_f (Ne.symm h3)]; exact a3 f hf
  · rw [up2_f (Ne.symm h4)]; exact a4 k hk
  · rw [up2_f (Ne.symm h5)]; exact a5 k hk
theorem up21_IX {N : Nat} {S : SX} {i L : Nat} (h : IX N S) (hL : L ≤ N) : IX N (up2 S 21 i (nI L)) := by
  obtain ⟨a1, a2, a3, a4, a5⟩ := h
  refine ⟨fun f hf => ?_, fun f hf => ?_, fun f hf => ?_, fun k hk => ?_, fun k hk => ?_⟩
  · rw [up2_f (by decide)]; exact a1 f hf
  · rw [up2_f (by decide)]; exact a2 f hf
  · by_cases e : f = i
    · subst e; rw [up2_eq]; exact ⟨L, hL, rfl⟩
    · rw [up2_i e]; exact a3 f hf
  · rw [up2_f (by decide)]; exact a4 k hk
  · rw [up2_f (by decide)]; exact a5 k hk
theorem lose_IX {N : Nat} {S : SX} {f p z : Nat} (hf : f < N) (hp : p < N) (hz : z ≤ 5) (h : IX N S) : IX N (s_X3_loseFrameBeingSent S N f p z) := by
  unfold s_X3_loseFrameBeingSent
  split
  · exact h
  · exact up_IX (up_IX (s_rem_IX (qof_lt (wr_lt (by omega))) hz h) (by decide) (by decide) (by decide) (by decide) (by decide)) (by decide) (by decide) (by decide) (by decide) (by decide)
theorem sfr_IX {N : Nat} {S : SX} {f i : Nat} (h : IX N S) : IX N (sfr N S f i) := by
  induction i with
  | zero => exact h
  | succ i ih => exact up_IX ih (by decide) (by decide) (by decide) (by decide) (by decide)
theorem xRef_IX {N : Nat} {S : SX} (hN : N ≤ 6) (h : IX N S) {f L : Nat} {cl : Int32} (hf : f < N) (hL : L ≤ N) : IX N (xRef N S f L cl) := by
  unfold xRef ref0
  exact sfr_IX (up_IX (up_IX (up21_IX (lose_IX hf (h.p hN hf).1 (h.z (h.q hN hf)).1 h) hL) (by decide) (by decide) (by decide) (by decide) (by decide)) (by decide) (by decide) (by decide) (by decide) (by decide))
def fL (N : Nat) (u : Bool) (S : SX) (i : Nat) : Nat := if u = true then (if i = 0 then N else 0) else rowL N S i
def fC (u : Bool) (i : Nat) : Int32 := if u = true then (if i = 0 then nI 1 else nI 0) else nI 0
def fstep (N : Nat) (u : Bool) (S : SX) (i : Nat) : SX := if fL N u S i = nv (S 21 i) ∧ fC u i = S 22 i then S else xRef N S i (fL N u S i) (fC u i)
def frl (N : Nat) (u : Bool) (S : SX) : Nat → SX
  | 0 => S
  | i + 1 => fstep N u (frl N u S i) i
theorem fL_le {N : Nat} {u : Bool} {S : SX} {i : Nat} (h : 1 ≤ N) : fL N u S i ≤ N := by
  unfold fL
  split
  · split <;> omega
  · exact rowL_le h
theorem fstep_IX {N : Nat} {u : Bool} {S : SX} {i : Nat} (hN : N ≤ 6) (hi : i < N) (h : IX N S) : IX N (fstep N u S i) := by
  unfold fstep
  split
  · exact h
  · exact xRef_IX hN h hi (fL_le (by omega))
end
section
set_option maxHeartbeats 4000000 in
set_option maxRecDepth 100000 in
theorem k_X3_findRings (l : Launch) (g : GX) (b N : Nat) (S : SX) (Fl : FX) (hN : N ≤ 6) (hI : IX N S) : MR l yX3_findRings (.code yX3_findRings cX3_findRings 6 none :: tb) (rmk 4 91) g (RepX g b N S Fl) (RepX g b N (frl N (allj N S N) S N) Fl) (AX b N) [.ref b] none := by
  refine MR.start RX3 (by decide) rfl (Nat.le_of_ble_eq_true rfl) (fun zp ze zs zm zb zt zc ls C hr hlk hR hS hl => ?_)
  have hl : lv_has ls 6 [(0, .ref b)] := hl
  refine lv_aload_n C.1 C.2.1 dX3_findRings_0 rfl (lv_at hl 0 rfl) ?_
  refine cxV (b := b) (As := []) (rest := []) (ci := 3) (q := (RX3, TX3, 6)) C (k_X3_isUnbroken l g b N S Fl hN) cf_X3_isUnbroken ml_X3_147 ⟨by decide, by decide⟩ ⟨rfl, rfl⟩ rfl (hR.1) rfl hl.1 rfl (Nat.le_of_ble_eq_true rfl) dX3_findRings_1 hR ⟨Nat.zero_le _, Nat.zero_le _⟩ hS (fun _ h => h) (fun H locs hR hS _ _ => ?_)
  simp only [Option.toList, List.cons_append, List.nil_append]
  refine lv_istore_n (lv' := [(1, .int (bI (allj N S N))), (0, .ref b)]) C.1 C.2.1 dX3_findRings_4 rfl hl (by decide) rfl (fun ls hl => ?_)
  refine lv_iconst (v := nI 0) C.1 C.2.1 dX3_findRings_5 (by decide) ?_
  refine lv_istore_n (lv' := [(2, .int (nI 0)), (1, .int (bI (allj N S N))), (0, .ref b)]) C.1 C.2.1 dX3_findRings_6 rfl hl (by decide) rfl (fun ls hl => ?_)
  have lp : ∀ (n : Nat) (i : Nat) (H : Heap) (locs : List Loc) (ls : Array Slot), N - i < n → i ≤ N → IX N (frl N (allj N S N) S i) → RepX g b N (frl N (allj N S N) S i) Fl H → va_S (AX b N) zs.heap H locs → lv_has ls 6 [(2, .int (nI i)), (1, .int (bI (allj N S N))), (0, .ref b)] → W zp l ze (rmk 4 91) zs zm ([.ref b] : List Value).toArray zb zt zc H locs 0 0 (MQ zb (QR (RepX g b N (frl N (allj N S N) S N) Fl) (AX b N) none) ([.ref b] : List Value).toArray zs 0 0 (AX b N)) (F0 zm 7 ls []) := by
    intro n
    induction n with
    | zero => intro i H locs ls hm; exact absurd hm (Nat.not_lt_zero _)
    | succ n ih =>
      intro i H locs ls hm hi hI hR hS hl
      obtain ⟨S1, eS1⟩ : ∃ y, y = frl N (allj N S N) S i := ⟨_, rfl⟩
      rw [← eS1] at hR
      rw [← eS1] at hI
      refine lv_iload_n C.1 C.2.1 dX3_findRings_7 rfl (lv_at hl 0 rfl) ?_
      refine lv_aload_n C.1 C.2.1 dX3_findRings_8 rfl (lv_at hl 2 rfl) ?_
      refine xO_get C hR 0 (by decide) rfl fl_X3_9 (v := .int (nI N)) rfl dX3_findRings_9 ?_
      refine lv_icmp_ge (tgt := 97) C.1 C.2.1 dX3_findRings_12 (by decide) (fun c12 => ?_) (fun c12 => ?_)
      · skip
        have c12 : N ≤ i := (nI_leI (a := N) (b := i) (by omega) (by omega)).mp c12
        have hs : frl N (allj N S N) S N = S1 := by rw [eS1, show i = N by omega]
        rw [hs]
        exact endv C hr hlk hR hS dX3_findRings_97
      · skip
        have c12 : ¬ (N ≤ i) := mt (nI_leI (a := N) (b := i) (by omega) (by omega)).mpr c12
        obtain ⟨K, hK, g21⟩ := hI.2.2.1 i (by omega)
        refine lv_aload_n C.1 C.2.1 dX3_findRings_15 rfl (lv_at hl 2 rfl) ?_
        refine xO_get C hR 3 (by decide) rfl fl_X3_25 (v := .ref (b + 3)) rfl dX3_findRings_16 ?_
        refine lv_iload_n C.1 C.2.1 dX3_findRings_19 rfl (lv_at hl 0 rfl) ?_
        refine xR_ald (j := i) C hR (by omega) hN dX3_findRings_20 ?_
        refine lv_astore_n (lv' := [(3, .ref (aRg b i)), (2, .int (nI i)), (1, .int (bI (allj N S N))), (0, .ref b)]) C.1 C.2.1 dX3_findRings_21 rfl hl (by decide) rfl (fun ls hl => ?_)
        refine lv_iload_n C.1 C.2.1 dX3_findRings_22 rfl (lv_at hl 2 rfl) ?_
        refine lv_if_eq (tgt := 34) C.1 C.2.1 dX3_findRings_23 (by decide) (fun c23 => ?_) (fun c23 => ?_)
        · skip
          refine lv_iconst (v := nI 0) C.1 C.2.1 dX3_findRings_34 (by decide) ?_
          refine lv_istore (lv' := [(4, .int (nI 0)), (3, .ref (aRg b i)), (2, .int (nI i)), (1, .int (bI (allj N S N))), (0, .ref b)]) C.1 C.2.1 dX3_findRings_35 hl (by decide) rfl (fun ls hl => ?_)
          refine lv_iload_n C.1 C.2.1 dX3_findRings_37 rfl (lv_at hl 3 rfl) ?_
          refine lv_if_eq (tgt := 57) C.1 C.2.1 dX3_findRings_38 (by decide) (fun c38 => ?_) (fun c38 => ?_)
          · skip
            refine lv_aload_n C.1 C.2.1 dX3_findRings_57 rfl (lv_at hl 4 rfl) ?_
            refine lv_iload_n C.1 C.2.1 dX3_findRings_58 rfl (lv_at hl 2 rfl) ?_
            refine cxV (b := b) (As := [.int (nI i)]) (rest := []) (ci := 3) (q := (RX3, TX3, 6)) C (k_X3_rowLength l g b N S1 Fl hN (i) (by omega)) cf_X3_rowLength ml_X3_150 ⟨by decide, by decide⟩ ⟨rfl, rfl⟩ rfl (hR.1) rfl hl.1 rfl (Nat.le_of_ble_eq_true rfl) dX3_findRings_59 hR ⟨Nat.zero_le _, Nat.zero_le _⟩ hS (fun _ h => h) (fun H locs hR hS _ _ => ?_)
            simp only [Option.toList, List.cons_append, List.nil_append]
            have hw41 := rowL_le (N := N) (S := S1) (f := i) (by omega)
            refine lv_istore (lv' := [(5, .int (nI (rowL N S1 i))), (4, .int (nI 0)), (3, .ref (aRg b i)), (2, .int (nI i)), (1, .int (bI (allj N S N))), (0, .ref b)]) C.1 C.2.1 dX3_findRings_62 hl (by decide) rfl (fun ls hl => ?_)
            have eL : fL N (allj N S N) S1 i = rowL N S1 i := if_neg (by rw [bI_0.mp c23]; decide)
            have eC : fC (allj N S N) i = nI 0 := if_neg (by rw [bI_0.mp c23]; decide)
            refine lv_iload C.1 C.2.1 dX3_findRings_64 (lv_at hl 0 rfl) ?_
            refine lv_aload_n C.1 C.2.1 dX3_findRings_66 rfl (lv_at hl 2 rfl) ?_
            refine xR_get (j := i) C hR (by omega) 1 (by decide) rfl fl_X3_153 (v := .int (S1 21 i)) rfl dX3_findRings_67 ?_
            refine lv_re (y := nI K) (by rw [g21]) ?_
            refine lv_icmp_ne (tgt := 82) C.1 C.2.1 dX3_findRings_70 (by decide) (fun c70 => ?_) (fun c70 => ?_)
            · skip
              have c70 : ¬ (rowL N S1 i = K) := mt (nI_eq (a := rowL N S1 i) (b := K) (by omega) (by omega)).mpr c70
              refine lv_aload_n C.1 C.2.1 dX3_findRings_82 rfl (lv_at hl 5 rfl) ?_
              refine lv_aload_n C.1 C.2.1 dX3_findRings_83 rfl (lv_at hl 2 rfl) ?_
              refine lv_iload C.1 C.2.1 dX3_findRings_84 (lv_at hl 0 rfl) ?_
              refine lv_iload C.1 C.2.1 dX3_findRings_86 (lv_at hl 1 rfl) ?_
              refine cxV (b := b) (As := [.ref (aRg b i), .int (nI (rowL N S1 i)), .int (nI 0)]) (rest := []) (ci := 3) (q := (RX3, TX3, 6)) C (kx_reform l g b N S1 Fl hN hI (i) (by omega) (rowL N S1 i) (by omega) (nI 0) (Or.inl rfl)) cf_X3_reform ml_X3_159 ⟨by decide, by decide⟩ ⟨rfl, rfl⟩ rfl (hR.1) rfl hl.1 rfl (Nat.le_of_ble_eq_true rfl) dX3_findRings_88 hR ⟨Nat.zero_le _, Nat.zero_le _⟩ hS (fun _ h => h) (fun H locs hR hS _ _ => ?_)
              obtain ⟨S2, eS2⟩ : ∃ y, y = xRef N S1 i (rowL N S1 i) (nI 0) := ⟨_, rfl⟩
              rw [← eS2] at hR
              simp only [Option.toList, List.nil_append]
              refine lv_iinc (v := nI (i + 1)) (lv' := [(2, .int (nI (i + 1))), (5, .int (nI (rowL N S1 i))), (4, .int (nI 0)), (3, .ref (aRg b i)), (1, .int (bI (allj N S N))), (0, .ref b)]) C.1 C.2.1 dX3_findRings_91 hl (k := 3) rfl (nI_add _ _) (by decide) rfl (fun ls hl => ?_)
              refine lv_goto (tgt := 7) C.1 C.2.1 dX3_findRings_94 (by decide) ?_
              have hb : frl N (allj N S N) S (i + 1) = S2 := by
                show fstep N (allj N S N) (frl N (allj N S N) S i) i = S2
                rw [← eS1, eS2]
                exact (if_neg (fun h => by rw [eL, eC, g21, nv_nI (by omega)] at h; first | exact c70 h.1 | exact c79 h.2)).trans (by rw [eL, eC])
              have hI2 : IX N (frl N (allj N S N) S (i + 1)) := fstep_IX hN (by omega) (by rw [← eS1]; exact hI)
              rw [← hb] at hR
              exact ih (i + 1) H locs ls (by omega) (by omega) hI2 hR hS (lv_sub hl [0, 4, 5] rfl)
            · skip
              have c70 : rowL N S1 i = K := (nI_eq (a := rowL N S1 i) (b := K) (by omega) (by omega)).mp c70
              refine lv_iload C.1 C.2.1 dX3_findRings_73 (lv_at hl 1 rfl) ?_
              refine lv_aload_n C.1 C.2.1 dX3_findRings_75 rfl (lv_at hl 2 rfl) ?_
              refine xR_get (j := i) C hR (by omega) 2 (by decide) rfl fl_X3_156 (v := .int (S1 22 i)) rfl dX3_findRings_76 ?_
              refine lv_icmp_eq (tgt := 91) C.1 C.2.1 dX3_findRings_79 (by decide) (fun c79 => ?_) (fun c79 => ?_)
              · skip
                refine lv_iinc (v := nI (i + 1)) (lv' := [(2, .int (nI (i + 1))), (5, .int (nI (rowL N S1 i))), (4, .int (nI 0)), (3, .ref (aRg b i)), (1, .int (bI (allj N S N))), (0, .ref b)]) C.1 C.2.1 dX3_findRings_91 hl (k := 3) rfl (nI_add _ _) (by decide) rfl (fun ls hl => ?_)
                refine lv_goto (tgt := 7) C.1 C.2.1 dX3_findRings_94 (by decide) ?_
                have hb : frl N (allj N S N) S (i + 1) = S1 := by
                  show fstep N (allj N S N) (frl N (allj N S N) S i) i = S1
                  rw [← eS1]
                  exact if_pos ⟨by rw [eL, g21, nv_nI (by omega)]; exact c70, by rw [eC]; exact c79⟩
                have hI2 : IX N (frl N (allj N S N) S (i + 1)) := fstep_IX hN (by omega) (by rw [← eS1]; exact hI)
                rw [← hb] at hR
                exact ih (i + 1) H locs ls (by omega) (by omega) hI2 hR hS (lv_sub hl [0, 4, 5] rfl)
              · skip
                refine lv_aload_n C.1 C.2.1 dX3_findRings_82 rfl (lv_at hl 5 rfl) ?_
                refine lv_aload_n C.1 C.2.1 dX3_findRings_83 rfl (lv_at hl 2 rfl) ?_
                refine lv_iload C.1 C.2.1 dX3_findRings_84 (lv_at hl 0 rfl) ?_
                refine lv_iload C.1 C.2.1 dX3_findRings_86 (lv_at hl 1 rfl) ?_
                refine cxV (b := b) (As := [.ref (aRg b i), .int (nI (rowL N S1 i)), .int (nI 0)]) (rest := []) (ci := 3) (q := (RX3, TX3, 6)) C (kx_reform l g b N S1 Fl hN hI (i) (by omega) (rowL N S1 i) (by omega) (nI 0) (Or.inl rfl)) cf_X3_reform ml_X3_159 ⟨by decide, by decide⟩ ⟨rfl, rfl⟩ rfl (hR.1) rfl hl.1 rfl (Nat.le_of_ble_eq_true rfl) dX3_findRings_88 hR ⟨Nat.zero_le _, Nat.zero_le _⟩ hS (fun _ h => h) (fun H locs hR hS _ _ => ?_)
                obtain ⟨S3, eS3⟩ : ∃ y, y = xRef N S1 i (rowL N S1 i) (nI 0) := ⟨_, rfl⟩
                rw [← eS3] at hR
                simp only [Option.toList, List.nil_append]
                refine lv_iinc (v := nI (i + 1)) (lv' := [(2, .int (nI (i + 1))), (5, .int (nI (rowL N S1 i))), (4, .int (nI 0)), (3, .ref (aRg b i)), (1, .int (bI (allj N S N))), (0, .ref b)]) C.1 C.2.1 dX3_findRings_91 hl (k := 3) rfl (nI_add _ _) (by decide) rfl (fun ls hl => ?_)
                refine lv_goto (tgt := 7) C.1 C.2.1 dX3_findRings_94 (by decide) ?_
                have hb : frl N (allj N S N) S (i + 1) = S3 := by
                  show fstep N (allj N S N) (frl N (allj N S N) S i) i = S3
                  rw [← eS1, eS3]
                  exact (if_neg (fun h => by rw [eL, eC, g21, nv_nI (by omega)] at h; first | exact c70 h.1 | exact c79 h.2)).trans (by rw [eL, eC])
                have hI2 : IX N (frl N (allj N S N) S (i + 1)) := fstep_IX hN (by omega) (by rw [← eS1]; exact hI)
                rw [← hb] at hR
                exact ih (i + 1) H locs ls (by omega) (by omega) hI2 hR hS (lv_sub hl [0, 4, 5] rfl)
          · skip
            exact absurd c23 c38
        · skip
          refine lv_iload_n C.1 C.2.1 dX3_findRings_26 rfl (lv_at hl 1 rfl) ?_
          refine lv_if_ne (tgt := 34) C.1 C.2.1 dX3_findRings_27 (by decide) (fun c27 => ?_) (fun c27 => ?_)
          · skip
            have c27 : ¬ (i = 0) := mt (nI_eq (a := i) (b := 0) (by omega) (by omega)).mpr c27
            refine lv_iconst (v := nI 0) C.1 C.2.1 dX3_findRings_34 (by decide) ?_
            refine lv_istore (lv' := [(4, .int (nI 0)), (3, .ref (aRg b i)), (2, .int (nI i)), (1, .int (bI (allj N S N))), (0, .ref b)]) C.1 C.2.1 dX3_findRings_35 hl (by decide) rfl (fun ls hl => ?_)
            refine lv_iload_n C.1 C.2.1 dX3_findRings_37 rfl (lv_at hl 3 rfl) ?_
            refine lv_if_eq (tgt := 57) C.1 C.2.1 dX3_findRings_38 (by decide) (fun c38 => ?_) (fun c38 => ?_)
            · skip
              exact absurd c38 c23
            · skip
              refine lv_iload C.1 C.2.1 dX3_findRings_41 (lv_at hl 0 rfl) ?_
              refine lv_if_eq (tgt := 53) C.1 C.2.1 dX3_findRings_43 (by decide) (fun c43 => ?_) (fun c43 => ?_)
              · skip
                refine lv_iconst (v := nI 0) C.1 C.2.1 dX3_findRings_53 (by decide) ?_
                refine lv_goto (tgt := 62) C.1 C.2.1 dX3_findRings_54 (by decide) ?_
                refine lv_istore (lv' := [(5, .int (nI 0)), (4, .int (nI 0)), (3, .ref (aRg b i)), (2, .int (nI i)), (1, .int (bI (allj N S N))), (0, .ref b)]) C.1 C.2.1 dX3_findRings_62 hl (by decide) rfl (fun ls hl => ?_)
                have eL : fL N (allj N S N) S1 i = 0 := (if_pos (bI_n0.mp c23)).trans (if_neg c27)
                have eC : fC (allj N S N) i = nI 0 := (if_pos (bI_n0.mp c23)).trans (if_neg c27)
                refine lv_iload C.1 C.2.1 dX3_findRings_64 (lv_at hl 0 rfl) ?_
                refine lv_aload_n C.1 C.2.1 dX3_findRings_66 rfl (lv_at hl 2 rfl) ?_
                refine xR_get (j := i) C hR (by omega) 1 (by decide) rfl fl_X3_153 (v := .int (S1 21 i)) rfl dX3_findRings_67 ?_
                refine lv_re (y := nI K) (by rw [g21]) ?_
                refine lv_icmp_ne (tgt := 82) C.1 C.2.1 dX3_findRings_70 (by decide) (fun c70 => ?_) (fun c70 => ?_)
                · skip
                  have c70 : ¬ (0 = K) := mt (nI_eq (a := 0) (b := K) (by omega) (by omega)).mpr c70
                  refine lv_aload_n C.1 C.2.1 dX3_findRings_82 rfl (lv_at hl 5 rfl) ?_
                  refine lv_aload_n C.1 C.2.1 dX3_findRings_83 rfl (lv_at hl 2 rfl) ?_
                  refine lv_iload C.1 C.2.1 dX3_findRings_84 (lv_at hl 0 rfl) ?_
                  refine lv_iload C.1 C.2.1 dX3_findRings_86 (lv_at hl 1 rfl) ?_
                  refine cxV (b := b) (As := [.ref (aRg b i), .int (nI 0), .int (nI 0)]) (rest := []) (ci := 3) (q := (RX3, TX3, 6)) C (kx_reform l g b N S1 Fl hN hI (i) (by omega) (0) (by omega) (nI 0) (Or.inl rfl)) cf_X3_reform ml_X3_159 ⟨by decide, by decide⟩ ⟨rfl, rfl⟩ rfl (hR.1) rfl hl.1 rfl (Nat.le_of_ble_eq_true rfl) dX3_findRings_88 hR ⟨Nat.zero_le _, Nat.zero_le _⟩ hS (fun _ h => h) (fun H locs hR hS _ _ => ?_)
                  obtain ⟨S4, eS4⟩ : ∃ y, y = xRef N S1 i 0 (nI 0) := ⟨_, rfl⟩
                  rw [← eS4] at hR
                  simp only [Option.toList, List.nil_append]
                  refine lv_iinc (v := nI (i + 1)) (lv' := [(2, .int (nI (i + 1))), (5, .int (nI 0)), (4, .int (nI 0)), (3, .ref (aRg b i)), (1, .int (bI (allj N S N))), (0, .ref b)]) C.1 C.2.1 dX3_findRings_91 hl (k := 3) rfl (nI_add _ _) (by decide) rfl (fun ls hl => ?_)
                  refine lv_goto (tgt := 7) C.1 C.2.1 dX3_findRings_94 (by decide) ?_
                  have hb : frl N (allj N S N) S (i + 1) = S4 := by
                    show fstep N (allj N S N) (frl N (allj N S N) S i) i = S4
                    rw [← eS1, eS4]
                    exact (if_neg (fun h => by rw [eL, eC, g21, nv_nI (by omega)] at h; first | exact c70 h.1 | exact c79 h.2)).trans (by rw [eL, eC])
                  have hI2 : IX N (frl N (allj N S N) S (i + 1)) := fstep_IX hN (by omega) (by rw [← eS1]; exact hI)
                  rw [← hb] at hR
                  exact ih (i + 1) H locs ls (by omega) (by omega) hI2 hR hS (lv_sub hl [0, 4, 5] rfl)
                · skip
                  have c70 : 0 = K := (nI_eq (a := 0) (b := K) (by omega) (by omega)).mp c70
                  refine lv_iload C.1 C.2.1 dX3_findRings_73 (lv_at hl 1 rfl) ?_
                  refine lv_aload_n C.1 C.2.1 dX3_findRings_75 rfl (lv_at hl 2 rfl) ?_
                  refine xR_get (j := i) C hR (by omega) 2 (by decide) rfl fl_X3_156 (v := .int (S1 22 i)) rfl dX3_findRings_76 ?_
                  refine lv_icmp_eq (tgt := 91) C.1 C.2.1 dX3_findRings_79 (by decide) (fun c79 => ?_) (fun c79 => ?_)
                  · skip
                    refine lv_iinc (v := nI (i + 1)) (lv' := [(2, .int (nI (i + 1))), (5, .int (nI 0)), (4, .int (nI 0)), (3, .ref (aRg b i)), (1, .int (bI (allj N S N))), (0, .ref b)]) C.1 C.2.1 dX3_findRings_91 hl (k := 3) rfl (nI_add _ _) (by decide) rfl (fun ls hl => ?_)
                    refine lv_goto (tgt := 7) C.1 C.2.1 dX3_findRings_94 (by decide) ?_
                    have hb : frl N (allj N S N) S (i + 1) = S1 := by
                      show fstep N (allj N S N) (frl N (allj N S N) S i) i = S1
                      rw [← eS1]
                      exact if_pos ⟨by rw [eL, g21, nv_nI (by omega)]; exact c70, by rw [eC]; exact c79⟩
                    have hI2 : IX N (frl N (allj N S N) S (i + 1)) := fstep_IX hN (by omega) (by rw [← eS1]; exact hI)
                    rw [← hb] at hR
                    exact ih (i + 1) H locs ls (by omega) (by omega) hI2 hR hS (lv_sub hl [0, 4, 5] rfl)
                  · skip
                    refine lv_aload_n C.1 C.2.1 dX3_findRings_82 rfl (lv_at hl 5 rfl) ?_
                    refine lv_aload_n C.1 C.2.1 dX3_findRings_83 rfl (lv_at hl 2 rfl) ?_
                    refine lv_iload C.1 C.2.1 dX3_findRings_84 (lv_at hl 0 rfl) ?_
                    refine lv_iload C.1 C.2.1 dX3_findRings_86 (lv_at hl 1 rfl) ?_
                    refine cxV (b := b) (As := [.ref (aRg b i), .int (nI 0), .int (nI 0)]) (rest := []) (ci := 3) (q := (RX3, TX3, 6)) C (kx_reform l g b N S1 Fl hN hI (i) (by omega) (0) (by omega) (nI 0) (Or.inl rfl)) cf_X3_reform ml_X3_159 ⟨by decide, by decide⟩ ⟨rfl, rfl⟩ rfl (hR.1) rfl hl.1 rfl (Nat.le_of_ble_eq_true rfl) dX3_findRings_88 hR ⟨Nat.zero_le _, Nat.zero_le _⟩ hS (fun _ h => h) (fun H locs hR hS _ _ => ?_)
                    obtain ⟨S5, eS5⟩ : ∃ y, y = xRef N S1 i 0 (nI 0) := ⟨_, rfl⟩
                    rw [← eS5] at hR
                    simp only [Option.toList, List.nil_append]
                    refine lv_iinc (v := nI (i + 1)) (lv' := [(2, .int (nI (i + 1))), (5, .int (nI 0)), (4, .int (nI 0)), (3, .ref (aRg b i)), (1, .int (bI (allj N S N))), (0, .ref b)]) C.1 C.2.1 dX3_findRings_91 hl (k := 3) rfl (nI_add _ _) (by decide) rfl (fun ls hl => ?_)
                    refine lv_goto (tgt := 7) C.1 C.2.1 dX3_findRings_94 (by decide) ?_
                    have hb : frl N (allj N S N) S (i + 1) = S5 := by
                      show fstep N (allj N S N) (frl N (allj N S N) S i) i = S5
                      rw [← eS1, eS5]
                      exact (if_neg (fun h => by rw [eL, eC, g21, nv_nI (by omega)] at h; first | exact c70 h.1 | exact c79 h.2)).trans (by rw [eL, eC])
                    have hI2 : IX N (frl N (allj N S N) S (i + 1)) := fstep_IX hN (by omega) (by rw [← eS1]; exact hI)
                    rw [← hb] at hR
                    exact ih (i + 1) H locs ls (by omega) (by omega) hI2 hR hS (lv_sub hl [0, 4, 5] rfl)
              · skip
                exact absurd c43 (by decide)
          · skip
            have c27 : i = 0 := (nI_eq (a := i) (b := 0) (by omega) (by omega)).mp c27
            refine lv_iconst (v := nI 1) C.1 C.2.1 dX3_findRings_30 (by decide) ?_
            refine lv_goto (tgt := 35) C.1 C.2.1 dX3_findRings_31 (by decide) ?_
            refine lv_istore (lv' := [(4, .int (nI 1)), (3, .ref (aRg b i)), (2, .int (nI i)), (1, .int (bI (allj N S N))), (0, .ref b)]) C.1 C.2.1 dX3_findRings_35 hl (by decide) rfl (fun ls hl => ?_)
            refine lv_iload_n C.1 C.2.1 dX3_findRings_37 rfl (lv_at hl 3 rfl) ?_
            refine lv_if_eq (tgt := 57) C.1 C.2.1 dX3_findRings_38 (by decide) (fun c38 => ?_) (fun c38 => ?_)
            · skip
              exact absurd c38 c23
            · skip
              refine lv_iload C.1 C.2.1 dX3_findRings_41 (lv_at hl 0 rfl) ?_
              refine lv_if_eq (tgt := 53) C.1 C.2.1 dX3_findRings_43 (by decide) (fun c43 => ?_) (fun c43 => ?_)
              · skip
                exact absurd c43 (by decide)
              · skip
                refine lv_aload_n C.1 C.2.1 dX3_findRings_46 rfl (lv_at hl 4 rfl) ?_
                refine xO_get C hR 0 (by decide) rfl fl_X3_9 (v := .int (nI N)) rfl dX3_findRings_47 ?_
                refine lv_goto (tgt := 62) C.1 C.2.1 dX3_findRings_50 (by decide) ?_
                refine lv_istore (lv' := [(5, .int (nI N)), (4, .int (nI 1)), (3, .ref (aRg b i)), (2, .int (nI i)), (1, .int (bI (allj N S N))), (0, .ref b)]) C.1 C.2.1 dX3_findRings_62 hl (by decide) rfl (fun ls hl => ?_)
                have eL : fL N (allj N S N) S1 i = N := (if_pos (bI_n0.mp c23)).trans (if_pos c27)
                have eC : fC (allj N S N) i = nI 1 := (if_pos (bI_n0.mp c23)).trans (if_pos c27)
                refine lv_iload C.1 C.2.1 dX3_findRings_64 (lv_at hl 0 rfl) ?_
                refine lv_aload_n C.1 C.2.1 dX3_findRings_66 rfl (lv_at hl 2 rfl) ?_
                refine xR_get (j := i) C hR (by omega) 1 (by decide) rfl fl_X3_153 (v := .int (S1 21 i)) rfl dX3_findRings_67 ?_
                refine lv_re (y := nI K) (by rw [g21]) ?_
                refine lv_icmp_ne (tgt := 82) C.1 C.2.1 dX3_findRings_70 (by decide) (fun c70 => ?_) (fun c70 => ?_)
                · skip
                  have c70 : ¬ (N = K) := mt (nI_eq (a := N) (b := K) (by omega) (by omega)).mpr c70
                  refine lv_aload_n C.1 C.2.1 dX3_findRings_82 rfl (lv_at hl 5 rfl) ?_
                  refine lv_aload_n C.1 C.2.1 dX3_findRings_83 rfl (lv_at hl 2 rfl) ?_
                  refine lv_iload C.1 C.2.1 dX3_findRings_84 (lv_at hl 0 rfl) ?_
                  refine lv_iload C.1 C.2.1 dX3_findRings_86 (lv_at hl 1 rfl) ?_
                  refine cxV (b := b) (As := [.ref (aRg b i), .int (nI N), .int (nI 1)]) (rest := []) (ci := 3) (q := (RX3, TX3, 6)) C (kx_reform l g b N S1 Fl hN hI (i) (by omega) (N) (by omega) (nI 1) (Or.inr rfl)) cf_X3_reform ml_X3_159 ⟨by decide, by decide⟩ ⟨rfl, rfl⟩ rfl (hR.1) rfl hl.1 rfl (Nat.le_of_ble_eq_true rfl) dX3_findRings_88 hR ⟨Nat.zero_le _, Nat.zero_le _⟩ hS (fun _ h => h) (fun H locs hR hS _ _ => ?_)
                  obtain ⟨S6, eS6⟩ : ∃ y, y = xRef N S1 i N (nI 1) := ⟨_, rfl⟩
                  rw [← eS6] at hR
                  simp only [Option.toList, List.nil_append]
                  refine lv_iinc (v := nI (i + 1)) (lv' := [(2, .int (nI (i + 1))), (5, .int (nI N)), (4, .int (nI 1)), (3, .ref (aRg b i)), (1, .int (bI (allj N S N))), (0, .ref b)]) C.1 C.2.1 dX3_findRings_91 hl (k := 3) rfl (nI_add _ _) (by decide) rfl (fun ls hl => ?_)
                  refine lv_goto (tgt := 7) C.1 C.2.1 dX3_findRings_94 (by decide) ?_
                  have hb : frl N (allj N S N) S (i + 1) = S6 := by
                    show fstep N (allj N S N) (frl N (allj N S N) S i) i = S6
                    rw [← eS1, eS6]
                    exact (if_neg (fun h => by rw [eL, eC, g21, nv_nI (by omega)] at h; first | exact c70 h.1 | exact c79 h.2)).trans (by rw [eL, eC])
                  have hI2 : IX N (frl N (allj N S N) S (i + 1)) := fstep_IX hN (by omega) (by rw [← eS1]; exact hI)
                  rw [← hb] at hR
                  exact ih (i + 1) H locs ls (by omega) (by omega) hI2 hR hS (lv_sub hl [0, 4, 5] rfl)
                · skip
                  have c70 : N = K := (nI_eq (a := N) (b := K) (by omega) (by omega)).mp c70
                  refine lv_iload C.1 C.2.1 dX3_findRings_73 (lv_at hl 1 rfl) ?_
                  refine lv_aload_n C.1 C.2.1 dX3_findRings_75 rfl (lv_at hl 2 rfl) ?_
                  refine xR_get (j := i) C hR (by omega) 2 (by decide) rfl fl_X3_156 (v := .int (S1 22 i)) rfl dX3_findRings_76 ?_
                  refine lv_icmp_eq (tgt := 91) C.1 C.2.1 dX3_findRings_79 (by decide) (fun c79 => ?_) (fun c79 => ?_)
                  · skip
                    refine lv_iinc (v := nI (i + 1)) (lv' := [(2, .int (nI (i + 1))), (5, .int (nI N)), (4, .int (nI 1)), (3, .ref (aRg b i)), (1, .int (bI (allj N S N))), (0, .ref b)]) C.1 C.2.1 dX3_findRings_91 hl (k := 3) rfl (nI_add _ _) (by decide) rfl (fun ls hl => ?_)
                    refine lv_goto (tgt := 7) C.1 C.2.1 dX3_findRings_94 (by decide) ?_
                    have hb : frl N (allj N S N) S (i + 1) = S1 := by
                      show fstep N (allj N S N) (frl N (allj N S N) S i) i = S1
                      rw [← eS1]
                      exact if_pos ⟨by rw [eL, g21, nv_nI (by omega)]; exact c70, by rw [eC]; exact c79⟩
                    have hI2 : IX N (frl N (allj N S N) S (i + 1)) := fstep_IX hN (by omega) (by rw [← eS1]; exact hI)
                    rw [← hb] at hR
                    exact ih (i + 1) H locs ls (by omega) (by omega) hI2 hR hS (lv_sub hl [0, 4, 5] rfl)
                  · skip
                    refine lv_aload_n C.1 C.2.1 dX3_findRings_82 rfl (lv_at hl 5 rfl) ?_
                    refine lv_aload_n C.1 C.2.1 dX3_findRings_83 rfl (lv_at hl 2 rfl) ?_
                    refine lv_iload C.1 C.2.1 dX3_findRings_84 (lv_at hl 0 rfl) ?_
                    refine lv_iload C.1 C.2.1 dX3_findRings_86 (lv_at hl 1 rfl) ?_
                    refine cxV (b := b) (As := [.ref (aRg b i), .int (nI N), .int (nI 1)]) (rest := []) (ci := 3) (q := (RX3, TX3, 6)) C (kx_reform l g b N S1 Fl hN hI (i) (by omega) (N) (by omega) (nI 1) (Or.inr rfl)) cf_X3_reform ml_X3_159 ⟨by decide, by decide⟩ ⟨rfl, rfl⟩ rfl (hR.1) rfl hl.1 rfl (Nat.le_of_ble_eq_true rfl) dX3_findRings_88 hR ⟨Nat.zero_le _, Nat.zero_le _⟩ hS (fun _ h => h) (fun H locs hR hS _ _ => ?_)
                    obtain ⟨S7, eS7⟩ : ∃ y, y = xRef N S1 i N (nI 1) := ⟨_, rfl⟩
                    rw [← eS7] at hR
                    simp only [Option.toList, List.nil_append]
                    refine lv_iinc (v := nI (i + 1)) (lv' := [(2, .int (nI (i + 1))), (5, .int (nI N)), (4, .int (nI 1)), (3, .ref (aRg b i)), (1, .int (bI (allj N S N))), (0, .ref b)]) C.1 C.2.1 dX3_findRings_91 hl (k := 3) rfl (nI_add _ _) (by decide) rfl (fun ls hl => ?_)
                    refine lv_goto (tgt := 7) C.1 C.2.1 dX3_findRings_94 (by decide) ?_
                    have hb : frl N (allj N S N) S (i + 1) = S7 := by
                      show fstep N (allj N S N) (frl N (allj N S N) S i) i = S7
                      rw [← eS1, eS7]
                      exact (if_neg (fun h => by rw [eL, eC, g21, nv_nI (by omega)] at h; first | exact c70 h.1 | exact c79 h.2)).trans (by rw [eL, eC])
                    have hI2 : IX N (frl N (allj N S N) S (i + 1)) := fstep_IX hN (by omega) (by rw [← eS1]; exact hI)
                    rw [← hb] at hR
                    exact ih (i + 1) H locs ls (by omega) (by omega) hI2 hR hS (lv_sub hl [0, 4, 5] rfl)
  exact lp _ 0 _ _ ls (Nat.lt_succ_self _) (by omega) hI hR hS (lv_sub hl [0, 1, 2] rfl)

set_option maxHeartbeats 4000000 in
set_option maxRecDepth 100000 in
theorem k_X3_cable_bad (l : Launch) (g : GX) (b N : Nat) (S : SX) (Fl : FX) (hN : N ≤ 6) (x on : Int32) (hb : bad N x)  : MR l yX3_cable (.code yX3_cable cX3_cable 3 (some .boolean) :: tb) (rmk 5 116) g (RepX g b N S Fl) (RepX g b N S Fl) (AX b N) [.ref b, .int x, .int on] (some (.int (nI 0))) := by
  refine MR.start RX3 (by decide) rfl (Nat.le_of_ble_eq_true rfl) (fun zp ze zs zm zb zt zc ls C hr hlk hR hS hl => ?_)
  have hl : lv_has ls 3 [(0, .ref b), (1, .int x), (2, .int on)] := hl
  refine lv_aload_n C.1 C.2.1 dX3_cable_0 rfl (lv_at hl 0 rfl) ?_
  refine lv_iload_n C.1 C.2.1 dX3_cable_1 rfl (lv_at hl 1 rfl) ?_
  refine cxV (b := b) (As := [.int x]) (rest := []) (ci := 3) (q := (RX3, TX3, 6)) C (kis_bad l g b N S Fl hN x hb) cf_X3_isStation ml_X3_36 ⟨by decide, by decide⟩ ⟨rfl, rfl⟩ rfl (hR.1) rfl hl.1 rfl (Nat.le_of_ble_eq_true rfl) dX3_cable_2 hR ⟨Nat.zero_le _, Nat.zero_le _⟩ hS (fun _ h => h) (fun H locs hR hS _ _ => ?_)
  simp only [Option.toList, List.cons_append, List.nil_append]
  refine lv_if_eq (tgt := 18) C.1 C.2.1 dX3_cable_5 (by decide) (fun c5 => ?_) (fun c5 => ?_)
  · skip
    refine lv_iconst (v := nI 0) C.1 C.2.1 dX3_cable_18 (by decide) ?_
    skip
    exact endz C hr hlk (Or.inl rfl) hR hS dX3_cable_19
  · skip
    exact absurd c5 (by decide)

def s_X3_cable_ok (S : SX) (N : Nat) (j : Nat) (on : Int32) : SX := if S 40 j = on then S else (frl N (allj N (up2 S 40 j on) N) (up2 S 40 j on) N)
def r_X3_cable_ok (S : SX) (j : Nat) (on : Int32) : Int32 := if S 40 j = on then (nI 0) else (nI 1)
set_option maxHeartbeats 4000000 in
set_option maxRecDepth 100000 in
theorem k_X3_cable_ok (l : Launch) (g : GX) (b N : Nat) (S : SX) (Fl : FX) (hN : N ≤ 6) (j : Nat) (hj : j < N) (on : Int32) (hon : on = 0 ∨ on = 1) (hI : IX N S)  : MR l yX3_cable (.code yX3_cable cX3_cable 3 (some .boolean) :: tb) (rmk 5 116) g (RepX g b N S Fl) (RepX g b N (s_X3_cable_ok S N j on) Fl) (AX b N) [.ref b, .int (nI j), .int on] (some (.int (r_X3_cable_ok S j on))) := by
  refine MR.start RX3 (by decide) rfl (Nat.le_of_ble_eq_true rfl) (fun zp ze zs zm zb zt zc ls C hr hlk hR hS hl => ?_)
  have hl : lv_has ls 3 [(0, .ref b), (1, .int (nI j)), (2, .int on)] := hl
  refine lv_aload_n C.1 C.2.1 dX3_cable_0 rfl (lv_at hl 0 rfl) ?_
  refine lv_iload_n C.1 C.2.1 dX3_cable_1 rfl (lv_at hl 1 rfl) ?_
  refine cxV (b := b) (As := [.int (nI j)]) (rest := []) (ci := 3) (q := (RX3, TX3, 6)) C (kis_ok l g b N S Fl hN j (by omega)) cf_X3_isStation ml_X3_36 ⟨by decide, by decide⟩ ⟨rfl, rfl⟩ rfl (hR.1) rfl hl.1 rfl (Nat.le_of_ble_eq_true rfl) dX3_cable_2 hR ⟨Nat.zero_le _, Nat.zero_le _⟩ hS (fun _ h => h) (fun H locs hR hS _ _ => ?_)
  simp only [Option.toList, List.cons_append, List.nil_append]
  refine lv_if_eq (tgt := 18) C.1 C.2.1 dX3_cable_5 (by decide) (fun c5 => ?_) (fun c5 => ?_)
  · skip
    exact absurd c5 (by decide)
  · skip
    refine lv_aload_n C.1 C.2.1 dX3_cable_8 rfl (lv_at hl 0 rfl) ?_
    refine xO_get C hR 2 (by decide) rfl fl_X3_19 (v := .ref (b + 2)) rfl dX3_cable_9 ?_
    refine lv_iload_n C.1 C.2.1 dX3_cable_12 rfl (lv_at hl 1 rfl) ?_
    refine xC_ld (j := j) C hR (by omega) hN dX3_cable_13 ?_
    refine lv_iload_n C.1 C.2.1 dX3_cable_14 rfl (lv_at hl 2 rfl) ?_
    refine lv_icmp_ne (tgt := 20) C.1 C.2.1 dX3_cable_15 (by decide) (fun c15 => ?_) (fun c15 => ?_)
    · skip
      refine lv_aload_n C.1 C.2.1 dX3_cable_20 rfl (lv_at hl 0 rfl) ?_
      refine xO_get C hR 2 (by decide) rfl fl_X3_19 (v := .ref (b + 2)) rfl dX3_cable_21 ?_
      refine lv_iload_n C.1 C.2.1 dX3_cable_24 rfl (lv_at hl 1 rfl) ?_
      refine lv_iload_n C.1 C.2.1 dX3_cable_25 rfl (lv_at hl 2 rfl) ?_
      refine xC_st (j := j) C hR hS (by omega) hN hon dX3_cable_26 (fun S1 H locs eS1 hR hS => ?_)
      refine lv_aload_n C.1 C.2.1 dX3_cable_27 rfl (lv_at hl 0 rfl) ?_
      refine cxV (b := b) (As := []) (rest := []) (ci := 3) (q := (RX3, TX3, 6)) C (k_X3_findRings l g b N S1 Fl hN (by rw [eS1]; exact up_IX hI (by decide) (by decide) (by decide) (by decide) (by decide))) cf_X3_findRings ml_X3_33 ⟨by decide, by decide⟩ ⟨rfl, rfl⟩ rfl (hR.1) rfl hl.1 rfl (Nat.le_of_ble_eq_true rfl) dX3_cable_28 hR ⟨Nat.zero_le _, Nat.zero_le _⟩ hS (fun _ h => h) (fun H locs hR hS _ _ => ?_)
      obtain ⟨S2, eS2⟩ : ∃ y, y = frl N (allj N S1 N) S1 N := ⟨_, rfl⟩
      rw [← eS2] at hR
      simp only [Option.toList, List.nil_append]
      refine lv_iconst (v := nI 1) C.1 C.2.1 dX3_cable_31 (by decide) ?_
      have hs : s_X3_cable_ok S N j on = S2 := (if_neg c15).trans (by rw [eS2, eS1])
      rw [hs]
      have hv : r_X3_cable_ok S j on = nI 1 := (if_neg c15).trans (rfl)
      rw [hv]
      exact endz C hr hlk (Or.inr rfl) hR hS dX3_cable_32
    · skip
      refine lv_iconst (v := nI 0) C.1 C.2.1 dX3_cable_18 (by decide) ?_
      have hs : s_X3_cable_ok S N j on = S := (if_pos c15).trans (rfl)
      rw [hs]
      have hv : r_X3_cable_ok S j on = nI 0 := (if_pos c15).trans (rfl)
      rw [hv]
      exact endz C hr hlk (Or.inl rfl) hR hS dX3_cable_19

set_option maxHeartbeats 4000000 in
set_option maxRecDepth 100000 in
theorem k_X3_power_bad (l : Launch) (g : GX) (b N : Nat) (S : SX) (Fl : FX) (hN : N ≤ 6) (x on : Int32) (hb : bad N x)  : MR l yX3_power (.code yX3_power cX3_power 3 (some .boolean) :: tb) (rmk 5 116) g (RepX g b N S Fl) (RepX g b N S Fl) (AX b N) [.ref b, .int x, .int on] (some (.int (nI 0))) := by
  refine MR.start RX3 (by decide) rfl (Nat.le_of_ble_eq_true rfl) (fun zp ze zs zm zb zt zc ls C hr hlk hR hS hl => ?_)
  have hl : lv_has ls 3 [(0, .ref b), (1, .int x), (2, .int on)] := hl
  refine lv_aload_n C.1 C.2.1 dX3_power_0 rfl (lv_at hl 0 rfl) ?_
  refine lv_iload_n C.1 C.2.1 dX3_power_1 rfl (lv_at hl 1 rfl) ?_
  refine cxV (b := b) (As := [.int x]) (rest := []) (ci := 3) (q := (RX3, TX3, 6)) C (kis_bad l g b N S Fl hN x hb) cf_X3_isStation ml_X3_36 ⟨by decide, by decide⟩ ⟨rfl, rfl⟩ rfl (hR.1) rfl hl.1 rfl (Nat.le_of_ble_eq_true rfl) dX3_power_2 hR ⟨Nat.zero_le _, Nat.zero_le _⟩ hS (fun _ h => h) (fun H locs hR hS _ _ => ?_)
  simp only [Option.toList, List.cons_append, List.nil_append]
  refine lv_if_eq (tgt := 21) C.1 C.2.1 dX3_power_5 (by decide) (fun c5 => ?_) (fun c5 => ?_)
  · skip
    refine lv_iconst (v := nI 0) C.1 C.2.1 dX3_power_21 (by decide) ?_
    skip
    exact endz C hr hlk (Or.inl rfl) hR hS dX3_power_22
  · skip
    exact absurd c5 (by decide)

def s_X3_power_ok (S : SX) (N : Nat) (j : Nat) (on : Int32) : SX := if S 2 j = on then S else (if on = 0 then (s_X2_leaveRing (frl N (allj N (up2 S 2 j on) N) (up2 S 2 j on) N) (j)) else (frl N (allj N (up2 S 2 j on) N) (up2 S 2 j on) N))
def r_X3_power_ok (S : SX) (j : Nat) (on : Int32) : Int32 := if S 2 j = on then (nI 0) else (nI 1)
set_option maxHeartbeats 4000000 in
set_option maxRecDepth 100000 in
theorem k_X3_power_ok (l : Launch) (g : GX) (b N : Nat) (S : SX) (Fl : FX) (hN : N ≤ 6) (j : Nat) (hj : j < N) (on : Int32) (hon : on = 0 ∨ on = 1) (hI : IX N S)  : MR l yX3_power (.code yX3_power cX3_power 3 (some .boolean) :: tb) (rmk 5 116) g (RepX g b N S Fl) (RepX g b N (s_X3_power_ok S N j on) Fl) (AX b N) [.ref b, .int (nI j), .int on] (some (.int (r_X3_power_ok S j on))) := by
  refine MR.start RX3 (by decide) rfl (Nat.le_of_ble_eq_true rfl) (fun zp ze zs zm zb zt zc ls C hr hlk hR hS hl => ?_)
  have hl : lv_has ls 3 [(0, .ref b), (1, .int (nI j)), (2, .int on)] := hl
  refine lv_aload_n C.1 C.2.1 dX3_power_0 rfl (lv_at hl 0 rfl) ?_
  refine lv_iload_n C.1 C.2.1 dX3_power_1 rfl (lv_at hl 1 rfl) ?_
  refine cxV (b := b) (As := [.int (nI j)]) (rest := []) (ci := 3) (q := (RX3, TX3, 6)) C (kis_ok l g b N S Fl hN j (by omega)) cf_X3_isStation ml_X3_36 ⟨by decide, by decide⟩ ⟨rfl, rfl⟩ rfl (hR.1) rfl hl.1 rfl (Nat.le_of_ble_eq_true rfl) dX3_power_2 hR ⟨Nat.zero_le _, Nat.zero_le _⟩ hS (fun _ h => h) (fun H locs hR hS _ _ => ?_)
  simp only [Option.toList, List.cons_append, List.nil_append]
  refine lv_if_eq (tgt := 21) C.1 C.2.1 dX3_power_5 (by decide) (fun c5 => ?_) (fun c5 => ?_)
  · skip
    exact absurd c5 (by decide)
  · skip
    refine lv_aload_n C.1 C.2.1 dX3_power_8 rfl (lv_at hl 0 rfl) ?_
    refine xO_get C hR 1 (by decide) rfl fl_X3_15 (v := .ref (b + 1)) rfl dX3_power_9 ?_
    refine lv_iload_n C.1 C.2.1 dX3_power_12 rfl (lv_at hl 1 rfl) ?_
    refine xS_ald (j := j) C hR (by omega) hN dX3_power_13 ?_
    refine xS_get (j := j) C hR (by omega) 2 (by decide) rfl fl_X3_56 (v := .int (S 2 j)) rfl dX3_power_14 ?_
    refine lv_iload_n C.1 C.2.1 dX3_power_17 rfl (lv_at hl 2 rfl) ?_
    refine lv_icmp_ne (tgt := 23) C.1 C.2.1 dX3_power_18 (by decide) (fun c18 => ?_) (fun c18 => ?_)
    · skip
      refine lv_aload_n C.1 C.2.1 dX3_power_23 rfl (lv_at hl 0 rfl) ?_
      refine xO_get C hR 1 (by decide) rfl fl_X3_15 (v := .ref (b + 1)) rfl dX3_power_24 ?_
      refine lv_iload_n C.1 C.2.1 dX3_power_27 rfl (lv_at hl 1 rfl) ?_
      refine xS_ald (j := j) C hR (by omega) hN dX3_power_28 ?_
      refine lv_iload_n C.1 C.2.1 dX3_power_29 rfl (lv_at hl 2 rfl) ?_
      refine xS_put (j := j) C hR hS (by omega) 2 (by decide) rfl rfl fl_X3_56 (nz_n hon) (nz_f hon) stS_2 dX3_power_30 (fun S1 H locs eS1 hR hS => ?_)
      refine lv_aload_n C.1 C.2.1 dX3_power_33 rfl (lv_at hl 0 rfl) ?_
      refine cxV (b := b) (As := []) (rest := []) (ci := 3) (q := (RX3, TX3, 6)) C (k_X3_findRings l g b N S1 Fl hN (by rw [eS1]; exact up_IX hI (by decide) (by decide) (by decide) (by decide) (by decide))) cf_X3_findRings ml_X3_33 ⟨by decide, by decide⟩ ⟨rfl, rfl⟩ rfl (hR.1) rfl hl.1 rfl (Nat.le_of_ble_eq_true rfl) dX3_power_34 hR ⟨Nat.zero_le _, Nat.zero_le _⟩ hS (fun _ h => h) (fun H locs hR hS _ _ => ?_)
      obtain ⟨S2, eS2⟩ : ∃ y, y = frl N (allj N S1 N) S1 N := ⟨_, rfl⟩
      rw [← eS2] at hR
      simp only [Option.toList, List.nil_append]
      refine lv_iload_n C.1 C.2.1 dX3_power_37 rfl (lv_at hl 2 rfl) ?_
      refine lv_if_ne (tgt := 50) C.1 C.2.1 dX3_power_38 (by decide) (fun c38 => ?_) (fun c38 => ?_)
      · skip
        refine lv_iconst (v := nI 1) C.1 C.2.1 dX3_power_50 (by decide) ?_
        have hs : s_X3_power_ok S N j on = S2 := (if_neg c18).trans ((if_neg c38).trans (by rw [eS2, eS1]))
        rw [hs]
        have hv : r_X3_power_ok S j on = nI 1 := (if_neg c18).trans (rfl)
        rw [hv]
        exact endz C hr hlk (Or.inr rfl) hR hS dX3_power_51
      · skip
        refine lv_aload_n C.1 C.2.1 dX3_power_41 rfl (lv_at hl 0 rfl) ?_
        refine xO_get C hR 1 (by decide) rfl fl_X3_15 (v := .ref (b + 1)) rfl dX3_power_42 ?_
        refine lv_iload_n C.1 C.2.1 dX3_power_45 rfl (lv_at hl 1 rfl) ?_
        refine xS_ald (j := j) C hR (by omega) hN dX3_power_46 ?_
        refine cxV (b := aSt b j) (As := []) (rest := []) (ci := 2) (q := (RX2, TX2, 19)) C (k_X2_leaveRing l g b N S2 Fl hN (j) (by omega)) cf_X2_leaveRing ml_X3_60 ⟨by decide, by decide⟩ ⟨rfl, rfl⟩ rfl (hR.2.2.2.2.1 _ (by omega)) rfl hl.1 rfl (Nat.le_of_ble_eq_true rfl) dX3_power_47 hR ⟨Nat.zero_le _, Nat.zero_le _⟩ hS (fun _ h => h) (fun H locs hR hS _ _ => ?_)
        obtain ⟨S3, eS3⟩ : ∃ y, y = s_X2_leaveRing S2 (j) := ⟨_, rfl⟩
        rw [← eS3] at hR
        simp only [Option.toList, List.nil_append]
        refine lv_iconst (v := nI 1) C.1 C.2.1 dX3_power_50 (by decide) ?_
        have hs : s_X3_power_ok S N j on = S3 := (if_neg c18).trans ((if_pos c38).trans (by rw [eS3, eS2, eS1]))
        rw [hs]
        have hv : r_X3_power_ok S j on = nI 1 := (if_neg c18).trans (rfl)
        rw [hv]
        exact endz C hr hlk (Or.inr rfl) hR hS dX3_power_51
    · skip
      refine lv_iconst (v := nI 0) C.1 C.2.1 dX3_power_21 (by decide) ?_
      have hs : s_X3_power_ok S N j on = S := (if_pos c18).trans (rfl)
      rw [hs]
      have hv : r_X3_power_ok S j on = nI 0 := (if_pos c18).trans (rfl)
      rw [hv]
      exact endz C hr hlk (Or.inl rfl) hR hS dX3_power_22

def xpS (N : Nat) (S : SX) (f : Nat) : SX := s_X3_passTick S N f (nv (S 25 f)) (nv (S 21 f)) (nv (S 41 (qS N S f))) (nv (S 42 (5 * qS N S f)))
def xpF (N : Nat) (S : SX) (Fl : FX) (f : Nat) : FX := f_X3_passTick S Fl N f (nv (S 25 f)) (nv (S 21 f)) (nv (S 41 (qS N S f))) (nv (S 42 (5 * qS N S f)))
theorem kx_passTick (l : Launch) (g : GX) (b N : Nat) (S : SX) (Fl : FX) (hN : N ≤ 6) (hI : IX N S) (f : Nat) (hf : f < N) (hF : ∀ j, j < N → fOK (Fl j)) (hcl : ¬ r_X1_claims S f = 0 → 1 ≤ nv (S 21 f)) : MR l yX3_passTick (.code yX3_passTick cX3_passTick 2 none :: tb) (rmk 5 115) g (RepX g b N S Fl) (RepX g b N (xpS N S f) (xpF N S Fl f)) (AX b N) [.ref b, .ref (aRg b f)] none :=
  k_X3_passTick l g b N S Fl hN f (nv (S 25 f)) (nv (S 21 f)) hf (hI.p hN hf).1 (hI.L hN hf).1 (hI.1 f hf) (hI.p hN hf).2 (hI.L hN hf).2 (nv (S 41 (qS N S f))) (nv (S 42 (5 * qS N S f))) (hI.z (hI.q hN hf)).1 (hI.t hN (i := 5 * qS N S f) (by have := hI.q hN hf; omega)).1 (hI.z (hI.q hN hf)).2 (hI.t hN (i := 5 * qS N S f) (by have := hI.q hN hf; omega)).2 (hF _ (wr_lt (by have := (hI.p hN hf).1; omega))) hcl
def xin (N : Nat) : Nat → SX × FX → SX × FX
  | 0, s => s
  | k + 1, s => (xpS N (xin N k s).1 k, xpF N (xin N k s).1 (xin N k s).2 k)
def xck (s : SX × FX) : SX × FX := (up2 s.1 45 0 (s.1 45 0 + nI 1), s.2)
def xtk (N : Nat) : Nat → SX × FX → SX × FX
  | 0, s => s
  | k + 1, s => xin N N (xck (xtk N k s))
def PX (N : Nat) (P : SX → FX → Prop) : Prop := (∀ U V, P U V → P (up2 U 45 0 (U 45 0 + nI 1)) V) ∧ (∀ U V f, f < N → P U V → P (xpS N U f) (xpF N U V f)) ∧ ∀ U V, P U V → IX N U ∧ (∀ j, j < N → fOK (V j)) ∧ ∀ f, f < N → ¬ r_X1_claims U f = 0 → 1 ≤ nv (U 21 f)
theorem xin_P {N : Nat} {P : SX → FX → Prop} (hP : PX N P) : ∀ (k : Nat) (s : SX × FX), k ≤ N → P s.1 s.2 → P (xin N k s).1 (xin N k s).2 := by
  intro k
  induction k with
  | zero => intro s _ h; exact h
  | succ k ih => intro s hk h; exact hP.2.1 _ _ k (by omega) (ih s (by omega) h)
set_option maxHeartbeats 4000000 in
set_option maxRecDepth 100000 in
theorem k_X3_tick_bad (l : Launch) (g : GX) (b N : Nat) (S : SX) (Fl : FX) (hN : N ≤ 6) (x : Int32) (hx : x < nI 1 ∨ ¬ x ≤ nI 100) : MR l yX3_tick (.code yX3_tick cX3_tick 4 (some .boolean) :: tb) (rmk 6 136) g (RepX g b N S Fl) (RepX g b N S Fl) (AX b N) [.ref b, .int x] (some (.int (nI 0))) := by
  refine MR.start RX3 (by decide) rfl (Nat.le_of_ble_eq_true rfl) (fun zp ze zs zm zb zt zc ls C hr hlk hR hS hl => ?_)
  have hl : lv_has ls 4 [(0, .ref b), (1, .int x)] := hl
  refine lv_iload_n C.1 C.2.1 dX3_tick_0 rfl (lv_at hl 1 rfl) ?_
  refine lv_iconst (v := nI 1) C.1 C.2.1 dX3_tick_1 (by decide) ?_
  refine lv_icmp_lt (tgt := 11) C.1 C.2.1 dX3_tick_2 (by decide) (fun c2 => ?_) (fun c2 => ?_)
  · skip
    refine lv_iconst (v := nI 0) C.1 C.2.1 dX3_tick_11 (by decide) ?_
    skip
    exact endz C hr hlk (Or.inl rfl) hR hS dX3_tick_12
  · skip
    refine lv_iload_n C.1 C.2.1 dX3_tick_5 rfl (lv_at hl 1 rfl) ?_
    refine lv_bipush (v := nI 100) C.1 C.2.1 dX3_tick_6 (by decide) ?_
    refine lv_icmp_le (tgt := 13) C.1 C.2.1 dX3_tick_8 (by decide) (fun c8 => ?_) (fun c8 => ?_)
    · skip
      exact absurd hx (fun h => h.elim c2 (fun h => h c8))
    · skip
      refine lv_iconst (v := nI 0) C.1 C.2.1 dX3_tick_11 (by decide) ?_
      skip
      exact endz C hr hlk (Or.inl rfl) hR hS dX3_tick_12

set_option maxHeartbeats 4000000 in
set_option maxRecDepth 100000 in
theorem k_X3_tick_ok (l : Launch) (g : GX) (b N : Nat) (S : SX) (Fl : FX) (hN : N ≤ 6) (k : Nat) (hk1 : 1 ≤ k) (hk : k ≤ 100) (P : SX → FX → Prop) (hP : PX N P) (hU : P S Fl) : MR l yX3_tick (.code yX3_tick cX3_tick 4 (some .boolean) :: tb) (rmk 6 136) g (RepX g b N S Fl) (RepX g b N (xtk N k (S, Fl)).1 (xtk N k (S, Fl)).2) (AX b N) [.ref b, .int (nI k)] (some (.int (nI 1))) := by
  refine MR.start RX3 (by decide) rfl (Nat.le_of_ble_eq_true rfl) (fun zp ze zs zm zb zt zc ls C hr hlk hR hS hl => ?_)
  have hl : lv_has ls 4 [(0, .ref b), (1, .int (nI k))] := hl
  refine lv_iload_n C.1 C.2.1 dX3_tick_0 rfl (lv_at hl 1 rfl) ?_
  refine lv_iconst (v := nI 1) C.1 C.2.1 dX3_tick_1 (by decide) ?_
  refine lv_icmp_lt (tgt := 11) C.1 C.2.1 dX3_tick_2 (by decide) (fun c2 => ?_) (fun c2 => ?_)
  · skip
    exact absurd c2 (nI_nlt (by omega) (by omega))
  · skip
    have c2 : ¬ (k < 1) := mt (nI_ltI (a := k) (b := 1) (by omega) (by omega)).mpr c2
    refine lv_iload_n C.1 C.2.1 dX3_tick_5 rfl (lv_at hl 1 rfl) ?_
    refine lv_bipush (v := nI 100) C.1 C.2.1 dX3_tick_6 (by decide) ?_
    refine lv_icmp_le (tgt := 13) C.1 C.2.1 dX3_tick_8 (by decide) (fun c8 => ?_) (fun c8 => ?_)
    · skip
      have c8 : k ≤ 100 := (nI_leI (a := k) (b := 100) (by omega) (by omega)).mp c8
      refine lv_iconst (v := nI 0) C.1 C.2.1 dX3_tick_13 (by decide) ?_
      refine lv_istore_n (lv' := [(2, .int (nI 0)), (0, .ref b), (1, .int (nI k))]) C.1 C.2.1 dX3_tick_14 rfl hl (by decide) rfl (fun ls hl => ?_)
      have lp : ∀ (n : Nat) (i : Nat) (H : Heap) (locs : List Loc) (ls : Array Slot), k - i < n → i ≤ k → P (xtk N i (S, Fl)).1 (xtk N i (S, Fl)).2 → RepX g b N ((xtk N i (S, Fl)).1) ((xtk N i (S, Fl)).2) H → va_S (AX b N) zs.heap H locs → lv_has ls 4 [(2, .int (nI i)), (0, .ref b), (1, .int (nI k))] → W zp l ze (rmk 6 136) zs zm ([.ref b, .int (nI k)] : List Value).toArray zb zt zc H locs 0 0 (MQ zb (QR (RepX g b N (xtk N k (S, Fl)).1 (xtk N k (S, Fl)).2) (AX b N) (some (.int (nI 1)))) ([.ref b, .int (nI k)] : List Value).toArray zs 0 0 (AX b N)) (F0 zm 15 ls []) := by
        intro n
        induction n with
        | zero => intro i H locs ls hm; exact absurd hm (Nat.not_lt_zero _)
        | succ n ih =>
          intro i H locs ls hm hi hU hR hS hl
          obtain ⟨S1, eS1⟩ : ∃ y, y = (xtk N i (S, Fl)).1 := ⟨_, rfl⟩
          rw [← eS1] at hR
          obtain ⟨F2, eF2⟩ : ∃ y, y = (xtk N i (S, Fl)).2 := ⟨_, rfl⟩
          rw [← eF2] at hR
          rw [← eS1, ← eF2] at hU
          refine lv_iload_n C.1 C.2.1 dX3_tick_15 rfl (lv_at hl 0 rfl) ?_
          refine lv_iload_n C.1 C.2.1 dX3_tick_16 rfl (lv_at hl 2 rfl) ?_
          refine lv_icmp_ge (tgt := 62) C.1 C.2.1 dX3_tick_17 (by decide) (fun c17 => ?_) (fun c17 => ?_)
          · skip
            have c17 : k ≤ i := (nI_leI (a := k) (b := i) (by omega) (by omega)).mp c17
            refine lv_iconst (v := nI 1) C.1 C.2.1 dX3_tick_62 (by decide) ?_
            have hik : i = k := by omega
            rw [hik] at eS1 eF2
            rw [eS1, eF2] at hR
            exact endz C hr hlk (Or.inr rfl) hR hS dX3_tick_63
          · skip
            have c17 : ¬ (k ≤ i) := mt (nI_leI (a := k) (b := i) (by omega) (by omega)).mpr c17
            refine lv_aload_n C.1 C.2.1 dX3_tick_20 rfl (lv_at hl 1 rfl) ?_
            refine lv_dup C.1 C.2.1 dX3_tick_21 rfl ?_
            refine xO_get C hR 4 (by decide) rfl fl_X3_63 (v := .int (S1 45 0)) rfl dX3_tick_22 ?_
            refine lv_iconst (v := nI 1) C.1 C.2.1 dX3_tick_25 (by decide) ?_
            refine lv_iadd C.1 C.2.1 dX3_tick_26 ?_
            refine xO_put C hR hS 4 (by decide) fl_X3_63 dX3_tick_27 (fun S3 H locs eS3 hR hS => ?_)
            refine lv_iconst (v := nI 0) C.1 C.2.1 dX3_tick_30 (by decide) ?_
            refine lv_istore_n (lv' := [(3, .int (nI 0)), (2, .int (nI i)), (0, .ref b), (1, .int (nI k))]) C.1 C.2.1 dX3_tick_31 rfl hl (by decide) rfl (fun ls hl => ?_)
            have hq1 : (xin N 0 (xck (xtk N i (S, Fl)))).1 = S3 := by rw [eS3, eS1]; rfl
            have hq2 : (xin N 0 (xck (xtk N i (S, Fl)))).2 = F2 := by rw [eF2]; rfl
            have hU2 : P (xin N 0 (xck (xtk N i (S, Fl)))).1 (xin N 0 (xck (xtk N i (S, Fl)))).2 := hP.1 _ _ (by rw [eS1, eF2] at hU; exact hU)
            rw [← hq1, ← hq2] at hR
            have lp2 : ∀ (n2 : Nat) (f : Nat) (H : Heap) (locs : List Loc) (ls : Array Slot), N - f < n2 → f ≤ N → P (xin N f (xck (xtk N i (S, Fl)))).1 (xin N f (xck (xtk N i (S, Fl)))).2 → RepX g b N ((xin N f (xck (xtk N i (S, Fl)))).1) ((xin N f (xck (xtk N i (S, Fl)))).2) H → va_S (AX b N) zs.heap H locs → lv_has ls 4 [(3, .int (nI f)), (2, .int (nI i)), (0, .ref b), (1, .int (nI k))] → W zp l ze (rmk 6 136) zs zm ([.ref b, .int (nI k)] : List Value).toArray zb zt zc H locs 0 0 (MQ zb (QR (RepX g b N (xtk N k (S, Fl)).1 (xtk N k (S, Fl)).2) (AX b N) (some (.int (nI 1)))) ([.ref b, .int (nI k)] : List Value).toArray zs 0 0 (AX b N)) (F0 zm 32 ls []) := by
              intro n2
              induction n2 with
              | zero => intro f H locs ls hm; exact absurd hm (Nat.not_lt_zero _)
              | succ n2 ih2 =>
                intro f H locs ls hm hf hU hR hS hl
                obtain ⟨S4, eS4⟩ : ∃ y, y = (xin N f (xck (xtk N i (S, Fl)))).1 := ⟨_, rfl⟩
                rw [← eS4] at hR
                obtain ⟨F5, eF5⟩ : ∃ y, y = (xin N f (xck (xtk N i (S, Fl)))).2 := ⟨_, rfl⟩
                rw [← eF5] at hR
                rw [← eS4, ← eF5] at hU
                refine lv_iload_n C.1 C.2.1 dX3_tick_32 rfl (lv_at hl 0 rfl) ?_
                refine lv_aload_n C.1 C.2.1 dX3_tick_33 rfl (lv_at hl 2 rfl) ?_
                refine xO_get C hR 0 (by decide) rfl fl_X3_9 (v := .int (nI N)) rfl dX3_tick_34 ?_
                refine lv_icmp_ge (tgt := 56) C.1 C.2.1 dX3_tick_37 (by decide) (fun c37 => ?_) (fun c37 => ?_)
                · skip
                  have c37 : N ≤ f := (nI_leI (a := N) (b := f) (by omega) (by omega)).mp c37
                  refine lv_iinc (v := nI (i + 1)) (lv' := [(2, .int (nI (i + 1))), (3, .int (nI f)), (0, .ref b), (1, .int (nI k))]) C.1 C.2.1 dX3_tick_56 hl (k := 1) rfl (nI_add _ _) (by decide) rfl (fun ls hl => ?_)
                  refine lv_goto (tgt := 15) C.1 C.2.1 dX3_tick_59 (by decide) ?_
                  have hfN : f = N := by omega
                  rw [hfN] at eS4 eF5
                  rw [eS4, eF5] at hR hU
                  exact ih (i + 1) H locs ls (by omega) (by omega) hU hR hS (lv_sub hl [0, 2, 3] rfl)
                · skip
                  have c37 : ¬ (N ≤ f) := mt (nI_leI (a := N) (b := f) (by omega) (by omega)).mpr c37
                  refine lv_aload_n C.1 C.2.1 dX3_tick_40 rfl (lv_at hl 2 rfl) ?_
                  refine lv_aload_n C.1 C.2.1 dX3_tick_41 rfl (lv_at hl 2 rfl) ?_
                  refine xO_get C hR 3 (by decide) rfl fl_X3_25 (v := .ref (b + 3)) rfl dX3_tick_42 ?_
                  refine lv_iload_n C.1 C.2.1 dX3_tick_45 rfl (lv_at hl 0 rfl) ?_
                  refine xR_ald (j := f) C hR (by omega) hN dX3_tick_46 ?_
                  refine cxV (b := b) (As := [.ref (aRg b f)]) (rest := []) (ci := 3) (q := (RX3, TX3, 6)) C (kx_passTick l g b N S4 F5 hN (hP.2.2 _ _ hU).1 (f) (by omega) (hP.2.2 _ _ hU).2.1 ((hP.2.2 _ _ hU).2.2 _ (by omega))) cf_X3_passTick ml_X3_66 ⟨by decide, by decide⟩ ⟨rfl, rfl⟩ rfl (hR.1) rfl hl.1 rfl (Nat.le_of_ble_eq_true rfl) dX3_tick_47 hR ⟨Nat.zero_le _, Nat.zero_le _⟩ hS (fun _ h => h) (fun H locs hR hS _ _ => ?_)
                  obtain ⟨S6, eS6⟩ : ∃ y, y = xpS N S4 f := ⟨_, rfl⟩
                  rw [← eS6] at hR
                  obtain ⟨F7, eF7⟩ : ∃ y, y = xpF N S4 F5 f := ⟨_, rfl⟩
                  rw [← eF7] at hR
                  simp only [Option.toList, List.nil_append]
                  refine lv_iinc (v := nI (f + 1)) (lv' := [(3, .int (nI (f + 1))), (2, .int (nI i)), (0, .ref b), (1, .int (nI k))]) C.1 C.2.1 dX3_tick_50 hl (k := 0) rfl (nI_add _ _) (by decide) rfl (fun ls hl => ?_)
                  refine lv_goto (tgt := 32) C.1 C.2.1 dX3_tick_53 (by decide) ?_
                  have hb1 : (xin N (f + 1) (xck (xtk N i (S, Fl)))).1 = S6 := by rw [eS6, eS4]; rfl
                  have hb2 : (xin N (f + 1) (xck (xtk N i (S, Fl)))).2 = F7 := by rw [eF7, eS4, eF5]; rfl
                  have hU3 : P (xin N (f + 1) (xck (xtk N i (S, Fl)))).1 (xin N (f + 1) (xck (xtk N i (S, Fl)))).2 := hP.2.1 _ _ f (by omega) (by rw [eS4, eF5] at hU; exact hU)
                  rw [← hb1, ← hb2] at hR
                  exact ih2 (f + 1) H locs ls (by omega) (by omega) hU3 hR hS (lv_sub hl [0, 1, 2, 3] rfl)
            exact lp2 _ 0 _ _ ls (Nat.lt_succ_self _) (by omega) hU2 hR hS (lv_sub hl [0, 1, 2, 3] rfl)
      exact lp _ 0 _ _ ls (Nat.lt_succ_self _) (by omega) hU hR hS (lv_sub hl [0, 1, 2] rfl)
    · skip
      exact absurd (nI_le (by omega) (by omega)) c8
end
section
def r_X4_isStation (M : SX) (N : Nat) (x : Int32) : Int32 := if x < 0 then (nI 0) else (if nI N ≤ x then (nI 0) else (nI 1))
set_option maxHeartbeats 4000000 in
set_option maxRecDepth 100000 in
theorem k_X4_isStation (l : Launch) (g : GX) (d N : Nat) (M : SX) (G : FX) (hN : N ≤ 6) (x : Int32)  : MR l yX4_isStation (.code yX4_isStation cX4_isStation 2 (some .boolean) :: tb) (rmk 0 0) g (RepM g d N M G) (RepM g d N M G) (AM d) [.ref d, .int x] (some (.int (r_X4_isStation M N x))) := by
  refine MR.start RX4 (by decide) rfl (Nat.le_of_ble_eq_true rfl) (fun zp ze zs zm zb zt zc ls C hr hlk hR hS hl => ?_)
  have hl : lv_has ls 2 [(0, .ref d), (1, .int x)] := hl
  refine lv_iload_n C.1 C.2.1 dX4_isStation_0 rfl (lv_at hl 1 rfl) ?_
  refine lv_if_lt (tgt := 16) C.1 C.2.1 dX4_isStation_1 (by decide) (fun c1 => ?_) (fun c1 => ?_)
  · skip
    refine lv_iconst (v := nI 0) C.1 C.2.1 dX4_isStation_16 (by decide) ?_
    have hv : r_X4_isStation M N x = nI 0 := (if_pos c1).trans (rfl)
    rw [hv]
    exact endz C hr hlk (Or.inl rfl) hR hS dX4_isStation_17
  · skip
    refine lv_iload_n C.1 C.2.1 dX4_isStation_4 rfl (lv_at hl 1 rfl) ?_
    refine lv_aload_n C.1 C.2.1 dX4_isStation_5 rfl (lv_at hl 0 rfl) ?_
    refine m_get C hR 0 (by decide) rfl fl_X4_111 (v := .int (nI N)) rfl dX4_isStation_6 ?_
    refine lv_icmp_ge (tgt := 16) C.1 C.2.1 dX4_isStation_9 (by decide) (fun c9 => ?_) (fun c9 => ?_)
    · skip
      refine lv_iconst (v := nI 0) C.1 C.2.1 dX4_isStation_16 (by decide) ?_
      have hv : r_X4_isStation M N x = nI 0 := (if_neg c1).trans ((if_pos c9).trans (rfl))
      rw [hv]
      exact endz C hr hlk (Or.inl rfl) hR hS dX4_isStation_17
    · skip
      refine lv_iconst (v := nI 1) C.1 C.2.1 dX4_isStation_12 (by decide) ?_
      refine lv_goto (tgt := 17) C.1 C.2.1 dX4_isStation_13 (by decide) ?_
      have hv : r_X4_isStation M N x = nI 1 := (if_neg c1).trans ((if_neg c9).trans (rfl))
      rw [hv]
      exact endz C hr hlk (Or.inr rfl) hR hS dX4_isStation_17

set_option maxHeartbeats 4000000 in
set_option maxRecDepth 100000 in
theorem k_X4_next (l : Launch) (g : GX) (d N : Nat) (M : SX) (G : FX) (hN : N ≤ 6) (j : Nat) (hj : j < N)  : MR l yX4_next (.code yX4_next cX4_next 2 (some .int) :: tb) (rmk 0 0) g (RepM g d N M G) (RepM g d N M G) (AM d) [.ref d, .int (nI j)] (some (.int (nI ((j + 1) % N)))) := by
  refine MR.start RX4 (by decide) rfl (Nat.le_of_ble_eq_true rfl) (fun zp ze zs zm zb zt zc ls C hr hlk hR hS hl => ?_)
  have hl : lv_has ls 2 [(0, .ref d), (1, .int (nI j))] := hl
  refine lv_iload_n C.1 C.2.1 dX4_next_0 rfl (lv_at hl 1 rfl) ?_
  refine lv_iconst (v := nI 1) C.1 C.2.1 dX4_next_1 (by decide) ?_
  refine n_iadd (z := j + 1) C dX4_next_2 (by omega) ?_
  refine lv_aload_n C.1 C.2.1 dX4_next_3 rfl (lv_at hl 0 rfl) ?_
  refine m_get C hR 0 (by decide) rfl fl_X4_111 (v := .int (nI N)) rfl dX4_next_4 ?_
  refine n_irem C (by omega) (by omega) (by omega) dX4_next_7 ?_
  skip
  exact endi C hr hlk hR hS dX4_next_8

set_option maxHeartbeats 4000000 in
set_option maxRecDepth 100000 in
theorem k_X4_previous (l : Launch) (g : GX) (d N : Nat) (M : SX) (G : FX) (hN : N ≤ 6) (j : Nat) (hj : j < N)  : MR l yX4_previous (.code yX4_previous cX4_previous 2 (some .int) :: tb) (rmk 0 0) g (RepM g d N M G) (RepM g d N M G) (AM d) [.ref d, .int (nI j)] (some (.int (nI ((j + N - 1) % N)))) := by
  refine MR.start RX4 (by decide) rfl (Nat.le_of_ble_eq_true rfl) (fun zp ze zs zm zb zt zc ls C hr hlk hR hS hl => ?_)
  have hl : lv_has ls 2 [(0, .ref d), (1, .int (nI j))] := hl
  refine lv_iload_n C.1 C.2.1 dX4_previous_0 rfl (lv_at hl 1 rfl) ?_
  refine lv_aload_n C.1 C.2.1 dX4_previous_1 rfl (lv_at hl 0 rfl) ?_
  refine m_get C hR 0 (by decide) rfl fl_X4_111 (v := .int (nI N)) rfl dX4_previous_2 ?_
  refine n_iadd (z := j + N) C dX4_previous_5 (by omega) ?_
  refine lv_iconst (v := nI 1) C.1 C.2.1 dX4_previous_6 (by decide) ?_
  refine n_isub C (by omega) dX4_previous_7 ?_
  refine lv_aload_n C.1 C.2.1 dX4_previous_8 rfl (lv_at hl 0 rfl) ?_
  refine m_get C hR 0 (by decide) rfl fl_X4_111 (v := .int (nI N)) rfl dX4_previous_9 ?_
  refine n_irem C (by omega) (by omega) (by omega) dX4_previous_12 ?_
  skip
  exact endi C hr hlk hR hS dX4_previous_13

theorem nx_mod {N j : Nat} (h : j < N) : (j + 1) % N = nx N j := by
  unfold nx
  split
  · next e => rw [e, show N - 1 + 1 = N by omega, Nat.mod_self]
  · exact Nat.mod_eq_of_lt (by omega)
theorem pv_mod {N j : Nat} (h : j < N) : (j + N - 1) % N = pv N j := by
  unfold pv
  split
  · next e => rw [e, Nat.mod_eq_of_lt (by omega)]; omega
  · rw [show j + N - 1 = (j - 1) + N by omega, Nat.add_mod_right, Nat.mod_eq_of_lt (by omega)]
theorem nx_wr {N i : Nat} (h : i + 1 < 2 * N) : nx N (wr N i) = wr N (i + 1) := by
  unfold nx wr
  repeat' split
  all_goals omega
theorem mn_next (l : Launch) (g : GX) (d N : Nat) (M : SX) (G : FX) (hN : N ≤ 6) (j : Nat) (hj : j < N) : MR l yX4_next (.code yX4_next cX4_next 2 (some .int) :: tb) (rmk 0 0) g (RepM g d N M G) (RepM g d N M G) (AM d) [.ref d, .int (nI j)] (some (.int (nI (nx N j)))) := by
  rw [← nx_mod hj]
  exact k_X4_next l g d N M G hN j hj
theorem mn_previous (l : Launch) (g : GX) (d N : Nat) (M : SX) (G : FX) (hN : N ≤ 6) (j : Nat) (hj : j < N) : MR l yX4_previous (.code yX4_previous cX4_previous 2 (some .int) :: tb) (rmk 0 0) g (RepM g d N M G) (RepM g d N M G) (AM d) [.ref d, .int (nI j)] (some (.int (nI (pv N j)))) := by
  rw [← pv_mod hj]
  exact k_X4_previous l g d N M G hN j hj
def r_X4_isJoined (M : SX) (N : Nat) (j : Nat) : Int32 := if M 1 j = 0 then (nI 0) else (if M 2 j = 0 then (nI 0) else (if M 1 (nx N j) = 0 then (nI 0) else (nI 1)))
set_option maxHeartbeats 4000000 in
set_option maxRecDepth 100000 in
theorem k_X4_isJoined (l : Launch) (g : GX) (d N : Nat) (M : SX) (G : FX) (hN : N ≤ 6) (j : Nat) (hj : j < N)  : MR l yX4_isJoined (.code yX4_isJoined cX4_isJoined 2 (some .boolean) :: tb) (rmk 1 21) g (RepM g d N M G) (RepM g d N M G) (AM d) [.ref d, .int (nI j)] (some (.int (r_X4_isJoined M N j))) := by
  refine MR.start RX4 (by decide) rfl (Nat.le_of_ble_eq_true rfl) (fun zp ze zs zm zb zt zc ls C hr hlk hR hS hl => ?_)
  have hl : lv_has ls 2 [(0, .ref d), (1, .int (nI j))] := hl
  refine lv_aload_n C.1 C.2.1 dX4_isJoined_0 rfl (lv_at hl 0 rfl) ?_
  refine m_get C hR 1 (by decide) rfl fl_X4_7 (v := .ref (mA d 1)) rfl dX4_isJoined_1 ?_
  refine lv_iload_n C.1 C.2.1 dX4_isJoined_4 rfl (lv_at hl 1 rfl) ?_
  refine mZ_ld (k := 1) (j := j) C hR (by simp only [mAr]; decide) rfl (show j < 6 by omega) dX4_isJoined_5 ?_
  refine lv_if_eq (tgt := 35) C.1 C.2.1 dX4_isJoined_6 (by decide) (fun c6 => ?_) (fun c6 => ?_)
  · skip
    refine lv_iconst (v := nI 0) C.1 C.2.1 dX4_isJoined_35 (by decide) ?_
    have hv : r_X4_isJoined M N j = nI 0 := (if_pos c6).trans (rfl)
    rw [hv]
    exact endz C hr hlk (Or.inl rfl) hR hS dX4_isJoined_36
  · skip
    refine lv_aload_n C.1 C.2.1 dX4_isJoined_9 rfl (lv_at hl 0 rfl) ?_
    refine m_get C hR 2 (by decide) rfl fl_X4_13 (v := .ref (mA d 2)) rfl dX4_isJoined_10 ?_
    refine lv_iload_n C.1 C.2.1 dX4_isJoined_13 rfl (lv_at hl 1 rfl) ?_
    refine mZ_ld (k := 2) (j := j) C hR (by simp only [mAr]; decide) rfl (show j < 6 by omega) dX4_isJoined_14 ?_
    refine lv_if_eq (tgt := 35) C.1 C.2.1 dX4_isJoined_15 (by decide) (fun c15 => ?_) (fun c15 => ?_)
    · skip
      refine lv_iconst (v := nI 0) C.1 C.2.1 dX4_isJoined_35 (by decide) ?_
      have hv : r_X4_isJoined M N j = nI 0 := (if_neg c6).trans ((if_pos c15).trans (rfl))
      rw [hv]
      exact endz C hr hlk (Or.inl rfl) hR hS dX4_isJoined_36
    · skip
      refine lv_aload_n C.1 C.2.1 dX4_isJoined_18 rfl (lv_at hl 0 rfl) ?_
      refine m_get C hR 1 (by decide) rfl fl_X4_7 (v := .ref (mA d 1)) rfl dX4_isJoined_19 ?_
      refine lv_aload_n C.1 C.2.1 dX4_isJoined_22 rfl (lv_at hl 0 rfl) ?_
      refine lv_iload_n C.1 C.2.1 dX4_isJoined_23 rfl (lv_at hl 1 rfl) ?_
      refine cxV (b := d) (As := [.int (nI j)]) (rest := [.ref (mA d 1)]) (ci := 4) (q := (RX4, TX4, 36)) C (mn_next l g d N M G hN (j) (by omega)) cf_X4_next ml_X4_118 ⟨by decide, by decide⟩ ⟨rfl, rfl⟩ rfl (hR.1) rfl hl.1 rfl (Nat.le_of_ble_eq_true rfl) dX4_isJoined_24 hR ⟨Nat.zero_le _, Nat.zero_le _⟩ hS (fun _ h => h) (fun H locs hR hS _ _ => ?_)
      simp only [Option.toList, List.cons_append, List.nil_append]
      have hw24 := nx_lt (N := N) (j := j) (by omega)
      refine mZ_ld (k := 1) (j := nx N j) C hR (by simp only [mAr]; decide) rfl (show nx N j < 6 by omega) dX4_isJoined_27 ?_
      refine lv_if_eq (tgt := 35) C.1 C.2.1 dX4_isJoined_28 (by decide) (fun c28 => ?_) (fun c28 => ?_)
      · skip
        refine lv_iconst (v := nI 0) C.1 C.2.1 dX4_isJoined_35 (by decide) ?_
        have hv : r_X4_isJoined M N j = nI 0 := (if_neg c6).trans ((if_neg c15).trans ((if_pos c28).trans (rfl)))
        rw [hv]
        exact endz C hr hlk (Or.inl rfl) hR hS dX4_isJoined_36
      · skip
        refine lv_iconst (v := nI 1) C.1 C.2.1 dX4_isJoined_31 (by decide) ?_
        refine lv_goto (tgt := 36) C.1 C.2.1 dX4_isJoined_32 (by decide) ?_
        have hv : r_X4_isJoined M N j = nI 1 := (if_neg c6).trans ((if_neg c15).trans ((if_neg c28).trans (rfl)))
        rw [hv]
        exact endz C hr hlk (Or.inr rfl) hR hS dX4_isJoined_36

def mjn (N : Nat) (M : SX) (j : Nat) : Bool := !(M 1 j == 0) && (!(M 2 j == 0) && !(M 1 (nx N j) == 0))
theorem mn_isJoined (l : Launch) (g : GX) (d N : Nat) (M : SX) (G : FX) (hN : N ≤ 6) (j : Nat) (hj : j < N) : MR l yX4_isJoined (.code yX4_isJoined cX4_isJoined 2 (some .boolean) :: tb) (rmk 1 21) g (RepM g d N M G) (RepM g d N M G) (AM d) [.ref d, .int (nI j)] (some (.int (bI (mjn N M j)))) := by
  have h : r_X4_isJoined M N j = bI (mjn N M j) := by
    unfold r_X4_isJoined mjn bI
    by_cases h1 : M 1 j = 0 <;> by_cases h2 : M 2 j = 0 <;> by_cases h3 : M 1 (nx N j) = 0 <;> simp [h1, h2, h3]
  rw [← h]
  exact k_X4_isJoined l g d N M G hN j hj
def mrowN (N : Nat) (M : SX) : Nat → Nat → Nat → Nat
  | 0, L, _ => L
  | n + 1, L, x => if L < N ∧ mjn N M x = true then mrowN N M n (L + 1) (nx N x) else L
theorem mrowN_stop {N : Nat} {M : SX} {k L x : Nat} (h : ¬ (L < N ∧ mjn N M x = true)) : mrowN N M k L x = L := by
  cases k with
  | zero => rfl
  | succ k => exact if_neg h
theorem mrowN_le {N : Nat} {M : SX} : ∀ (n L x : Nat), L ≤ N → mrowN N M n L x ≤ N ∧ L ≤ mrowN N M n L x := by
  intro n
  induction n with
  | zero => intro L x h; exact ⟨h, Nat.le_refl _⟩
  | succ n ih =>
    intro L x h
    simp only [mrowN]
    split
    · next hc => have := ih (L + 1) (nx N x) (by omega); omega
    · omega
def mfr (N : Nat) (M : SX) (f : Nat) : Nat → SX
  | 0 => M
  | i + 1 => up2 (mfr N M f i) 35 i (nI (wr N (f + i)))
theorem mfr_o {N : Nat} {M : SX} {f i g k : Nat} (h : g ≠ 35) : mfr N M f i g k = M g k := by
  induction i with
  | zero => rfl
  | succ i ih => simp only [mfr]; rw [up2_f h, ih]
theorem mfr_35 {N : Nat} {M : SX} {f i k : Nat} (h : k < i) : mfr N M f i 35 k = nI (wr N (f + k)) := by
  induction i with
  | zero => omega
  | succ i ih =>
    simp only [mfr]
    by_cases e : k = i
    · subst e; rw [up2_eq]
    · rw [up2_i e, ih (by omega)]
theorem mjn_c {N : Nat} {M M2 : SX} {j : Nat} (h1 : ∀ k, M2 1 k = M 1 k) (h2 : ∀ k, M2 2 k = M 2 k) : mjn N M2 j = mjn N M j := by
  unfold mjn
  rw [h1, h1, h2]
set_option maxHeartbeats 4000000 in
set_option maxRecDepth 100000 in
theorem k_X4_follow (l : Launch) (g : GX) (d N : Nat) (M : SX) (G : FX) (hN : N ≤ 6) (f : Nat) (hf : f < N) : MR l yX4_follow (.code yX4_follow cX4_follow 3 (some .int) :: tb) (rmk 2 42) g (RepM g d N M G) (RepM g d N (mfr N M f (mrowN N M 6 1 f)) G) (AM d) [.ref d, .int (nI f)] (some (.int (nI (mrowN N M 6 1 f)))) := by
  refine MR.start RX4 (by decide) rfl (Nat.le_of_ble_eq_true rfl) (fun zp ze zs zm zb zt zc ls C hr hlk hR hS hl => ?_)
  have hl : lv_has ls 3 [(0, .ref d), (1, .int (nI f))] := hl
  refine lv_iconst (v := nI 1) C.1 C.2.1 dX4_follow_0 (by decide) ?_
  refine lv_istore_n (lv' := [(2, .int (nI 1)), (0, .ref d), (1, .int (nI f))]) C.1 C.2.1 dX4_follow_1 rfl hl (by decide) rfl (fun ls hl => ?_)
  refine lv_aload_n C.1 C.2.1 dX4_follow_2 rfl (lv_at hl 1 rfl) ?_
  refine m_get C hR 35 (by decide) rfl fl_X4_108 (v := .ref (mA d 35)) rfl dX4_follow_3 ?_
  refine lv_iconst (v := nI 0) C.1 C.2.1 dX4_follow_6 (by decide) ?_
  refine lv_iload_n C.1 C.2.1 dX4_follow_7 rfl (lv_at hl 2 rfl) ?_
  refine mI_st (k := 35) (j := 0) C hR hS (by simp only [mAr]; decide) rfl (show 0 < 6 by omega) dX4_follow_8 (fun M1 H locs eM1 hR hS => ?_)
  have h0 : mfr N M f 1 = M1 := by rw [eM1]; show up2 M 35 0 (nI (wr N (f + 0))) = _; rw [show wr N (f + 0) = f from if_pos (by omega)]
  rw [← h0] at hR
  have lp : ∀ (zn : Nat) (k : Nat) (L : Nat) (H : Heap) (locs : List Loc) (ls : Array Slot), k < zn → N ≤ L + k → 1 ≤ L → L ≤ N → mrowN N M 6 1 f = mrowN N M k L (wr N (f + (L - 1))) → RepM g d N (mfr N M f L) G H → va_S (AM d) zs.heap H locs → lv_has ls 3 [(2, .int (nI L)), (0, .ref d), (1, .int (nI f))] → W zp l ze (rmk 2 42) zs zm ([.ref d, .int (nI f)] : List Value).toArray zb zt zc H locs 0 0 (MQ zb (QR (RepM g d N (mfr N M f (mrowN N M 6 1 f)) G) (AM d) (some (.int (nI (mrowN N M 6 1 f))))) ([.ref d, .int (nI f)] : List Value).toArray zs 0 0 (AM d)) (F0 zm 9 ls []) := by
    intro zn
    induction zn with
    | zero => intro k L H locs ls hm; exact absurd hm (Nat.not_lt_zero _)
    | succ zn ih =>
      intro k L H locs ls hm hk hL hLN hr2 hR hS hl
      obtain ⟨M2, eM2⟩ : ∃ y, y = mfr N M f L := ⟨_, rfl⟩
      rw [← eM2] at hR
      have hx2 := wr_lt (N := N) (i := f + (L - 1)) (by omega)
      have g35 : M2 35 (L - 1) = nI (wr N (f + (L - 1))) := by rw [eM2, mfr_35 (by omega)]
      have hjc : mjn N M2 (wr N (f + (L - 1))) = mjn N M (wr N (f + (L - 1))) := mjn_c (fun k => by rw [eM2, mfr_o (by decide)]) (fun k => by rw [eM2, mfr_o (by decide)])
      refine lv_iload_n C.1 C.2.1 dX4_follow_9 rfl (lv_at hl 0 rfl) ?_
      refine lv_aload_n C.1 C.2.1 dX4_follow_10 rfl (lv_at hl 1 rfl) ?_
      refine m_get C hR 0 (by decide) rfl fl_X4_111 (v := .int (nI N)) rfl dX4_follow_11 ?_
      refine lv_icmp_ge (tgt := 57) C.1 C.2.1 dX4_follow_14 (by decide) (fun c14 => ?_) (fun c14 => ?_)
      · skip
        have c14 : N ≤ L := (nI_leI (a := N) (b := L) (by omega) (by omega)).mp c14
        refine lv_iload_n C.1 C.2.1 dX4_follow_57 rfl (lv_at hl 0 rfl) ?_
        have hv : mrowN N M 6 1 f = L := hr2.trans (mrowN_stop (fun h => by omega))
        rw [hv]
        rw [eM2] at hR
        exact endi C hr hlk hR hS dX4_follow_58
      · skip
        have c14 : ¬ (N ≤ L) := mt (nI_leI (a := N) (b := L) (by omega) (by omega)).mpr c14
        refine lv_aload_n C.1 C.2.1 dX4_follow_17 rfl (lv_at hl 1 rfl) ?_
        refine lv_aload_n C.1 C.2.1 dX4_follow_18 rfl (lv_at hl 1 rfl) ?_
        refine m_get C hR 35 (by decide) rfl fl_X4_108 (v := .ref (mA d 35)) rfl dX4_follow_19 ?_
        refine lv_iload_n C.1 C.2.1 dX4_follow_22 rfl (lv_at hl 0 rfl) ?_
        refine lv_iconst (v := nI 1) C.1 C.2.1 dX4_follow_23 (by decide) ?_
        refine n_isub C (by omega) dX4_follow_24 ?_
        refine mI_ld (k := 35) (j := L - 1) C hR (by simp only [mAr]; decide) rfl (show L - 1 < 6 by omega) dX4_follow_25 ?_
        refine lv_re (y := nI (wr N (f + (L - 1)))) (by rw [g35]) ?_
        refine cxV (b := d) (As := [.int (nI (wr N (f + (L - 1))))]) (rest := []) (ci := 4) (q := (RX4, TX4, 36)) C (mn_isJoined l g d N M2 G hN (wr N (f + (L - 1))) (by omega)) cf_X4_isJoined ml_X4_122 ⟨by decide, by decide⟩ ⟨rfl, rfl⟩ rfl (hR.1) rfl hl.1 rfl (Nat.le_of_ble_eq_true rfl) dX4_follow_26 hR ⟨Nat.zero_le _, Nat.zero_le _⟩ hS (fun _ h => h) (fun H locs hR hS _ _ => ?_)
        simp only [Option.toList, List.cons_append, List.nil_append]
        refine lv_if_eq (tgt := 57) C.1 C.2.1 dX4_follow_29 (by decide) (fun c29 => ?_) (fun c29 => ?_)
        · skip
          refine lv_iload_n C.1 C.2.1 dX4_follow_57 rfl (lv_at hl 0 rfl) ?_
          rw [hjc] at c29
          have hv : mrowN N M 6 1 f = L := hr2.trans (mrowN_stop (fun h => by rw [bI_0.mp c29] at h; exact absurd h.2 (by decide)))
          rw [hv]
          rw [eM2] at hR
          exact endi C hr hlk hR hS dX4_follow_58
        · skip
          refine lv_aload_n C.1 C.2.1 dX4_follow_32 rfl (lv_at hl 1 rfl) ?_
          refine m_get C hR 35 (by decide) rfl fl_X4_108 (v := .ref (mA d 35)) rfl dX4_follow_33 ?_
          refine lv_iload_n C.1 C.2.1 dX4_follow_36 rfl (lv_at hl 0 rfl) ?_
          refine lv_aload_n C.1 C.2.1 dX4_follow_37 rfl (lv_at hl 1 rfl) ?_
          refine lv_aload_n C.1 C.2.1 dX4_follow_38 rfl (lv_at hl 1 rfl) ?_
          refine m_get C hR 35 (by decide) rfl fl_X4_108 (v := .ref (mA d 35)) rfl dX4_follow_39 ?_
          refine lv_iload_n C.1 C.2.1 dX4_follow_42 rfl (lv_at hl 0 rfl) ?_
          refine lv_iconst (v := nI 1) C.1 C.2.1 dX4_follow_43 (by decide) ?_
          refine n_isub C (by omega) dX4_follow_44 ?_
          refine mI_ld (k := 35) (j := L - 1) C hR (by simp only [mAr]; decide) rfl (show L - 1 < 6 by omega) dX4_follow_45 ?_
          refine lv_re (y := nI (wr N (f + (L - 1)))) (by rw [g35]) ?_
          refine cxV (b := d) (As := [.int (nI (wr N (f + (L - 1))))]) (rest := [.int (nI L), .ref (mA d 35)]) (ci := 4) (q := (RX4, TX4, 36)) C (mn_next l g d N M2 G hN (wr N (f + (L - 1))) (by omega)) cf_X4_next ml_X4_118 ⟨by decide, by decide⟩ ⟨rfl, rfl⟩ rfl (hR.1) rfl hl.1 rfl (Nat.le_of_ble_eq_true rfl) dX4_follow_46 hR ⟨Nat.zero_le _, Nat.zero_le _⟩ hS (fun _ h => h) (fun H locs hR hS _ _ => ?_)
          simp only [Option.toList, List.cons_append, List.nil_append]
          have hw58 := nx_lt (N := N) (j := wr N (f + (L - 1))) (by omega)
          refine mI_st (k := 35) (j := L) C hR hS (by simp only [mAr]; decide) rfl (show L < 6 by omega) dX4_follow_49 (fun M3 H locs eM3 hR hS => ?_)
          refine lv_iload_n C.1 C.2.1 dX4_follow_50 rfl (lv_at hl 0 rfl) ?_
          refine lv_iconst (v := nI 1) C.1 C.2.1 dX4_follow_51 (by decide) ?_
          refine n_iadd (z := L + 1) C dX4_follow_52 (by omega) ?_
          refine lv_istore_n (lv' := [(2, .int (nI (L + 1))), (0, .ref d), (1, .int (nI f))]) C.1 C.2.1 dX4_follow_53 rfl hl (by decide) rfl (fun ls hl => ?_)
          refine lv_goto (tgt := 9) C.1 C.2.1 dX4_follow_54 (by decide) ?_
          rw [hjc] at c29
          obtain ⟨k, rfl⟩ : ∃ k2, k = k2 + 1 := ⟨k - 1, by omega⟩
          have hnx : nx N (wr N (f + (L - 1))) = wr N (f + L) := by rw [nx_wr (by omega), show f + (L - 1) + 1 = f + L by omega]
          have hb : mrowN N M (k + 1) L (wr N (f + (L - 1))) = mrowN N M k (L + 1) (wr N (f + L)) := (if_pos ⟨by omega, bI_n0.mp c29⟩).trans (by rw [hnx])
          have hb2 : mfr N M f (L + 1) = M3 := by rw [eM3, eM2, hnx]; rfl
          rw [← hb2] at hR
          exact ih k (L + 1) H locs ls (by omega) (by omega) (by omega) (by omega) (hr2.trans hb) hR hS (lv_sub hl [0, 1, 2] rfl)
  exact lp _ 6 1 _ _ ls (Nat.lt_succ_self _) (by omega) (by omega) (by omega) (by rw [show wr N (f + (1 - 1)) = f from if_pos (by omega)]) hR hS (lv_sub hl [0, 1, 2] rfl)

def alr (M : SX) (f : Nat) : Nat → Bool
  | 0 => true
  | k + 1 => alr M f k && (M 26 (6 * f + k) == M 35 k)
theorem alr_f {M : SX} {f i n : Nat} (h : i < n) (hj : ¬ M 26 (6 * f + i) = M 35 i) : alr M f n = false := by
  induction n with
  | zero => omega
  | succ n ih =>
    simp only [alr]
    by_cases hi : i = n
    · subst hi; simp [hj]
    · rw [ih (by omega)]; rfl
def asB (M : SX) (f n : Nat) (cl : Int32) : Bool := (M 25 f == nI n) && ((M 27 f == cl) && alr M f n)
set_option maxHeartbeats 4000000 in
set_option maxRecDepth 100000 in
theorem k_X4_isAsBefore (l : Launch) (g : GX) (d N : Nat) (M : SX) (G : FX) (hN : N ≤ 6) (f n : Nat) (hf : f < N) (hn : n ≤ N) (cl : Int32) : MR l yX4_isAsBefore (.code yX4_isAsBefore cX4_isAsBefore 6 (some .boolean) :: tb) (rmk 0 0) g (RepM g d N M G) (RepM g d N M G) (AM d) [.ref d, .int (nI f), .int (nI n), .int cl] (some (.int (bI (asB M f n cl)))) := by
  refine MR.start RX4 (by decide) rfl (Nat.le_of_ble_eq_true rfl) (fun zp ze zs zm zb zt zc ls C hr hlk hR hS hl => ?_)
  have hl : lv_has ls 6 [(0, .ref d), (1, .int (nI f)), (2, .int (nI n)), (3, .int cl)] := hl
  refine lv_aload_n C.1 C.2.1 dX4_isAsBefore_0 rfl (lv_at hl 0 rfl) ?_
  refine m_get C hR 25 (by decide) rfl fl_X4_78 (v := .ref (mA d 25)) rfl dX4_isAsBefore_1 ?_
  refine lv_iload_n C.1 C.2.1 dX4_isAsBefore_4 rfl (lv_at hl 1 rfl) ?_
  refine mI_ld (k := 25) (j := f) C hR (by simp only [mAr]; decide) rfl (show f < 6 by omega) dX4_isAsBefore_5 ?_
  refine lv_iload_n C.1 C.2.1 dX4_isAsBefore_6 rfl (lv_at hl 2 rfl) ?_
  refine lv_icmp_ne (tgt := 24) C.1 C.2.1 dX4_isAsBefore_7 (by decide) (fun c7 => ?_) (fun c7 => ?_)
  · skip
    refine lv_iconst (v := nI 0) C.1 C.2.1 dX4_isAsBefore_24 (by decide) ?_
    refine lv_istore (lv' := [(4, .int (nI 0)), (0, .ref d), (1, .int (nI f)), (2, .int (nI n)), (3, .int cl)]) C.1 C.2.1 dX4_isAsBefore_25 hl (by decide) rfl (fun ls hl => ?_)
    refine lv_iconst (v := nI 0) C.1 C.2.1 dX4_isAsBefore_27 (by decide) ?_
    refine lv_istore (lv' := [(5, .int (nI 0)), (4, .int (nI 0)), (0, .ref d), (1, .int (nI f)), (2, .int (nI n)), (3, .int cl)]) C.1 C.2.1 dX4_isAsBefore_28 hl (by decide) rfl (fun ls hl => ?_)
    refine lv_iload C.1 C.2.1 dX4_isAsBefore_30 (lv_at hl 0 rfl) ?_
    refine lv_iload_n C.1 C.2.1 dX4_isAsBefore_32 rfl (lv_at hl 4 rfl) ?_
    refine lv_icmp_ge (tgt := 76) C.1 C.2.1 dX4_isAsBefore_33 (by decide) (fun c33 => ?_) (fun c33 => ?_)
    · skip
      have c33 : n ≤ 0 := (nI_leI (a := n) (b := 0) (by omega) (by omega)).mp c33
      refine lv_iload C.1 C.2.1 dX4_isAsBefore_76 (lv_at hl 1 rfl) ?_
      have hv : asB M f n cl = false := by unfold asB; rw [beq_eq_false_iff_ne.mpr (show M 25 f ≠ nI n from c7)]; rfl
      rw [hv]; show W _ _ _ _ _ _ _ _ _ _ _ _ _ _ (MQ _ (QR _ _ (some (.int (nI 0)))) _ _ _ _ _) _
      exact endz C hr hlk (Or.inl rfl) hR hS dX4_isAsBefore_78
    · skip
      have c33 : ¬ (n ≤ 0) := mt (nI_leI (a := n) (b := 0) (by omega) (by omega)).mpr c33
      refine lv_iload C.1 C.2.1 dX4_isAsBefore_36 (lv_at hl 1 rfl) ?_
      refine lv_if_eq (tgt := 76) C.1 C.2.1 dX4_isAsBefore_38 (by decide) (fun c38 => ?_) (fun c38 => ?_)
      · skip
        refine lv_iload C.1 C.2.1 dX4_isAsBefore_76 (lv_at hl 1 rfl) ?_
        have hv : asB M f n cl = false := by unfold asB; rw [beq_eq_false_iff_ne.mpr (show M 25 f ≠ nI n from c7)]; rfl
        rw [hv]; show W _ _ _ _ _ _ _ _ _ _ _ _ _ _ (MQ _ (QR _ _ (some (.int (nI 0)))) _ _ _ _ _) _
        exact endz C hr hlk (Or.inl rfl) hR hS dX4_isAsBefore_78
      · skip
        exact absurd c38 (by decide)
  · skip
    refine lv_aload_n C.1 C.2.1 dX4_isAsBefore_10 rfl (lv_at hl 0 rfl) ?_
    refine m_get C hR 27 (by decide) rfl fl_X4_84 (v := .ref (mA d 27)) rfl dX4_isAsBefore_11 ?_
    refine lv_iload_n C.1 C.2.1 dX4_isAsBefore_14 rfl (lv_at hl 1 rfl) ?_
    refine mZ_ld (k := 27) (j := f) C hR (by simp only [mAr]; decide) rfl (show f < 6 by omega) dX4_isAsBefore_15 ?_
    refine lv_iload_n C.1 C.2.1 dX4_isAsBefore_16 rfl (lv_at hl 3 rfl) ?_
    refine lv_icmp_ne (tgt := 24) C.1 C.2.1 dX4_isAsBefore_17 (by decide) (fun c17 => ?_) (fun c17 => ?_)
    · skip
      refine lv_iconst (v := nI 0) C.1 C.2.1 dX4_isAsBefore_24 (by decide) ?_
      refine lv_istore (lv' := [(4, .int (nI 0)), (0, .ref d), (1, .int (nI f)), (2, .int (nI n)), (3, .int cl)]) C.1 C.2.1 dX4_isAsBefore_25 hl (by decide) rfl (fun ls hl => ?_)
      refine lv_iconst (v := nI 0) C.1 C.2.1 dX4_isAsBefore_27 (by decide) ?_
      refine lv_istore (lv' := [(5, .int (nI 0)), (4, .int (nI 0)), (0, .ref d), (1, .int (nI f)), (2, .int (nI n)), (3, .int cl)]) C.1 C.2.1 dX4_isAsBefore_28 hl (by decide) rfl (fun ls hl => ?_)
      refine lv_iload C.1 C.2.1 dX4_isAsBefore_30 (lv_at hl 0 rfl) ?_
      refine lv_iload_n C.1 C.2.1 dX4_isAsBefore_32 rfl (lv_at hl 4 rfl) ?_
      refine lv_icmp_ge (tgt := 76) C.1 C.2.1 dX4_isAsBefore_33 (by decide) (fun c33 => ?_) (fun c33 => ?_)
      · skip
        have c33 : n ≤ 0 := (nI_leI (a := n) (b := 0) (by omega) (by omega)).mp c33
        refine lv_iload C.1 C.2.1 dX4_isAsBefore_76 (lv_at hl 1 rfl) ?_
        have hv : asB M f n cl = false := by unfold asB; rw [beq_eq_false_iff_ne.mpr (show M 27 f ≠ cl from c17), Bool.false_and, Bool.and_false]
        rw [hv]; show W _ _ _ _ _ _ _ _ _ _ _ _ _ _ (MQ _ (QR _ _ (some (.int (nI 0)))) _ _ _ _ _) _
        exact endz C hr hlk (Or.inl rfl) hR hS dX4_isAsBefore_78
      · skip
        have c33 : ¬ (n ≤ 0) := mt (nI_leI (a := n) (b := 0) (by omega) (by omega)).mpr c33
        refine lv_iload C.1 C.2.1 dX4_isAsBefore_36 (lv_at hl 1 rfl) ?_
        refine lv_if_eq (tgt := 76) C.1 C.2.1 dX4_isAsBefore_38 (by decide) (fun c38 => ?_) (fun c38 => ?_)
        · skip
          refine lv_iload C.1 C.2.1 dX4_isAsBefore_76 (lv_at hl 1 rfl) ?_
          have hv : asB M f n cl = false := by unfold asB; rw [beq_eq_false_iff_ne.mpr (show M 27 f ≠ cl from c17), Bool.false_and, Bool.and_false]
          rw [hv]; show W _ _ _ _ _ _ _ _ _ _ _ _ _ _ (MQ _ (QR _ _ (some (.int (nI 0)))) _ _ _ _ _) _
          exact endz C hr hlk (Or.inl rfl) hR hS dX4_isAsBefore_78
        · skip
          exact absurd c38 (by decide)
    · skip
      refine lv_iconst (v := nI 1) C.1 C.2.1 dX4_isAsBefore_20 (by decide) ?_
      refine lv_goto (tgt := 25) C.1 C.2.1 dX4_isAsBefore_21 (by decide) ?_
      refine lv_istore (lv' := [(4, .int (nI 1)), (0, .ref d), (1, .int (nI f)), (2, .int (nI n)), (3, .int cl)]) C.1 C.2.1 dX4_isAsBefore_25 hl (by decide) rfl (fun ls hl => ?_)
      refine lv_iconst (v := nI 0) C.1 C.2.1 dX4_isAsBefore_27 (by decide) ?_
      refine lv_istore (lv' := [(5, .int (nI 0)), (4, .int (nI 1)), (0, .ref d), (1, .int (nI f)), (2, .int (nI n)), (3, .int cl)]) C.1 C.2.1 dX4_isAsBefore_28 hl (by decide) rfl (fun ls hl => ?_)
      have lp : ∀ (zn : Nat) (i : Nat) (H : Heap) (locs : List Loc) (ls : Array Slot), n - i < zn → i ≤ n → alr M f i = true → RepM g d N M G H → va_S (AM d) zs.heap H locs → lv_has ls 6 [(5, .int (nI i)), (4, .int (nI 1)), (0, .ref d), (1, .int (nI f)), (2, .int (nI n)), (3, .int cl)] → W zp l ze (rmk 0 0) zs zm ([.ref d, .int (nI f), .int (nI n), .int cl] : List Value).toArray zb zt zc H locs 0 0 (MQ zb (QR (RepM g d N M G) (AM d) (some (.int (bI (asB M f n cl))))) ([.ref d, .int (nI f), .int (nI n), .int cl] : List Value).toArray zs 0 0 (AM d)) (F0 zm 30 ls []) := by
        intro zn
        induction zn with
        | zero => intro i H locs ls hm; exact absurd hm (Nat.not_lt_zero _)
        | succ zn ih =>
          intro i H locs ls hm hi ha hR hS hl
          refine lv_iload C.1 C.2.1 dX4_isAsBefore_30 (lv_at hl 0 rfl) ?_
          refine lv_iload_n C.1 C.2.1 dX4_isAsBefore_32 rfl (lv_at hl 4 rfl) ?_
          refine lv_icmp_ge (tgt := 76) C.1 C.2.1 dX4_isAsBefore_33 (by decide) (fun c33 => ?_) (fun c33 => ?_)
          · skip
            have c33 : n ≤ i := (nI_leI (a := n) (b := i) (by omega) (by omega)).mp c33
            refine lv_iload C.1 C.2.1 dX4_isAsBefore_76 (lv_at hl 1 rfl) ?_
            have hv : asB M f n cl = true := by unfold asB; rw [beq_iff_eq.mpr c7, beq_iff_eq.mpr c17, show n = i by omega, ha]; rfl
            rw [hv]; show W _ _ _ _ _ _ _ _ _ _ _ _ _ _ (MQ _ (QR _ _ (some (.int (nI 1)))) _ _ _ _ _) _
            exact endz C hr hlk (Or.inr rfl) hR hS dX4_isAsBefore_78
          · skip
            have c33 : ¬ (n ≤ i) := mt (nI_leI (a := n) (b := i) (by omega) (by omega)).mpr c33
            refine lv_iload C.1 C.2.1 dX4_isAsBefore_36 (lv_at hl 1 rfl) ?_
            refine lv_if_eq (tgt := 76) C.1 C.2.1 dX4_isAsBefore_38 (by decide) (fun c38 => ?_) (fun c38 => ?_)
            · skip
              exact absurd c38 (by decide)
            · skip
              refine lv_aload_n C.1 C.2.1 dX4_isAsBefore_41 rfl (lv_at hl 2 rfl) ?_
              refine m_get C hR 26 (by decide) rfl fl_X4_81 (v := .ref (mA d 26)) rfl dX4_isAsBefore_42 ?_
              refine lv_bipush (v := nI 6) C.1 C.2.1 dX4_isAsBefore_45 (by decide) ?_
              refine lv_iload_n C.1 C.2.1 dX4_isAsBefore_47 rfl (lv_at hl 3 rfl) ?_
              refine n_imul (z := 6 * f) C dX4_isAsBefore_48 (by omega) ?_
              refine lv_iload C.1 C.2.1 dX4_isAsBefore_49 (lv_at hl 0 rfl) ?_
              refine n_iadd (z := 6 * f + i) C dX4_isAsBefore_51 (by omega) ?_
              refine mI_ld (k := 26) (j := 6 * f + i) C hR (by simp only [mAr]; decide) rfl (show 6 * f + i < 36 by omega) dX4_isAsBefore_52 ?_
              refine lv_aload_n C.1 C.2.1 dX4_isAsBefore_53 rfl (lv_at hl 2 rfl) ?_
              refine m_get C hR 35 (by decide) rfl fl_X4_108 (v := .ref (mA d 35)) rfl dX4_isAsBefore_54 ?_
              refine lv_iload C.1 C.2.1 dX4_isAsBefore_57 (lv_at hl 0 rfl) ?_
              refine mI_ld (k := 35) (j := i) C hR (by simp only [mAr]; decide) rfl (show i < 6 by omega) dX4_isAsBefore_59 ?_
              refine lv_icmp_ne (tgt := 67) C.1 C.2.1 dX4_isAsBefore_60 (by decide) (fun c60 => ?_) (fun c60 => ?_)
              · skip
                refine lv_iconst (v := nI 0) C.1 C.2.1 dX4_isAsBefore_67 (by decide) ?_
                refine lv_istore (lv' := [(4, .int (nI 0)), (5, .int (nI i)), (0, .ref d), (1, .int (nI f)), (2, .int (nI n)), (3, .int cl)]) C.1 C.2.1 dX4_isAsBefore_68 hl (by decide) rfl (fun ls hl => ?_)
                refine lv_iinc (v := nI (i + 1)) (lv' := [(5, .int (nI (i + 1))), (4, .int (nI 0)), (0, .ref d), (1, .int (nI f)), (2, .int (nI n)), (3, .int cl)]) C.1 C.2.1 dX4_isAsBefore_70 hl (k := 1) rfl (nI_add _ _) (by decide) rfl (fun ls hl => ?_)
                refine lv_goto (tgt := 30) C.1 C.2.1 dX4_isAsBefore_73 (by decide) ?_
                refine lv_iload C.1 C.2.1 dX4_isAsBefore_30 (lv_at hl 0 rfl) ?_
                refine lv_iload_n C.1 C.2.1 dX4_isAsBefore_32 rfl (lv_at hl 4 rfl) ?_
                refine lv_icmp_ge (tgt := 76) C.1 C.2.1 dX4_isAsBefore_33 (by decide) (fun c33 => ?_) (fun c33 => ?_)
                · skip
                  have c33 : n ≤ i + 1 := (nI_leI (a := n) (b := i + 1) (by omega) (by omega)).mp c33
                  refine lv_iload C.1 C.2.1 dX4_isAsBefore_76 (lv_at hl 1 rfl) ?_
                  have hv : asB M f n cl = false := by unfold asB; rw [alr_f (show i < n by omega) c60, Bool.and_false, Bool.and_false]
                  rw [hv]; show W _ _ _ _ _ _ _ _ _ _ _ _ _ _ (MQ _ (QR _ _ (some (.int (nI 0)))) _ _ _ _ _) _
                  exact endz C hr hlk (Or.inl rfl) hR hS dX4_isAsBefore_78
                · skip
                  have c33 : ¬ (n ≤ i + 1) := mt (nI_leI (a := n) (b := i + 1) (by omega) (by omega)).mpr c33
                  refine lv_iload C.1 C.2.1 dX4_isAsBefore_36 (lv_at hl 1 rfl) ?_
                  refine lv_if_eq (tgt := 76) C.1 C.2.1 dX4_isAsBefore_38 (by decide) (fun c38 => ?_) (fun c38 => ?_)
                  · skip
                    refine lv_iload C.1 C.2.1 dX4_isAsBefore_76 (lv_at hl 1 rfl) ?_
                    have hv : asB M f n cl = false := by unfold asB; rw [alr_f (show i < n by omega) c60, Bool.and_false, Bool.and_false]
                    rw [hv]; show W _ _ _ _ _ _ _ _ _ _ _ _ _ _ (MQ _ (QR _ _ (some (.int (nI 0)))) _ _ _ _ _) _
                    exact endz C hr hlk (Or.inl rfl) hR hS dX4_isAsBefore_78
                  · skip
                    exact absurd c38 (by decide)
              · skip
                refine lv_iconst (v := nI 1) C.1 C.2.1 dX4_isAsBefore_63 (by decide) ?_
                refine lv_goto (tgt := 68) C.1 C.2.1 dX4_isAsBefore_64 (by decide) ?_
                refine lv_istore (lv' := [(4, .int (nI 1)), (5, .int (nI i)), (0, .ref d), (1, .int (nI f)), (2, .int (nI n)), (3, .int cl)]) C.1 C.2.1 dX4_isAsBefore_68 hl (by decide) rfl (fun ls hl => ?_)
                refine lv_iinc (v := nI (i + 1)) (lv' := [(5, .int (nI (i + 1))), (4, .int (nI 1)), (0, .ref d), (1, .int (nI f)), (2, .int (nI n)), (3, .int cl)]) C.1 C.2.1 dX4_isAsBefore_70 hl (k := 1) rfl (nI_add _ _) (by decide) rfl (fun ls hl => ?_)
                refine lv_goto (tgt := 30) C.1 C.2.1 dX4_isAsBefore_73 (by decide) ?_
                exact ih (i + 1) H locs ls (by omega) (by omega) (by simp only [alr, ha, Bool.true_and]; exact beq_iff_eq.mpr c60) hR hS (lv_sub hl [0, 1, 2, 3, 4, 5] rfl)
      exact lp _ 0 _ _ ls (Nat.lt_succ_self _) (by omega) rfl hR hS (lv_sub hl [0, 1, 2, 3, 4, 5] rfl)
end
section
def mshf (M : SX) (q i : Nat) : SX := fun f k => if (22 ≤ f ∧ f ≤ 24) ∧ 5 * q ≤ k ∧ k < 5 * q + i then M f (k + 1) else M f k
theorem mshf_0 (M : SX) (q : Nat) : mshf M q 0 = M := by
  funext f k
  simp only [mshf]
  rw [if_neg (by omega)]
theorem mshf_hi {M : SX} {q i f k : Nat} (h : 5 * q + i ≤ k) : mshf M q i f k = M f k := by
  simp only [mshf]
  rw [if_neg (by omega)]
theorem mshf_o {M : SX} {q i f k : Nat} (h : f < 22 ∨ 24 < f) : mshf M q i f k = M f k := by
  simp only [mshf]
  rw [if_neg (by omega)]
theorem mshf_step (M : SX) (q i : Nat) : mshf M q (i + 1) = up2 (up2 (up2 (mshf M q i) 22 (5 * q + i) (mshf M q i 22 (5 * q + i + 1))) 23 (5 * q + i) (mshf M q i 23 (5 * q + i + 1))) 24 (5 * q + i) (mshf M q i 24 (5 * q + i + 1)) := by
  have e2 : ∀ f, mshf M q i f (5 * q + i + 1) = M f (5 * q + i + 1) := fun f => mshf_hi (by omega)
  funext f k
  rw [e2, e2, e2]
  by_cases hk : k = 5 * q + i
  · subst hk
    by_cases h1 : f = 24
    · subst h1
      rw [up2_eq]
      exact if_pos (by omega)
    · rw [up2_f h1]
      by_cases h2 : f = 23
      · subst h2
        rw [up2_eq]
        exact if_pos (by omega)
      · rw [up2_f h2]
        by_cases h3 : f = 22
        · subst h3
          rw [up2_eq]
          exact if_pos (by omega)
        · rw [up2_f h3, mshf_o (by omega), mshf_o (by omega)]
  · rw [up2_i hk, up2_i hk, up2_i hk]
    by_cases h : (22 ≤ f ∧ f ≤ 24) ∧ 5 * q ≤ k ∧ k < 5 * q + i
    · exact (if_pos (by omega)).trans (if_pos h).symm
    · exact (if_neg (by omega)).trans (if_neg h).symm
def mto (M : SX) (f q z : Nat) : SX := up2 (mshf (up2 M 21 q (nI (z - 1))) q (z - 1)) 32 f (-1)
theorem mto_o {M : SX} {f q z g k : Nat} (h : g < 21 ∨ 24 < g) (h2 : g ≠ 32) : mto M f q z g k = M g k := by
  unfold mto
  rw [up2_f h2, mshf_o (by omega), up2_f (by omega)]
set_option maxHeartbeats 4000000 in
set_option maxRecDepth 100000 in
theorem k_X4_takeOut (l : Launch) (g : GX) (d N : Nat) (M : SX) (G : FX) (hN : N ≤ 6) (f q z : Nat) (hf : f < N) (hq : q < 12) (hz1 : 1 ≤ z) (hz : z ≤ 5) (h32 : M 32 f = nI q) (h21 : M 21 q = nI z) : MR l yX4_takeOut (.code yX4_takeOut cX4_takeOut 4 none :: tb) (rmk 0 0) g (RepM g d N M G) (RepM g d N (mto M f q z) G) (AM d) [.ref d, .int (nI f)] none := by
  refine MR.start RX4 (by decide) rfl (Nat.le_of_ble_eq_true rfl) (fun zp ze zs zm zb zt zc ls C hr hlk hR hS hl => ?_)
  have hl : lv_has ls 4 [(0, .ref d), (1, .int (nI f))] := hl
  refine lv_aload_n C.1 C.2.1 dX4_takeOut_0 rfl (lv_at hl 0 rfl) ?_
  refine m_get C hR 32 (by decide) rfl fl_X4_99 (v := .ref (mA d 32)) rfl dX4_takeOut_1 ?_
  refine lv_iload_n C.1 C.2.1 dX4_takeOut_4 rfl (lv_at hl 1 rfl) ?_
  refine mI_ld (k := 32) (j := f) C hR (by simp only [mAr]; decide) rfl (show f < 6 by omega) dX4_takeOut_5 ?_
  refine lv_re (y := nI q) (by rw [h32]) ?_
  refine lv_istore_n (lv' := [(2, .int (nI q)), (0, .ref d), (1, .int (nI f))]) C.1 C.2.1 dX4_takeOut_6 rfl hl (by decide) rfl (fun ls hl => ?_)
  refine lv_aload_n C.1 C.2.1 dX4_takeOut_7 rfl (lv_at hl 1 rfl) ?_
  refine m_get C hR 21 (by decide) rfl fl_X4_66 (v := .ref (mA d 21)) rfl dX4_takeOut_8 ?_
  refine lv_iload_n C.1 C.2.1 dX4_takeOut_11 rfl (lv_at hl 0 rfl) ?_
  refine lv_aload_n C.1 C.2.1 dX4_takeOut_12 rfl (lv_at hl 1 rfl) ?_
  refine m_get C hR 21 (by decide) rfl fl_X4_66 (v := .ref (mA d 21)) rfl dX4_takeOut_13 ?_
  refine lv_iload_n C.1 C.2.1 dX4_takeOut_16 rfl (lv_at hl 0 rfl) ?_
  refine mI_ld (k := 21) (j := q) C hR (by simp only [mAr]; decide) rfl (show q < 12 by omega) dX4_takeOut_17 ?_
  refine lv_re (y := nI z) (by rw [h21]) ?_
  refine lv_iconst (v := nI 1) C.1 C.2.1 dX4_takeOut_18 (by decide) ?_
  refine n_isub C (by omega) dX4_takeOut_19 ?_
  refine mI_st (k := 21) (j := q) C hR hS (by simp only [mAr]; decide) rfl (show q < 12 by omega) dX4_takeOut_20 (fun M1 H locs eM1 hR hS => ?_)
  refine lv_iconst (v := nI 5) C.1 C.2.1 dX4_takeOut_21 (by decide) ?_
  refine lv_iload_n C.1 C.2.1 dX4_takeOut_22 rfl (lv_at hl 0 rfl) ?_
  refine n_imul (z := 5 * q) C dX4_takeOut_23 (by omega) ?_
  refine lv_istore_n (lv' := [(3, .int (nI (5 * q))), (2, .int (nI q)), (0, .ref d), (1, .int (nI f))]) C.1 C.2.1 dX4_takeOut_24 rfl hl (by decide) rfl (fun ls hl => ?_)
  have h0 : mshf (up2 M 21 q (nI (z - 1))) q 0 = M1 := by rw [mshf_0, eM1]
  rw [← h0] at hR
  have lp : ∀ (zn : Nat) (i : Nat) (H : Heap) (locs : List Loc) (ls : Array Slot), z - 1 - i < zn → i ≤ z - 1 → RepM g d N (mshf (up2 M 21 q (nI (z - 1))) q i) G H → va_S (AM d) zs.heap H locs → lv_has ls 4 [(3, .int (nI (5 * q + i))), (2, .int (nI q)), (0, .ref d), (1, .int (nI f))] → W zp l ze (rmk 0 0) zs zm ([.ref d, .int (nI f)] : List Value).toArray zb zt zc H locs 0 0 (MQ zb (QR (RepM g d N (mto M f q z) G) (AM d) none) ([.ref d, .int (nI f)] : List Value).toArray zs 0 0 (AM d)) (F0 zm 25 ls []) := by
    intro zn
    induction zn with
    | zero => intro i H locs ls hm; exact absurd hm (Nat.not_lt_zero _)
    | succ zn ih =>
      intro i H locs ls hm hi hR hS hl
      obtain ⟨M2, eM2⟩ : ∃ y, y = mshf (up2 M 21 q (nI (z - 1))) q i := ⟨_, rfl⟩
      rw [← eM2] at hR
      have g21 : M2 21 q = nI (z - 1) := by rw [eM2, mshf_o (by omega), up2_eq]
      refine lv_iload_n C.1 C.2.1 dX4_takeOut_25 rfl (lv_at hl 0 rfl) ?_
      refine lv_iconst (v := nI 5) C.1 C.2.1 dX4_takeOut_26 (by decide) ?_
      refine lv_iload_n C.1 C.2.1 dX4_takeOut_27 rfl (lv_at hl 1 rfl) ?_
      refine n_imul (z := 5 * q) C dX4_takeOut_28 (by omega) ?_
      refine lv_aload_n C.1 C.2.1 dX4_takeOut_29 rfl (lv_at hl 2 rfl) ?_
      refine m_get C hR 21 (by decide) rfl fl_X4_66 (v := .ref (mA d 21)) rfl dX4_takeOut_30 ?_
      refine lv_iload_n C.1 C.2.1 dX4_takeOut_33 rfl (lv_at hl 1 rfl) ?_
      refine mI_ld (k := 21) (j := q) C hR (by simp only [mAr]; decide) rfl (show q < 12 by omega) dX4_takeOut_34 ?_
      refine lv_re (y := nI (z - 1)) (by rw [g21]) ?_
      refine n_iadd (z := 5 * q + (z - 1)) C dX4_takeOut_35 (by omega) ?_
      refine lv_icmp_ge (tgt := 87) C.1 C.2.1 dX4_takeOut_36 (by decide) (fun c36 => ?_) (fun c36 => ?_)
      · skip
        have c36 : 5 * q + (z - 1) ≤ 5 * q + i := (nI_leI (a := 5 * q + (z - 1)) (b := 5 * q + i) (by omega) (by omega)).mp c36
        refine lv_aload_n C.1 C.2.1 dX4_takeOut_87 rfl (lv_at hl 2 rfl) ?_
        refine m_get C hR 32 (by decide) rfl fl_X4_99 (v := .ref (mA d 32)) rfl dX4_takeOut_88 ?_
        refine lv_iload_n C.1 C.2.1 dX4_takeOut_91 rfl (lv_at hl 3 rfl) ?_
        refine lv_iconst (v := (-1)) C.1 C.2.1 dX4_takeOut_92 (by decide) ?_
        refine mI_st (k := 32) (j := f) C hR hS (by simp only [mAr]; decide) rfl (show f < 6 by omega) dX4_takeOut_93 (fun M3 H locs eM3 hR hS => ?_)
        have hi2 : i = z - 1 := by omega
        have hs : mto M f q z = M3 := by rw [eM3, eM2, hi2]; rfl
        rw [hs]
        exact endv C hr hlk hR hS dX4_takeOut_94
      · skip
        have c36 : ¬ (5 * q + (z - 1) ≤ 5 * q + i) := mt (nI_leI (a := 5 * q + (z - 1)) (b := 5 * q + i) (by omega) (by omega)).mpr c36
        refine lv_aload_n C.1 C.2.1 dX4_takeOut_39 rfl (lv_at hl 2 rfl) ?_
        refine m_get C hR 22 (by decide) rfl fl_X4_69 (v := .ref (mA d 22)) rfl dX4_takeOut_40 ?_
        refine lv_iload_n C.1 C.2.1 dX4_takeOut_43 rfl (lv_at hl 0 rfl) ?_
        refine lv_aload_n C.1 C.2.1 dX4_takeOut_44 rfl (lv_at hl 2 rfl) ?_
        refine m_get C hR 22 (by decide) rfl fl_X4_69 (v := .ref (mA d 22)) rfl dX4_takeOut_45 ?_
        refine lv_iload_n C.1 C.2.1 dX4_takeOut_48 rfl (lv_at hl 0 rfl) ?_
        refine lv_iconst (v := nI 1) C.1 C.2.1 dX4_takeOut_49 (by decide) ?_
        refine n_iadd (z := 5 * q + i + 1) C dX4_takeOut_50 (by omega) ?_
        refine mI_ld (k := 22) (j := 5 * q + i + 1) C hR (by simp only [mAr]; decide) rfl (show 5 * q + i + 1 < 60 by omega) dX4_takeOut_51 ?_
        refine mI_st (k := 22) (j := 5 * q + i) C hR hS (by simp only [mAr]; decide) rfl (show 5 * q + i < 60 by omega) dX4_takeOut_52 (fun M4 H locs eM4 hR hS => ?_)
        refine lv_aload_n C.1 C.2.1 dX4_takeOut_53 rfl (lv_at hl 2 rfl) ?_
        refine m_get C hR 23 (by decide) rfl fl_X4_72 (v := .ref (mA d 23)) rfl dX4_takeOut_54 ?_
        refine lv_iload_n C.1 C.2.1 dX4_takeOut_57 rfl (lv_at hl 0 rfl) ?_
        refine lv_aload_n C.1 C.2.1 dX4_takeOut_58 rfl (lv_at hl 2 rfl) ?_
        refine m_get C hR 23 (by decide) rfl fl_X4_72 (v := .ref (mA d 23)) rfl dX4_takeOut_59 ?_
        refine lv_iload_n C.1 C.2.1 dX4_takeOut_62 rfl (lv_at hl 0 rfl) ?_
        refine lv_iconst (v := nI 1) C.1 C.2.1 dX4_takeOut_63 (by decide) ?_
        refine n_iadd (z := 5 * q + i + 1) C dX4_takeOut_64 (by omega) ?_
        refine mI_ld (k := 23) (j := 5 * q + i + 1) C hR (by simp only [mAr]; decide) rfl (show 5 * q + i + 1 < 60 by omega) dX4_takeOut_65 ?_
        refine lv_re (y := M2 23 (5 * q + i + 1)) (by rw [eM4, up2_f (by decide)]) ?_
        refine mI_st (k := 23) (j := 5 * q + i) C hR hS (by simp only [mAr]; decide) rfl (show 5 * q + i < 60 by omega) dX4_takeOut_66 (fun M5 H locs eM5 hR hS => ?_)
        refine lv_aload_n C.1 C.2.1 dX4_takeOut_67 rfl (lv_at hl 2 rfl) ?_
        refine m_get C hR 24 (by decide) rfl fl_X4_75 (v := .ref (mA d 24)) rfl dX4_takeOut_68 ?_
        refine lv_iload_n C.1 C.2.1 dX4_takeOut_71 rfl (lv_at hl 0 rfl) ?_
        refine lv_aload_n C.1 C.2.1 dX4_takeOut_72 rfl (lv_at hl 2 rfl) ?_
        refine m_get C hR 24 (by decide) rfl fl_X4_75 (v := .ref (mA d 24)) rfl dX4_takeOut_73 ?_
        refine lv_iload_n C.1 C.2.1 dX4_takeOut_76 rfl (lv_at hl 0 rfl) ?_
        refine lv_iconst (v := nI 1) C.1 C.2.1 dX4_takeOut_77 (by decide) ?_
        refine n_iadd (z := 5 * q + i + 1) C dX4_takeOut_78 (by omega) ?_
        refine mI_ld (k := 24) (j := 5 * q + i + 1) C hR (by simp only [mAr]; decide) rfl (show 5 * q + i + 1 < 60 by omega) dX4_takeOut_79 ?_
        refine lv_re (y := M2 24 (5 * q + i + 1)) (by rw [eM5, up2_f (by decide), eM4, up2_f (by decide)]) ?_
        refine mI_st (k := 24) (j := 5 * q + i) C hR hS (by simp only [mAr]; decide) rfl (show 5 * q + i < 60 by omega) dX4_takeOut_80 (fun M6 H locs eM6 hR hS => ?_)
        refine lv_iinc (v := nI (5 * q + i + 1)) (lv' := [(3, .int (nI (5 * q + i + 1))), (2, .int (nI q)), (0, .ref d), (1, .int (nI f))]) C.1 C.2.1 dX4_takeOut_81 hl (k := 0) rfl (nI_add _ _) (by decide) rfl (fun ls hl => ?_)
        refine lv_goto (tgt := 25) C.1 C.2.1 dX4_takeOut_84 (by decide) ?_
        have hb : mshf (up2 M 21 q (nI (z - 1))) q (i + 1) = M6 := by rw [eM6, eM5, eM4, eM2, mshf_step]
        rw [← hb] at hR
        exact ih (i + 1) H locs ls (by omega) (by omega) hR hS (lv_sub hl [0, 1, 2, 3] rfl)
  exact lp _ 0 _ _ ls (Nat.lt_succ_self _) (by omega) hR hS (lv_sub hl [0, 1, 2, 3] rfl)

def s_X4_claim_i (M : SX) (f L : Nat) : SX := up2 (up2 (up2 M 28 f (nI (2 * L))) 29 f (nI 0)) 31 f (nI 0)
set_option maxHeartbeats 4000000 in
set_option maxRecDepth 100000 in
theorem k_X4_claim_i (l : Launch) (g : GX) (d N : Nat) (M : SX) (G : FX) (hN : N ≤ 6) (f : Nat) (hf : f < N) (L : Nat) (hL : L ≤ N) (h25 : M 25 f = nI L) (h32 : M 32 f = -1)  : MR l yX4_claim (.code yX4_claim cX4_claim 3 none :: tb) (rmk 1 23) g (RepM g d N M G) (RepM g d N (s_X4_claim_i M f L) G) (AM d) [.ref d, .int (nI f)] none := by
  refine MR.start RX4 (by decide) rfl (Nat.le_of_ble_eq_true rfl) (fun zp ze zs zm zb zt zc ls C hr hlk hR hS hl => ?_)
  have hl : lv_has ls 3 [(0, .ref d), (1, .int (nI f))] := hl
  refine lv_aload_n C.1 C.2.1 dX4_claim_0 rfl (lv_at hl 0 rfl) ?_
  refine m_get C hR 32 (by decide) rfl fl_X4_99 (v := .ref (mA d 32)) rfl dX4_claim_1 ?_
  refine lv_iload_n C.1 C.2.1 dX4_claim_4 rfl (lv_at hl 1 rfl) ?_
  refine mI_ld (k := 32) (j := f) C hR (by simp only [mAr]; decide) rfl (show f < 6 by omega) dX4_claim_5 ?_
  refine lv_re (y := (-1)) (by rw [h32]) ?_
  refine lv_if_lt (tgt := 37) C.1 C.2.1 dX4_claim_6 (by decide) (fun c6 => ?_) (fun c6 => ?_)
  · skip
    refine lv_aload_n C.1 C.2.1 dX4_claim_37 rfl (lv_at hl 0 rfl) ?_
    refine m_get C hR 28 (by decide) rfl fl_X4_87 (v := .ref (mA d 28)) rfl dX4_claim_38 ?_
    refine lv_iload_n C.1 C.2.1 dX4_claim_41 rfl (lv_at hl 1 rfl) ?_
    refine lv_iconst (v := nI 2) C.1 C.2.1 dX4_claim_42 (by decide) ?_
    refine lv_aload_n C.1 C.2.1 dX4_claim_43 rfl (lv_at hl 0 rfl) ?_
    refine m_get C hR 25 (by decide) rfl fl_X4_78 (v := .ref (mA d 25)) rfl dX4_claim_44 ?_
    refine lv_iload_n C.1 C.2.1 dX4_claim_47 rfl (lv_at hl 1 rfl) ?_
    refine mI_ld (k := 25) (j := f) C hR (by simp only [mAr]; decide) rfl (show f < 6 by omega) dX4_claim_48 ?_
    refine lv_re (y := nI L) (by rw [h25]) ?_
    refine n_imul (z := 2 * L) C dX4_claim_49 (by omega) ?_
    refine mI_st (k := 28) (j := f) C hR hS (by simp only [mAr]; decide) rfl (show f < 6 by omega) dX4_claim_50 (fun M1 H locs eM1 hR hS => ?_)
    refine lv_aload_n C.1 C.2.1 dX4_claim_51 rfl (lv_at hl 0 rfl) ?_
    refine m_get C hR 29 (by decide) rfl fl_X4_90 (v := .ref (mA d 29)) rfl dX4_claim_52 ?_
    refine lv_iload_n C.1 C.2.1 dX4_claim_55 rfl (lv_at hl 1 rfl) ?_
    refine lv_iconst (v := nI 0) C.1 C.2.1 dX4_claim_56 (by decide) ?_
    refine mI_st (k := 29) (j := f) C hR hS (by simp only [mAr]; decide) rfl (show f < 6 by omega) dX4_claim_57 (fun M2 H locs eM2 hR hS => ?_)
    refine lv_aload_n C.1 C.2.1 dX4_claim_58 rfl (lv_at hl 0 rfl) ?_
    refine m_get C hR 31 (by decide) rfl fl_X4_96 (v := .ref (mA d 31)) rfl dX4_claim_59 ?_
    refine lv_iload_n C.1 C.2.1 dX4_claim_62 rfl (lv_at hl 1 rfl) ?_
    refine lv_iconst (v := nI 0) C.1 C.2.1 dX4_claim_63 (by decide) ?_
    refine mI_st (k := 31) (j := f) C hR hS (by simp only [mAr]; decide) rfl (show f < 6 by omega) dX4_claim_64 (fun M3 H locs eM3 hR hS => ?_)
    have hs : s_X4_claim_i M f L = M3 := (show _ = up2 (up2 (up2 M 28 f (nI (2 * L))) 29 f (nI 0)) 31 f (nI 0) from rfl).trans (by rw [eM3, eM2, eM1])
    rw [hs]
    exact endv C hr hlk hR hS dX4_claim_65
  · skip
    exact absurd c6 (by decide)

def s_X4_claim_s (M : SX) (f q z L : Nat) : SX := up2 (up2 (up2 (mto (up2 M 19 (q / 2) (M 19 (q / 2) + (nI 1))) f q z) 28 f (nI (2 * L))) 29 f (nI 0)) 31 f (nI 0)
set_option maxHeartbeats 4000000 in
set_option maxRecDepth 100000 in
theorem k_X4_claim_s (l : Launch) (g : GX) (d N : Nat) (M : SX) (G : FX) (hN : N ≤ 6) (f q z : Nat) (hf : f < N) (hq : q < 12) (hz1 : 1 ≤ z) (hz : z ≤ 5) (h32 : M 32 f = nI q) (h21 : M 21 q = nI z) (L : Nat) (hL : L ≤ N) (h25 : M 25 f = nI L)  : MR l yX4_claim (.code yX4_claim cX4_claim 3 none :: tb) (rmk 1 23) g (RepM g d N M G) (RepM g d N (s_X4_claim_s M f q z L) G) (AM d) [.ref d, .int (nI f)] none := by
  refine MR.start RX4 (by decide) rfl (Nat.le_of_ble_eq_true rfl) (fun zp ze zs zm zb zt zc ls C hr hlk hR hS hl => ?_)
  have hl : lv_has ls 3 [(0, .ref d), (1, .int (nI f))] := hl
  refine lv_aload_n C.1 C.2.1 dX4_claim_0 rfl (lv_at hl 0 rfl) ?_
  refine m_get C hR 32 (by decide) rfl fl_X4_99 (v := .ref (mA d 32)) rfl dX4_claim_1 ?_
  refine lv_iload_n C.1 C.2.1 dX4_claim_4 rfl (lv_at hl 1 rfl) ?_
  refine mI_ld (k := 32) (j := f) C hR (by simp only [mAr]; decide) rfl (show f < 6 by omega) dX4_claim_5 ?_
  refine lv_re (y := nI q) (by rw [h32]) ?_
  refine lv_if_lt (tgt := 37) C.1 C.2.1 dX4_claim_6 (by decide) (fun c6 => ?_) (fun c6 => ?_)
  · skip
    exact absurd c6 (nI_pos (by omega))
  · skip
    have c6 : ¬ (q < 0) := mt (nI_ltI (a := q) (b := 0) (by omega) (by omega)).mpr c6
    refine lv_aload_n C.1 C.2.1 dX4_claim_9 rfl (lv_at hl 0 rfl) ?_
    refine m_get C hR 32 (by decide) rfl fl_X4_99 (v := .ref (mA d 32)) rfl dX4_claim_10 ?_
    refine lv_iload_n C.1 C.2.1 dX4_claim_13 rfl (lv_at hl 1 rfl) ?_
    refine mI_ld (k := 32) (j := f) C hR (by simp only [mAr]; decide) rfl (show f < 6 by omega) dX4_claim_14 ?_
    refine lv_re (y := nI q) (by rw [h32]) ?_
    refine lv_iconst (v := nI 2) C.1 C.2.1 dX4_claim_15 (by decide) ?_
    refine n_idiv C (by omega) (by omega) (by omega) dX4_claim_16 ?_
    refine lv_istore_n (lv' := [(2, .int (nI (q / 2))), (0, .ref d), (1, .int (nI f))]) C.1 C.2.1 dX4_claim_17 rfl hl (by decide) rfl (fun ls hl => ?_)
    refine lv_aload_n C.1 C.2.1 dX4_claim_18 rfl (lv_at hl 1 rfl) ?_
    refine m_get C hR 19 (by decide) rfl fl_X4_59 (v := .ref (mA d 19)) rfl dX4_claim_19 ?_
    refine lv_iload_n C.1 C.2.1 dX4_claim_22 rfl (lv_at hl 0 rfl) ?_
    refine lv_aload_n C.1 C.2.1 dX4_claim_23 rfl (lv_at hl 1 rfl) ?_
    refine m_get C hR 19 (by decide) rfl fl_X4_59 (v := .ref (mA d 19)) rfl dX4_claim_24 ?_
    refine lv_iload_n C.1 C.2.1 dX4_claim_27 rfl (lv_at hl 0 rfl) ?_
    refine mI_ld (k := 19) (j := q / 2) C hR (by simp only [mAr]; decide) rfl (show q / 2 < 6 by omega) dX4_claim_28 ?_
    refine lv_iconst (v := nI 1) C.1 C.2.1 dX4_claim_29 (by decide) ?_
    refine lv_iadd C.1 C.2.1 dX4_claim_30 ?_
    refine mI_st (k := 19) (j := q / 2) C hR hS (by simp only [mAr]; decide) rfl (show q / 2 < 6 by omega) dX4_claim_31 (fun M1 H locs eM1 hR hS => ?_)
    refine lv_aload_n C.1 C.2.1 dX4_claim_32 rfl (lv_at hl 1 rfl) ?_
    refine lv_iload_n C.1 C.2.1 dX4_claim_33 rfl (lv_at hl 2 rfl) ?_
    refine cxV (b := d) (As := [.int (nI f)]) (rest := []) (ci := 4) (q := (RX4, TX4, 36)) C (k_X4_takeOut l g d N M1 G hN f q z (by omega) (by omega) (by omega) (by omega) (by rw [eM1, up2_f (by decide), h32]) (by rw [eM1, up2_f (by decide), h21])) cf_X4_takeOut ml_X4_126 ⟨by decide, by decide⟩ ⟨rfl, rfl⟩ rfl (hR.1) rfl hl.1 rfl (Nat.le_of_ble_eq_true rfl) dX4_claim_34 hR ⟨Nat.zero_le _, Nat.zero_le _⟩ hS (fun _ h => h) (fun H locs hR hS _ _ => ?_)
    obtain ⟨M2, eM2⟩ : ∃ y, y = mto M1 f q z := ⟨_, rfl⟩
    rw [← eM2] at hR
    simp only [Option.toList, List.nil_append]
    refine lv_aload_n C.1 C.2.1 dX4_claim_37 rfl (lv_at hl 1 rfl) ?_
    refine m_get C hR 28 (by decide) rfl fl_X4_87 (v := .ref (mA d 28)) rfl dX4_claim_38 ?_
    refine lv_iload_n C.1 C.2.1 dX4_claim_41 rfl (lv_at hl 2 rfl) ?_
    refine lv_iconst (v := nI 2) C.1 C.2.1 dX4_claim_42 (by decide) ?_
    refine lv_aload_n C.1 C.2.1 dX4_claim_43 rfl (lv_at hl 1 rfl) ?_
    refine m_get C hR 25 (by decide) rfl fl_X4_78 (v := .ref (mA d 25)) rfl dX4_claim_44 ?_
    refine lv_iload_n C.1 C.2.1 dX4_claim_47 rfl (lv_at hl 2 rfl) ?_
    refine mI_ld (k := 25) (j := f) C hR (by simp only [mAr]; decide) rfl (show f < 6 by omega) dX4_claim_48 ?_
    refine lv_re (y := nI L) (by rw [eM2, mto_o (by decide) (by decide), eM1, up2_f (by decide), h25]) ?_
    refine n_imul (z := 2 * L) C dX4_claim_49 (by omega) ?_
    refine mI_st (k := 28) (j := f) C hR hS (by simp only [mAr]; decide) rfl (show f < 6 by omega) dX4_claim_50 (fun M3 H locs eM3 hR hS => ?_)
    refine lv_aload_n C.1 C.2.1 dX4_claim_51 rfl (lv_at hl 1 rfl) ?_
    refine m_get C hR 29 (by decide) rfl fl_X4_90 (v := .ref (mA d 29)) rfl dX4_claim_52 ?_
    refine lv_iload_n C.1 C.2.1 dX4_claim_55 rfl (lv_at hl 2 rfl) ?_
    refine lv_iconst (v := nI 0) C.1 C.2.1 dX4_claim_56 (by decide) ?_
    refine mI_st (k := 29) (j := f) C hR hS (by simp only [mAr]; decide) rfl (show f < 6 by omega) dX4_claim_57 (fun M4 H locs eM4 hR hS => ?_)
    refine lv_aload_n C.1 C.2.1 dX4_claim_58 rfl (lv_at hl 1 rfl) ?_
    refine m_get C hR 31 (by decide) rfl fl_X4_96 (v := .ref (mA d 31)) rfl dX4_claim_59 ?_
    refine lv_iload_n C.1 C.2.1 dX4_claim_62 rfl (lv_at hl 2 rfl) ?_
    refine lv_iconst (v := nI 0) C.1 C.2.1 dX4_claim_63 (by decide) ?_
    refine mI_st (k := 31) (j := f) C hR hS (by simp only [mAr]; decide) rfl (show f < 6 by omega) dX4_claim_64 (fun M5 H locs eM5 hR hS => ?_)
    have hs : s_X4_claim_s M f q z L = M5 := (show _ = up2 (up2 (up2 (mto (up2 M 19 (q / 2) (M 19 (q / 2) + (nI 1))) f q z) 28 f (nI (2 * L))) 29 f (nI 0)) 31 f (nI 0) from rfl).trans (by rw [eM5, eM4, eM3, eM2, eM1])
    rw [hs]
    exact endv C hr hlk hR hS dX4_claim_65

set_option maxHeartbeats 4000000 in
set_option maxRecDepth 100000 in
theorem k_X4_holder (l : Launch) (g : GX) (d N : Nat) (M : SX) (G : FX) (hN : N ≤ 6) (f p h : Nat) (hf : f < N) (hp : p < 6) (h30 : M 30 f = nI p) (hh : M 26 (6 * f + p) = nI h)  : MR l yX4_holder (.code yX4_holder cX4_holder 2 (some .int) :: tb) (rmk 0 0) g (RepM g d N M G) (RepM g d N M G) (AM d) [.ref d, .int (nI f)] (some (.int (nI h))) := by
  refine MR.start RX4 (by decide) rfl (Nat.le_of_ble_eq_true rfl) (fun zp ze zs zm zb zt zc ls C hr hlk hR hS hl => ?_)
  have hl : lv_has ls 2 [(0, .ref d), (1, .int (nI f))] := hl
  refine lv_aload_n C.1 C.2.1 dX4_holder_0 rfl (lv_at hl 0 rfl) ?_
  refine m_get C hR 26 (by decide) rfl fl_X4_81 (v := .ref (mA d 26)) rfl dX4_holder_1 ?_
  refine lv_bipush (v := nI 6) C.1 C.2.1 dX4_holder_4 (by decide) ?_
  refine lv_iload_n C.1 C.2.1 dX4_holder_6 rfl (lv_at hl 1 rfl) ?_
  refine n_imul (z := 6 * f) C dX4_holder_7 (by omega) ?_
  refine lv_aload_n C.1 C.2.1 dX4_holder_8 rfl (lv_at hl 0 rfl) ?_
  refine m_get C hR 30 (by decide) rfl fl_X4_93 (v := .ref (mA d 30)) rfl dX4_holder_9 ?_
  refine lv_iload_n C.1 C.2.1 dX4_holder_12 rfl (lv_at hl 1 rfl) ?_
  refine mI_ld (k := 30) (j := f) C hR (by simp only [mAr]; decide) rfl (show f < 6 by omega) dX4_holder_13 ?_
  refine lv_re (y := nI p) (by rw [h30]) ?_
  refine n_iadd (z := 6 * f + p) C dX4_holder_14 (by omega) ?_
  refine mI_ld (k := 26) (j := 6 * f + p) C hR (by simp only [mAr]; decide) rfl (show 6 * f + p < 36 by omega) dX4_holder_15 ?_
  refine lv_re (y := nI h) (by rw [hh]) ?_
  skip
  exact endi C hr hlk hR hS dX4_holder_16

def s_X4_leave (M : SX) (f p L : Nat) : SX := if p < L - 1 then (up2 M 31 f (nI 1)) else (if M 27 f = 0 then (up2 M 31 f (nI L)) else (up2 M 31 f (nI 1)))
set_option maxHeartbeats 4000000 in
set_option maxRecDepth 100000 in
theorem k_X4_leave (l : Launch) (g : GX) (d N : Nat) (M : SX) (G : FX) (hN : N ≤ 6) (f p L : Nat) (hf : f < N) (hp : p < L) (hL : L ≤ N) (h30 : M 30 f = nI p) (h25 : M 25 f = nI L)  : MR l yX4_leave (.code yX4_leave cX4_leave 2 none :: tb) (rmk 0 0) g (RepM g d N M G) (RepM g d N (s_X4_leave M f p L) G) (AM d) [.ref d, .int (nI f)] none := by
  refine MR.start RX4 (by decide) rfl (Nat.le_of_ble_eq_true rfl) (fun zp ze zs zm zb zt zc ls C hr hlk hR hS hl => ?_)
  have hl : lv_has ls 2 [(0, .ref d), (1, .int (nI f))] := hl
  refine lv_aload_n C.1 C.2.1 dX4_leave_0 rfl (lv_at hl 0 rfl) ?_
  refine m_get C hR 31 (by decide) rfl fl_X4_96 (v := .ref (mA d 31)) rfl dX4_leave_1 ?_
  refine lv_iload_n C.1 C.2.1 dX4_leave_4 rfl (lv_at hl 1 rfl) ?_
  refine lv_aload_n C.1 C.2.1 dX4_leave_5 rfl (lv_at hl 0 rfl) ?_
  refine m_get C hR 30 (by decide) rfl fl_X4_93 (v := .ref (mA d 30)) rfl dX4_leave_6 ?_
  refine lv_iload_n C.1 C.2.1 dX4_leave_9 rfl (lv_at hl 1 rfl) ?_
  refine mI_ld (k := 30) (j := f) C hR (by simp only [mAr]; decide) rfl (show f < 6 by omega) dX4_leave_10 ?_
  refine lv_re (y := nI p) (by rw [h30]) ?_
  refine lv_aload_n C.1 C.2.1 dX4_leave_11 rfl (lv_at hl 0 rfl) ?_
  refine m_get C hR 25 (by decide) rfl fl_X4_78 (v := .ref (mA d 25)) rfl dX4_leave_12 ?_
  refine lv_iload_n C.1 C.2.1 dX4_leave_15 rfl (lv_at hl 1 rfl) ?_
  refine mI_ld (k := 25) (j := f) C hR (by simp only [mAr]; decide) rfl (show f < 6 by omega) dX4_leave_16 ?_
  refine lv_re (y := nI L) (by rw [h25]) ?_
  refine lv_iconst (v := nI 1) C.1 C.2.1 dX4_leave_17 (by decide) ?_
  refine n_isub C (by omega) dX4_leave_18 ?_
  refine lv_icmp_lt (tgt := 31) C.1 C.2.1 dX4_leave_19 (by decide) (fun c19 => ?_) (fun c19 => ?_)
  · skip
    have c19 : p < L - 1 := (nI_ltI (a := p) (b := L - 1) (by omega) (by omega)).mp c19
    refine lv_iconst (v := nI 1) C.1 C.2.1 dX4_leave_31 (by decide) ?_
    refine lv_goto (tgt := 41) C.1 C.2.1 dX4_leave_32 (by decide) ?_
    refine mI_st (k := 31) (j := f) C hR hS (by simp only [mAr]; decide) rfl (show f < 6 by omega) dX4_leave_41 (fun M1 H locs eM1 hR hS => ?_)
    have hs : s_X4_leave M f p L = M1 := (if_pos c19).trans (by rw [eM1])
    rw [hs]
    exact endv C hr hlk hR hS dX4_leave_42
  · skip
    have c19 : ¬ (p < L - 1) := mt (nI_ltI (a := p) (b := L - 1) (by omega) (by omega)).mpr c19
    refine lv_aload_n C.1 C.2.1 dX4_leave_22 rfl (lv_at hl 0 rfl) ?_
    refine m_get C hR 27 (by decide) rfl fl_X4_84 (v := .ref (mA d 27)) rfl dX4_leave_23 ?_
    refine lv_iload_n C.1 C.2.1 dX4_leave_26 rfl (lv_at hl 1 rfl) ?_
    refine mZ_ld (k := 27) (j := f) C hR (by simp only [mAr]; decide) rfl (show f < 6 by omega) dX4_leave_27 ?_
    refine lv_if_eq (tgt := 35) C.1 C.2.1 dX4_leave_28 (by decide) (fun c28 => ?_) (fun c28 => ?_)
    · skip
      refine lv_aload_n C.1 C.2.1 dX4_leave_35 rfl (lv_at hl 0 rfl) ?_
      refine m_get C hR 25 (by decide) rfl fl_X4_78 (v := .ref (mA d 25)) rfl dX4_leave_36 ?_
      refine lv_iload_n C.1 C.2.1 dX4_leave_39 rfl (lv_at hl 1 rfl) ?_
      refine mI_ld (k := 25) (j := f) C hR (by simp only [mAr]; decide) rfl (show f < 6 by omega) dX4_leave_40 ?_
      refine lv_re (y := nI L) (by rw [h25]) ?_
      refine mI_st (k := 31) (j := f) C hR hS (by simp only [mAr]; decide) rfl (show f < 6 by omega) dX4_leave_41 (fun M2 H locs eM2 hR hS => ?_)
      have hs : s_X4_leave M f p L = M2 := (if_neg c19).trans ((if_pos c28).trans (by rw [eM2]))
      rw [hs]
      exact endv C hr hlk hR hS dX4_leave_42
    · skip
      refine lv_iconst (v := nI 1) C.1 C.2.1 dX4_leave_31 (by decide) ?_
      refine lv_goto (tgt := 41) C.1 C.2.1 dX4_leave_32 (by decide) ?_
      refine mI_st (k := 31) (j := f) C hR hS (by simp only [mAr]; decide) rfl (show f < 6 by omega) dX4_leave_41 (fun M3 H locs eM3 hR hS => ?_)
      have hs : s_X4_leave M f p L = M3 := (if_neg c19).trans ((if_neg c28).trans (by rw [eM3]))
      rw [hs]
      exact endv C hr hlk hR hS dX4_leave_42

def mrs1 (M : SX) (j : Nat) : SX := up2 (up2 (up2 (up2 (up2 (up2 (up2 M 7 j (nI 0)) 8 j (nI 0)) 9 j (nI 0)) 10 j (nI 0)) 11 j (nI 0)) 12 j (nI 0)) 13 j (nI 0)
theorem mrs1_o {M : SX} {j g k : Nat} (h : g < 7 ∨ 13 < g) : mrs1 M j g k = M g k := by
  unfold mrs1
  rw [up2_f (by omega), up2_f (by omega), up2_f (by omega), up2_f (by omega), up2_f (by omega), up2_f (by omega), up2_f (by omega)]
def mrst (N : Nat) (M : SX) (f : Nat) : Nat → SX
  | 0 => M
  | i + 1 => mrs1 (mrst N M f i) (wr N (f + i))
theorem mrst_o {N : Nat} {M : SX} {f i g k : Nat} (h : g < 7 ∨ 13 < g) : mrst N M f i g k = M g k := by
  induction i with
  | zero => rfl
  | succ i ih => simp only [mrst]; rw [mrs1_o h, ih]
def mop (N : Nat) (M : SX) (f k w : Nat) : SX := up2 (mrst N M f k) 30 f (nI w)
theorem mop_o {N : Nat} {M : SX} {f i w g k : Nat} (h : g < 7 ∨ 13 < g) (h2 : g ≠ 30) : mop N M f i w g k = M g k := by
  unfold mop
  rw [up2_f h2, mrst_o h]
theorem up2_c {S : SX} {f i g k : Nat} {v w : Int32} (h : f ≠ g) : up2 (up2 S f i v) g k w = up2 (up2 S g k w) f i v := by
  funext a b
  simp only [up2]
  by_cases h1 : a = g
  · subst h1
    have h2 : ¬ a = f := Ne.symm h
    simp [h2]
  · simp [h1]
theorem up2_2 {S : SX} {f i : Nat} {v w : Int32} : up2 (up2 S f i v) f i w = up2 S f i w := by
  funext a b
  simp only [up2]
  by_cases h1 : a = f ∧ b = i
  · rw [if_pos h1, if_pos h1]
  · rw [if_neg h1, if_neg h1, if_neg h1]
theorem mop_step {N : Nat} {M : SX} {f k w w2 : Nat} : up2 (mrs1 (mop N M f k w) (wr N (f + k))) 30 f (nI w2) = mop N M f (k + 1) w2 := by
  unfold mop
  show _ = up2 (mrs1 (mrst N M f k) (wr N (f + k))) 30 f (nI w2)
  unfold mrs1
  rw [up2_c (g := 30) (f := 13) (by decide), up2_c (g := 30) (f := 12) (by decide), up2_c (g := 30) (f := 11) (by decide), up2_c (g := 30) (f := 10) (by decide), up2_c (g := 30) (f := 9) (by decide), up2_c (g := 30) (f := 8) (by decide), up2_c (g := 30) (f := 7) (by decide), up2_2,
    up2_c (g := 30) (f := 13) (by decide), up2_c (g := 30) (f := 12) (by decide), up2_c (g := 30) (f := 11) (by decide), up2_c (g := 30) (f := 10) (by decide), up2_c (g := 30) (f := 9) (by decide), up2_c (g := 30) (f := 8) (by decide), up2_c (g := 30) (f := 7) (by decide)]
def mwins (N : Nat) (M : SX) (f : Nat) : Nat → Nat → Nat → Nat
  | 0, _, w => w
  | n + 1, i, w => mwins N M f n (i + 1) (if M 5 (wr N (f + i)) < M 5 (wr N (f + w)) ∨ (M 5 (wr N (f + i)) = M 5 (wr N (f + w)) ∧ wr N (f + w) < wr N (f + i)) then i else w)
theorem mwins_lt {N : Nat} {M : SX} {f : Nat} : ∀ (n i w : Nat), w < i → mwins N M f n i w < i + n := by
  intro n
  induction n with
  | zero => intro i w h; exact h
  | succ n ih =>
    intro i w h
    simp only [mwins]
    have := ih (i + 1) (if M 5 (wr N (f + i)) < M 5 (wr N (f + w)) ∨ (M 5 (wr N (f + i)) = M 5 (wr N (f + w)) ∧ wr N (f + w) < wr N (f + i)) then i else w) (by split <;> omega)
    omega
def mopr (N : Nat) (M : SX) (f L : Nat) : SX := up2 (mop N M f L (mwins N M f (L - 1) 1 0)) 29 f (M 5 (wr N (f + mwins N M f (L - 1) 1 0)))
set_option maxHeartbeats 4000000 in
set_option maxRecDepth 100000 in
theorem k_X4_operate (l : Launch) (g : GX) (d N : Nat) (M : SX) (G : FX) (hN : N ≤ 6) (f p L : Nat) (hf : f < N) (hp : p < L) (hL : L ≤ N) (h30 : M 30 f = nI p) (h25 : M 25 f = nI L) (hrow : ∀ k, k < L → M 26 (6 * f + k) = nI (wr N (f + k))) : MR l yX4_operate (.code yX4_operate cX4_operate 6 none :: tb) (rmk 1 21) g (RepM g d N M G) (RepM g d N (s_X4_leave (mopr N M f L) f (mwins N M f (L - 1) 1 0) L) G) (AM d) [.ref d, .int (nI f)] none := by
  refine MR.start RX4 (by decide) rfl (Nat.le_of_ble_eq_true rfl) (fun zp ze zs zm zb zt zc ls C hr hlk hR hS hl => ?_)
  have hl : lv_has ls 6 [(0, .ref d), (1, .int (nI f))] := hl
  have hrow0 : M 26 (6 * f) = nI (wr N (f + 0)) := hrow 0 (by omega)
  have hw0 := wr_lt (N := N) (i := f + 0) (by omega)
  refine lv_iconst (v := (-1)) C.1 C.2.1 dX4_operate_0 (by decide) ?_
  refine lv_istore_n (lv' := [(2, .int (-1)), (0, .ref d), (1, .int (nI f))]) C.1 C.2.1 dX4_operate_1 rfl hl (by decide) rfl (fun ls hl => ?_)
  refine lv_iconst (v := nI 0) C.1 C.2.1 dX4_operate_2 (by decide) ?_
  refine lv_istore_n (lv' := [(3, .int (nI 0)), (2, .int (-1)), (0, .ref d), (1, .int (nI f))]) C.1 C.2.1 dX4_operate_3 rfl hl (by decide) rfl (fun ls hl => ?_)
  refine lv_iload_n C.1 C.2.1 dX4_operate_4 rfl (lv_at hl 0 rfl) ?_
  refine lv_aload_n C.1 C.2.1 dX4_operate_5 rfl (lv_at hl 2 rfl) ?_
  refine m_get C hR 25 (by decide) rfl fl_X4_78 (v := .ref (mA d 25)) rfl dX4_operate_6 ?_
  refine lv_iload_n C.1 C.2.1 dX4_operate_9 rfl (lv_at hl 3 rfl) ?_
  refine mI_ld (k := 25) (j := f) C hR (by simp only [mAr]; decide) rfl (show f < 6 by omega) dX4_operate_10 ?_
  refine lv_re (y := nI L) (by rw [h25]) ?_
  refine lv_icmp_ge (tgt := 171) C.1 C.2.1 dX4_operate_11 (by decide) (fun c11 => ?_) (fun c11 => ?_)
  · skip
    exact absurd c11 (nI_nle (by omega) (by omega))
  · skip
    have c11 : ¬ (L ≤ 0) := mt (nI_leI (a := L) (b := 0) (by omega) (by omega)).mpr c11
    refine lv_aload_n C.1 C.2.1 dX4_operate_14 rfl (lv_at hl 2 rfl) ?_
    refine m_get C hR 26 (by decide) rfl fl_X4_81 (v := .ref (mA d 26)) rfl dX4_operate_15 ?_
    refine lv_bipush (v := nI 6) C.1 C.2.1 dX4_operate_18 (by decide) ?_
    refine lv_iload_n C.1 C.2.1 dX4_operate_20 rfl (lv_at hl 3 rfl) ?_
    refine n_imul (z := 6 * f) C dX4_operate_21 (by omega) ?_
    refine lv_iload_n C.1 C.2.1 dX4_operate_22 rfl (lv_at hl 0 rfl) ?_
    refine n_iadd (z := 6 * f) C dX4_operate_23 (by omega) ?_
    refine mI_ld (k := 26) (j := 6 * f) C hR (by simp only [mAr]; decide) rfl (show 6 * f < 36 by omega) dX4_operate_24 ?_
    refine lv_re (y := nI (wr N (f + 0))) (by rw [hrow0]) ?_
    refine lv_istore (lv' := [(4, .int (nI (wr N (f + 0)))), (3, .int (nI 0)), (2, .int (-1)), (0, .ref d), (1, .int (nI f))]) C.1 C.2.1 dX4_operate_25 hl (by decide) rfl (fun ls hl => ?_)
    refine lv_aload_n C.1 C.2.1 dX4_operate_27 rfl (lv_at hl 3 rfl) ?_
    refine m_get C hR 7 (by decide) rfl fl_X4_23 (v := .ref (mA d 7)) rfl dX4_operate_28 ?_
    refine lv_iload C.1 C.2.1 dX4_operate_31 (lv_at hl 0 rfl) ?_
    refine lv_iconst (v := nI 0) C.1 C.2.1 dX4_operate_33 (by decide) ?_
    refine mI_st (k := 7) (j := wr N (f + 0)) C hR hS (by simp only [mAr]; decide) rfl (show wr N (f + 0) < 6 by omega) dX4_operate_34 (fun M1 H locs eM1 hR hS => ?_)
    refine lv_aload_n C.1 C.2.1 dX4_operate_35 rfl (lv_at hl 3 rfl) ?_
    refine m_get C hR 8 (by decide) rfl fl_X4_26 (v := .ref (mA d 8)) rfl dX4_operate_36 ?_
    refine lv_iload C.1 C.2.1 dX4_operate_39 (lv_at hl 0 rfl) ?_
    refine lv_iconst (v := nI 0) C.1 C.2.1 dX4_operate_41 (by decide) ?_
    refine mI_st (k := 8) (j := wr N (f + 0)) C hR hS (by simp only [mAr]; decide) rfl (show wr N (f + 0) < 6 by omega) dX4_operate_42 (fun M2 H locs eM2 hR hS => ?_)
    refine lv_aload_n C.1 C.2.1 dX4_operate_43 rfl (lv_at hl 3 rfl) ?_
    refine m_get C hR 9 (by decide) rfl fl_X4_29 (v := .ref (mA d 9)) rfl dX4_operate_44 ?_
    refine lv_iload C.1 C.2.1 dX4_operate_47 (lv_at hl 0 rfl) ?_
    refine lv_iconst (v := nI 0) C.1 C.2.1 dX4_operate_49 (by decide) ?_
    refine mI_st (k := 9) (j := wr N (f + 0)) C hR hS (by simp only [mAr]; decide) rfl (show wr N (f + 0) < 6 by omega) dX4_operate_50 (fun M3 H locs eM3 hR hS => ?_)
    refine lv_aload_n C.1 C.2.1 dX4_operate_51 rfl (lv_at hl 3 rfl) ?_
    refine m_get C hR 10 (by decide) rfl fl_X4_32 (v := .ref (mA d 10)) rfl dX4_operate_52 ?_
    refine lv_iload C.1 C.2.1 dX4_operate_55 (lv_at hl 0 rfl) ?_
    refine lv_iconst (v := nI 0) C.1 C.2.1 dX4_operate_57 (by decide) ?_
    refine mI_st (k := 10) (j := wr N (f + 0)) C hR hS (by simp only [mAr]; decide) rfl (show wr N (f + 0) < 6 by omega) dX4_operate_58 (fun M4 H locs eM4 hR hS => ?_)
    refine lv_aload_n C.1 C.2.1 dX4_operate_59 rfl (lv_at hl 3 rfl) ?_
    refine m_get C hR 11 (by decide) rfl fl_X4_35 (v := .ref (mA d 11)) rfl dX4_operate_60 ?_
    refine lv_iload C.1 C.2.1 dX4_operate_63 (lv_at hl 0 rfl) ?_
    refine lv_iconst (v := nI 0) C.1 C.2.1 dX4_operate_65 (by decide) ?_
    refine mI_st (k := 11) (j := wr N (f + 0)) C hR hS (by simp only [mAr]; decide) rfl (show wr N (f + 0) < 6 by omega) dX4_operate_66 (fun M5 H locs eM5 hR hS => ?_)
    refine lv_aload_n C.1 C.2.1 dX4_operate_67 rfl (lv_at hl 3 rfl) ?_
    refine m_get C hR 12 (by decide) rfl fl_X4_38 (v := .ref (mA d 12)) rfl dX4_operate_68 ?_
    refine lv_iload C.1 C.2.1 dX4_operate_71 (lv_at hl 0 rfl) ?_
    refine lv_iconst (v := nI 0) C.1 C.2.1 dX4_operate_73 (by decide) ?_
    refine mZ_st (k := 12) (j := wr N (f + 0)) C hR hS (by simp only [mAr]; decide) rfl (show wr N (f + 0) < 6 by omega) (Or.inl rfl) dX4_operate_74 (fun M6 H locs eM6 hR hS => ?_)
    refine lv_aload_n C.1 C.2.1 dX4_operate_75 rfl (lv_at hl 3 rfl) ?_
    refine m_get C hR 13 (by decide) rfl fl_X4_41 (v := .ref (mA d 13)) rfl dX4_operate_76 ?_
    refine lv_iload C.1 C.2.1 dX4_operate_79 (lv_at hl 0 rfl) ?_
    refine lv_iconst (v := nI 0) C.1 C.2.1 dX4_operate_81 (by decide) ?_
    refine mZ_st (k := 13) (j := wr N (f + 0)) C hR hS (by simp only [mAr]; decide) rfl (show wr N (f + 0) < 6 by omega) (Or.inl rfl) dX4_operate_82 (fun M7 H locs eM7 hR hS => ?_)
    refine lv_iload_n C.1 C.2.1 dX4_operate_83 rfl (lv_at hl 2 rfl) ?_
    refine lv_if_lt (tgt := 125) C.1 C.2.1 dX4_operate_84 (by decide) (fun c84 => ?_) (fun c84 => ?_)
    · skip
      refine lv_iconst (v := nI 1) C.1 C.2.1 dX4_operate_125 (by decide) ?_
      refine lv_goto (tgt := 130) C.1 C.2.1 dX4_operate_126 (by decide) ?_
      refine lv_istore (lv' := [(5, .int (nI 1)), (4, .int (nI (wr N (f + 0)))), (3, .int (nI 0)), (2, .int (-1)), (0, .ref d), (1, .int (nI f))]) C.1 C.2.1 dX4_operate_130 hl (by decide) rfl (fun ls hl => ?_)
      refine lv_aload_n C.1 C.2.1 dX4_operate_132 rfl (lv_at hl 4 rfl) ?_
      refine m_get C hR 30 (by decide) rfl fl_X4_93 (v := .ref (mA d 30)) rfl dX4_operate_133 ?_
      refine lv_iload_n C.1 C.2.1 dX4_operate_136 rfl (lv_at hl 5 rfl) ?_
      refine lv_iload C.1 C.2.1 dX4_operate_137 (lv_at hl 0 rfl) ?_
      refine lv_if_eq (tgt := 146) C.1 C.2.1 dX4_operate_139 (by decide) (fun c139 => ?_) (fun c139 => ?_)
      · skip
        exact absurd c139 (by decide)
      · skip
        refine lv_iload_n C.1 C.2.1 dX4_operate_142 rfl (lv_at hl 2 rfl) ?_
        refine lv_goto (tgt := 152) C.1 C.2.1 dX4_operate_143 (by decide) ?_
        refine mI_st (k := 30) (j := f) C hR hS (by simp only [mAr]; decide) rfl (show f < 6 by omega) dX4_operate_152 (fun M8 H locs eM8 hR hS => ?_)
        refine lv_iload C.1 C.2.1 dX4_operate_153 (lv_at hl 0 rfl) ?_
        refine lv_if_eq (tgt := 163) C.1 C.2.1 dX4_operate_155 (by decide) (fun c155 => ?_) (fun c155 => ?_)
        · skip
          exact absurd c155 (by decide)
        · skip
          refine lv_iload C.1 C.2.1 dX4_operate_158 (lv_at hl 1 rfl) ?_
          refine lv_goto (tgt := 164) C.1 C.2.1 dX4_operate_160 (by decide) ?_
          refine lv_istore_n (lv' := [(2, .int (nI (wr N (f + 0)))), (5, .int (nI 1)), (4, .int (nI (wr N (f + 0)))), (3, .int (nI 0)), (0, .ref d), (1, .int (nI f))]) C.1 C.2.1 dX4_operate_164 rfl hl (by decide) rfl (fun ls hl => ?_)
          refine lv_iinc (v := nI 1) (lv' := [(3, .int (nI 1)), (2, .int (nI (wr N (f + 0)))), (5, .int (nI 1)), (4, .int (nI (wr N (f + 0)))), (0, .ref d), (1, .int (nI f))]) C.1 C.2.1 dX4_operate_165 hl (k := 3) rfl (nI_add _ _) (by decide) rfl (fun ls hl => ?_)
          refine lv_goto (tgt := 4) C.1 C.2.1 dX4_operate_168 (by decide) ?_
          have h0 : mop N M f 1 0 = M8 := by rw [eM8, eM7, eM6, eM5, eM4, eM3, eM2, eM1]; rfl
          rw [← h0] at hR
          have lp : ∀ (zn : Nat) (k : Nat) (i : Nat) (w : Nat) (H : Heap) (locs : List Loc) (ls : Array Slot), k < zn → i + k = L → 1 ≤ i → w < i → w < L → mwins N M f (L - 1) 1 0 = mwins N M f k i w → RepM g d N (mop N M f i w) G H → va_S (AM d) zs.heap H locs → lv_has ls 6 [(3, .int (nI i)), (2, .int (nI (wr N (f + w)))), (0, .ref d), (1, .int (nI f))] → W zp l ze (rmk 1 21) zs zm ([.ref d, .int (nI f)] : List Value).toArray zb zt zc H locs 0 0 (MQ zb (QR (RepM g d N (s_X4_leave (mopr N M f L) f (mwins N M f (L - 1) 1 0) L) G) (AM d) none) ([.ref d, .int (nI f)] : List Value).toArray zs 0 0 (AM d)) (F0 zm 4 ls []) := by
            intro zn
            induction zn with
            | zero => intro k i w H locs ls hm; exact absurd hm (Nat.not_lt_zero _)
            | succ zn ih =>
              intro k i w H locs ls hm hk hi1 hw hwL hr2 hR hS hl
              obtain ⟨M9, eM9⟩ : ∃ y, y = mop N M f i w := ⟨_, rfl⟩
              rw [← eM9] at hR
              have hww := wr_lt (N := N) (i := f + w) (by omega)
              have g30 : M9 30 f = nI w := by rw [eM9]; exact up2_eq _ _ _ _
              refine lv_iload_n C.1 C.2.1 dX4_operate_4 rfl (lv_at hl 0 rfl) ?_
              refine lv_aload_n C.1 C.2.1 dX4_operate_5 rfl (lv_at hl 2 rfl) ?_
              refine m_get C hR 25 (by decide) rfl fl_X4_78 (v := .ref (mA d 25)) rfl dX4_operate_6 ?_
              refine lv_iload_n C.1 C.2.1 dX4_operate_9 rfl (lv_at hl 3 rfl) ?_
              refine mI_ld (k := 25) (j := f) C hR (by simp only [mAr]; decide) rfl (show f < 6 by omega) dX4_operate_10 ?_
              refine lv_re (y := nI L) (by rw [eM9, mop_o (by decide) (by decide), h25]) ?_
              refine lv_icmp_ge (tgt := 171) C.1 C.2.1 dX4_operate_11 (by decide) (fun c11 => ?_) (fun c11 => ?_)
              · skip
                have c11 : L ≤ i := (nI_leI (a := L) (b := i) (by omega) (by omega)).mp c11
                refine lv_aload_n C.1 C.2.1 dX4_operate_171 rfl (lv_at hl 2 rfl) ?_
                refine m_get C hR 29 (by decide) rfl fl_X4_90 (v := .ref (mA d 29)) rfl dX4_operate_172 ?_
                refine lv_iload_n C.1 C.2.1 dX4_operate_175 rfl (lv_at hl 3 rfl) ?_
                refine lv_aload_n C.1 C.2.1 dX4_operate_176 rfl (lv_at hl 2 rfl) ?_
                refine m_get C hR 5 (by decide) rfl fl_X4_16 (v := .ref (mA d 5)) rfl dX4_operate_177 ?_
                refine lv_iload_n C.1 C.2.1 dX4_operate_180 rfl (lv_at hl 1 rfl) ?_
                refine mI_ld (k := 5) (j := wr N (f + w)) C hR (by simp only [mAr]; decide) rfl (show wr N (f + w) < 6 by omega) dX4_operate_181 ?_
                refine lv_re (y := M 5 (wr N (f + w))) (by rw [eM9, mop_o (by decide) (by decide)]) ?_
                refine mI_st (k := 29) (j := f) C hR hS (by simp only [mAr]; decide) rfl (show f < 6 by omega) dX4_operate_182 (fun M10 H locs eM10 hR hS => ?_)
                refine lv_aload_n C.1 C.2.1 dX4_operate_183 rfl (lv_at hl 2 rfl) ?_
                refine lv_iload_n C.1 C.2.1 dX4_operate_184 rfl (lv_at hl 3 rfl) ?_
                refine cxV (b := d) (As := [.int (nI f)]) (rest := []) (ci := 4) (q := (RX4, TX4, 36)) C (k_X4_leave l g d N M10 G hN f (w) L (by omega) (by omega) (by omega) (by rw [eM10, up2_f (by decide), g30]) (by rw [eM10, up2_f (by decide), eM9, mop_o (by decide) (by decide), h25])) cf_X4_leave ml_X4_143 ⟨by decide, by decide⟩ ⟨rfl, rfl⟩ rfl (hR.1) rfl hl.1 rfl (Nat.le_of_ble_eq_true rfl) dX4_operate_185 hR ⟨Nat.zero_le _, Nat.zero_le _⟩ hS (fun _ h => h) (fun H locs hR hS _ _ => ?_)
                obtain ⟨M11, eM11⟩ : ∃ y, y = s_X4_leave M10 f (w) L := ⟨_, rfl⟩
                rw [← eM11] at hR
                simp only [Option.toList, List.nil_append]
                have hk0 : k = 0 := by omega
                have hiL : i = L := by omega
                have hwv : mwins N M f (L - 1) 1 0 = w := hr2.trans (by rw [hk0]; rfl)
                have hs : s_X4_leave (mopr N M f L) f (mwins N M f (L - 1) 1 0) L = M11 := by rw [eM11, eM10, eM9, hiL]; unfold mopr; rw [hwv]
                rw [hs]
                exact endv C hr hlk hR hS dX4_operate_188
              · skip
                have c11 : ¬ (L ≤ i) := mt (nI_leI (a := L) (b := i) (by omega) (by omega)).mpr c11
                have hwi := wr_lt (N := N) (i := f + i) (by omega)
                refine lv_aload_n C.1 C.2.1 dX4_operate_14 rfl (lv_at hl 2 rfl) ?_
                refine m_get C hR 26 (by decide) rfl fl_X4_81 (v := .ref (mA d 26)) rfl dX4_operate_15 ?_
                refine lv_bipush (v := nI 6) C.1 C.2.1 dX4_operate_18 (by decide) ?_
                refine lv_iload_n C.1 C.2.1 dX4_operate_20 rfl (lv_at hl 3 rfl) ?_
                refine n_imul (z := 6 * f) C dX4_operate_21 (by omega) ?_
                refine lv_iload_n C.1 C.2.1 dX4_operate_22 rfl (lv_at hl 0 rfl) ?_
                refine n_iadd (z := 6 * f + i) C dX4_operate_23 (by omega) ?_
                refine mI_ld (k := 26) (j := 6 * f + i) C hR (by simp only [mAr]; decide) rfl (show 6 * f + i < 36 by omega) dX4_operate_24 ?_
                refine lv_re (y := nI (wr N (f + i))) (by rw [eM9, mop_o (by decide) (by decide), hrow i (by omega)]) ?_
                refine lv_istore (lv' := [(4, .int (nI (wr N (f + i)))), (3, .int (nI i)), (2, .int (nI (wr N (f + w)))), (0, .ref d), (1, .int (nI f))]) C.1 C.2.1 dX4_operate_25 hl (by decide) rfl (fun ls hl => ?_)
                refine lv_aload_n C.1 C.2.1 dX4_operate_27 rfl (lv_at hl 3 rfl) ?_
                refine m_get C hR 7 (by decide) rfl fl_X4_23 (v := .ref (mA d 7)) rfl dX4_operate_28 ?_
                refine lv_iload C.1 C.2.1 dX4_operate_31 (lv_at hl 0 rfl) ?_
                refine lv_iconst (v := nI 0) C.1 C.2.1 dX4_operate_33 (by decide) ?_
                refine mI_st (k := 7) (j := wr N (f + i)) C hR hS (by simp only [mAr]; decide) rfl (show wr N (f + i) < 6 by omega) dX4_operate_34 (fun M12 H locs eM12 hR hS => ?_)
                refine lv_aload_n C.1 C.2.1 dX4_operate_35 rfl (lv_at hl 3 rfl) ?_
                refine m_get C hR 8 (by decide) rfl fl_X4_26 (v := .ref (mA d 8)) rfl dX4_operate_36 ?_
                refine lv_iload C.1 C.2.1 dX4_operate_39 (lv_at hl 0 rfl) ?_
                refine lv_iconst (v := nI 0) C.1 C.2.1 dX4_operate_41 (by decide) ?_
                refine mI_st (k := 8) (j := wr N (f + i)) C hR hS (by simp only [mAr]; decide) rfl (show wr N (f + i) < 6 by omega) dX4_operate_42 (fun M13 H locs eM13 hR hS => ?_)
                refine lv_aload_n C.1 C.2.1 dX4_operate_43 rfl (lv_at hl 3 rfl) ?_
                refine m_get C hR 9 (by decide) rfl fl_X4_29 (v := .ref (mA d 9)) rfl dX4_operate_44 ?_
                refine lv_iload C.1 C.2.1 dX4_operate_47 (lv_at hl 0 rfl) ?_
                refine lv_iconst (v := nI 0) C.1 C.2.1 dX4_operate_49 (by decide) ?_
                refine mI_st (k := 9) (j := wr N (f + i)) C hR hS (by simp only [mAr]; decide) rfl (show wr N (f + i) < 6 by omega) dX4_operate_50 (fun M14 H locs eM14 hR hS => ?_)
                refine lv_aload_n C.1 C.2.1 dX4_operate_51 rfl (lv_at hl 3 rfl) ?_
                refine m_get C hR 10 (by decide) rfl fl_X4_32 (v := .ref (mA d 10)) rfl dX4_operate_52 ?_
                refine lv_iload C.1 C.2.1 dX4_operate_55 (lv_at hl 0 rfl) ?_
                refine lv_iconst (v := nI 0) C.1 C.2.1 dX4_operate_57 (by decide) ?_
                refine mI_st (k := 10) (j := wr N (f + i)) C hR hS (by simp only [mAr]; decide) rfl (show wr N (f + i) < 6 by omega) dX4_operate_58 (fun M15 H locs eM15 hR hS => ?_)
                refine lv_aload_n C.1 C.2.1 dX4_operate_59 rfl (lv_at hl 3 rfl) ?_
                refine m_get C hR 11 (by decide) rfl fl_X4_35 (v := .ref (mA d 11)) rfl dX4_operate_60 ?_
                refine lv_iload C.1 C.2.1 dX4_operate_63 (lv_at hl 0 rfl) ?_
                refine lv_iconst (v := nI 0) C.1 C.2.1 dX4_operate_65 (by decide) ?_
                refine mI_st (k := 11) (j := wr N (f + i)) C hR hS (by simp only [mAr]; decide) rfl (show wr N (f + i) < 6 by omega) dX4_operate_66 (fun M16 H locs eM16 hR hS => ?_)
                refine lv_aload_n C.1 C.2.1 dX4_operate_67 rfl (lv_at hl 3 rfl) ?_
                refine m_get C hR 12 (by decide) rfl fl_X4_38 (v := .ref (mA d 12)) rfl dX4_operate_68 ?_
                refine lv_iload C.1 C.2.1 dX4_operate_71 (lv_at hl 0 rfl) ?_
                refine lv_iconst (v := nI 0) C.1 C.2.1 dX4_operate_73 (by decide) ?_
                refine mZ_st (k := 12) (j := wr N (f + i)) C hR hS (by simp only [mAr]; decide) rfl (show wr N (f + i) < 6 by omega) (Or.inl rfl) dX4_operate_74 (fun M17 H locs eM17 hR hS => ?_)
                refine lv_aload_n C.1 C.2.1 dX4_operate_75 rfl (lv_at hl 3 rfl) ?_
                refine m_get C hR 13 (by decide) rfl fl_X4_41 (v := .ref (mA d 13)) rfl dX4_operate_76 ?_
                refine lv_iload C.1 C.2.1 dX4_operate_79 (lv_at hl 0 rfl) ?_
                refine lv_iconst (v := nI 0) C.1 C.2.1 dX4_operate_81 (by decide) ?_
                refine mZ_st (k := 13) (j := wr N (f + i)) C hR hS (by simp only [mAr]; decide) rfl (show wr N (f + i) < 6 by omega) (Or.inl rfl) dX4_operate_82 (fun M18 H locs eM18 hR hS => ?_)
                refine lv_iload_n C.1 C.2.1 dX4_operate_83 rfl (lv_at hl 2 rfl) ?_
                refine lv_if_lt (tgt := 125) C.1 C.2.1 dX4_operate_84 (by decide) (fun c84 => ?_) (fun c84 => ?_)
                · skip
                  exact absurd c84 (nI_pos (by omega))
                · skip
                  have c84 : ¬ (wr N (f + w) < 0) := mt (nI_ltI (a := wr N (f + w)) (b := 0) (by omega) (by omega)).mpr c84
                  refine lv_aload_n C.1 C.2.1 dX4_operate_87 rfl (lv_at hl 3 rfl) ?_
                  refine m_get C hR 5 (by decide) rfl fl_X4_16 (v := .ref (mA d 5)) rfl dX4_operate_88 ?_
                  refine lv_iload C.1 C.2.1 dX4_operate_91 (lv_at hl 0 rfl) ?_
                  refine mI_ld (k := 5) (j := wr N (f + i)) C hR (by simp only [mAr]; decide) rfl (show wr N (f + i) < 6 by omega) dX4_operate_93 ?_
                  refine lv_re (y := M 5 (wr N (f + i))) (by rw [eM18, up2_f (by decide), eM17, up2_f (by decide), eM16, up2_f (by decide), eM15, up2_f (by decide), eM14, up2_f (by decide), eM13, up2_f (by decide), eM12, up2_f (by decide), eM9, mop_o (by decide) (by decide)]) ?_
                  refine lv_aload_n C.1 C.2.1 dX4_operate_94 rfl (lv_at hl 3 rfl) ?_
                  refine m_get C hR 5 (by decide) rfl fl_X4_16 (v := .ref (mA d 5)) rfl dX4_operate_95 ?_
                  refine lv_iload_n C.1 C.2.1 dX4_operate_98 rfl (lv_at hl 2 rfl) ?_
                  refine mI_ld (k := 5) (j := wr N (f + w)) C hR (by simp only [mAr]; decide) rfl (show wr N (f + w) < 6 by omega) dX4_operate_99 ?_
                  refine lv_re (y := M 5 (wr N (f + w))) (by rw [eM18, up2_f (by decide), eM17, up2_f (by decide), eM16, up2_f (by decide), eM15, up2_f (by decide), eM14, up2_f (by decide), eM13, up2_f (by decide), eM12, up2_f (by decide), eM9, mop_o (by decide) (by decide)]) ?_
                  refine lv_icmp_lt (tgt := 125) C.1 C.2.1 dX4_operate_100 (by decide) (fun c100 => ?_) (fun c100 => ?_)
                  · skip
                    refine lv_iconst (v := nI 1) C.1 C.2.1 dX4_operate_125 (by decide) ?_
                    refine lv_goto (tgt := 130) C.1 C.2.1 dX4_operate_126 (by decide) ?_
                    refine lv_istore (lv' := [(5, .int (nI 1)), (4, .int (nI (wr N (f + i)))), (3, .int (nI i)), (2, .int (nI (wr N (f + w)))), (0, .ref d), (1, .int (nI f))]) C.1 C.2.1 dX4_operate_130 hl (by decide) rfl (fun ls hl => ?_)
                    refine lv_aload_n C.1 C.2.1 dX4_operate_132 rfl (lv_at hl 4 rfl) ?_
                    refine m_get C hR 30 (by decide) rfl fl_X4_93 (v := .ref (mA d 30)) rfl dX4_operate_133 ?_
                    refine lv_iload_n C.1 C.2.1 dX4_operate_136 rfl (lv_at hl 5 rfl) ?_
                    refine lv_iload C.1 C.2.1 dX4_operate_137 (lv_at hl 0 rfl) ?_
                    refine lv_if_eq (tgt := 146) C.1 C.2.1 dX4_operate_139 (by decide) (fun c139 => ?_) (fun c139 => ?_)
                    · skip
                      exact absurd c139 (by decide)
                    · skip
                      refine lv_iload_n C.1 C.2.1 dX4_operate_142 rfl (lv_at hl 2 rfl) ?_
                      refine lv_goto (tgt := 152) C.1 C.2.1 dX4_operate_143 (by decide) ?_
                      refine mI_st (k := 30) (j := f) C hR hS (by simp only [mAr]; decide) rfl (show f < 6 by omega) dX4_operate_152 (fun M19 H locs eM19 hR hS => ?_)
                      refine lv_iload C.1 C.2.1 dX4_operate_153 (lv_at hl 0 rfl) ?_
                      refine lv_if_eq (tgt := 163) C.1 C.2.1 dX4_operate_155 (by decide) (fun c155 => ?_) (fun c155 => ?_)
                      · skip
                        exact absurd c155 (by decide)
                      · skip
                        refine lv_iload C.1 C.2.1 dX4_operate_158 (lv_at hl 1 rfl) ?_
                        refine lv_goto (tgt := 164) C.1 C.2.1 dX4_operate_160 (by decide) ?_
                        refine lv_istore_n (lv' := [(2, .int (nI (wr N (f + i)))), (5, .int (nI 1)), (4, .int (nI (wr N (f + i)))), (3, .int (nI i)), (0, .ref d), (1, .int (nI f))]) C.1 C.2.1 dX4_operate_164 rfl hl (by decide) rfl (fun ls hl => ?_)
                        refine lv_iinc (v := nI (i + 1)) (lv' := [(3, .int (nI (i + 1))), (2, .int (nI (wr N (f + i)))), (5, .int (nI 1)), (4, .int (nI (wr N (f + i)))), (0, .ref d), (1, .int (nI f))]) C.1 C.2.1 dX4_operate_165 hl (k := 3) rfl (nI_add _ _) (by decide) rfl (fun ls hl => ?_)
                        refine lv_goto (tgt := 4) C.1 C.2.1 dX4_operate_168 (by decide) ?_
                        obtain ⟨k, rfl⟩ : ∃ k2, k = k2 + 1 := ⟨k - 1, by omega⟩
                        have hb : mwins N M f (k + 1) i w = mwins N M f k (i + 1) i := congrArg (mwins N M f k (i + 1)) (if_pos (by first | exact Or.inl c100 | exact Or.inr ⟨c116, by omega⟩))
                        have hb2 : mop N M f (i + 1) i = M19 := by rw [eM19, eM18, eM17, eM16, eM15, eM14, eM13, eM12, eM9]; exact mop_step.symm
                        rw [← hb2] at hR
                        exact ih k (i + 1) i H locs ls (by omega) (by omega) (by omega) (by omega) (by omega) (hr2.trans hb) hR hS (lv_sub hl [0, 1, 4, 5] rfl)
                  · skip
                    refine lv_aload_n C.1 C.2.1 dX4_operate_103 rfl (lv_at hl 3 rfl) ?_
                    refine m_get C hR 5 (by decide) rfl fl_X4_16 (v := .ref (mA d 5)) rfl dX4_operate_104 ?_
                    refine lv_iload C.1 C.2.1 dX4_operate_107 (lv_at hl 0 rfl) ?_
                    refine mI_ld (k := 5) (j := wr N (f + i)) C hR (by simp only [mAr]; decide) rfl (show wr N (f + i) < 6 by omega) dX4_operate_109 ?_
                    refine lv_re (y := M 5 (wr N (f + i))) (by rw [eM18, up2_f (by decide), eM17, up2_f (by decide), eM16, up2_f (by decide), eM15, up2_f (by decide), eM14, up2_f (by decide), eM13, up2_f (by decide), eM12, up2_f (by decide), eM9, mop_o (by decide) (by decide)]) ?_
                    refine lv_aload_n C.1 C.2.1 dX4_operate_110 rfl (lv_at hl 3 rfl) ?_
                    refine m_get C hR 5 (by decide) rfl fl_X4_16 (v := .ref (mA d 5)) rfl dX4_operate_111 ?_
                    refine lv_iload_n C.1 C.2.1 dX4_operate_114 rfl (lv_at hl 2 rfl) ?_
                    refine mI_ld (k := 5) (j := wr N (f + w)) C hR (by simp only [mAr]; decide) rfl (show wr N (f + w) < 6 by omega) dX4_operate_115 ?_
                    refine lv_re (y := M 5 (wr N (f + w))) (by rw [eM18, up2_f (by decide), eM17, up2_f (by decide), eM16, up2_f (by decide), eM15, up2_f (by decide), eM14, up2_f (by decide), eM13, up2_f (by decide), eM12, up2_f (by decide), eM9, mop_o (by decide) (by decide)]) ?_
                    refine lv_icmp_ne (tgt := 129) C.1 C.2.1 dX4_operate_116 (by decide) (fun c116 => ?_) (fun c116 => ?_)
                    · skip
                      refine lv_iconst (v := nI 0) C.1 C.2.1 dX4_operate_129 (by decide) ?_
                      refine lv_istore (lv' := [(5, .int (nI 0)), (4, .int (nI (wr N (f + i)))), (3, .int (nI i)), (2, .int (nI (wr N (f + w)))), (0, .ref d), (1, .int (nI f))]) C.1 C.2.1 dX4_operate_130 hl (by decide) rfl (fun ls hl => ?_)
                      refine lv_aload_n C.1 C.2.1 dX4_operate_132 rfl (lv_at hl 4 rfl) ?_
                      refine m_get C hR 30 (by decide) rfl fl_X4_93 (v := .ref (mA d 30)) rfl dX4_operate_133 ?_
                      refine lv_iload_n C.1 C.2.1 dX4_operate_136 rfl (lv_at hl 5 rfl) ?_
                      refine lv_iload C.1 C.2.1 dX4_operate_137 (lv_at hl 0 rfl) ?_
                      refine lv_if_eq (tgt := 146) C.1 C.2.1 dX4_operate_139 (by decide) (fun c139 => ?_) (fun c139 => ?_)
                      · skip
                        refine lv_aload_n C.1 C.2.1 dX4_operate_146 rfl (lv_at hl 4 rfl) ?_
                        refine m_get C hR 30 (by decide) rfl fl_X4_93 (v := .ref (mA d 30)) rfl dX4_operate_147 ?_
                        refine lv_iload_n C.1 C.2.1 dX4_operate_150 rfl (lv_at hl 5 rfl) ?_
                        refine mI_ld (k := 30) (j := f) C hR (by simp only [mAr]; decide) rfl (show f < 6 by omega) dX4_operate_151 ?_
                        refine lv_re (y := nI w) (by rw [eM18, up2_f (by decide), eM17, up2_f (by decide), eM16, up2_f (by decide), eM15, up2_f (by decide), eM14, up2_f (by decide), eM13, up2_f (by decide), eM12, up2_f (by decide), g30]) ?_
                        refine mI_st (k := 30) (j := f) C hR hS (by simp only [mAr]; decide) rfl (show f < 6 by omega) dX4_operate_152 (fun M20 H locs eM20 hR hS => ?_)
                        refine lv_iload C.1 C.2.1 dX4_operate_153 (lv_at hl 0 rfl) ?_
                        refine lv_if_eq (tgt := 163) C.1 C.2.1 dX4_operate_155 (by decide) (fun c155 => ?_) (fun c155 => ?_)
                        · skip
                          refine lv_iload_n C.1 C.2.1 dX4_operate_163 rfl (lv_at hl 3 rfl) ?_
                          refine lv_istore_n (lv' := [(2, .int (nI (wr N (f + w)))), (5, .int (nI 0)), (4, .int (nI (wr N (f + i)))), (3, .int (nI i)), (0, .ref d), (1, .int (nI f))]) C.1 C.2.1 dX4_operate_164 rfl hl (by decide) rfl (fun ls hl => ?_)
                          refine lv_iinc (v := nI (i + 1)) (lv' := [(3, .int (nI (i + 1))), (2, .int (nI (wr N (f + w)))), (5, .int (nI 0)), (4, .int (nI (wr N (f + i)))), (0, .ref d), (1, .int (nI f))]) C.1 C.2.1 dX4_operate_165 hl (k := 3) rfl (nI_add _ _) (by decide) rfl (fun ls hl => ?_)
                          refine lv_goto (tgt := 4) C.1 C.2.1 dX4_operate_168 (by decide) ?_
                          obtain ⟨k, rfl⟩ : ∃ k2, k = k2 + 1 := ⟨k - 1, by omega⟩
                          have hb : mwins N M f (k + 1) i w = mwins N M f k (i + 1) w := congrArg (mwins N M f k (i + 1)) (if_neg (by intro h; rcases h with h | ⟨h1, h2⟩; exact c100 h; first | exact c116 h1 | omega))
                          have hb2 : mop N M f (i + 1) w = M20 := by rw [eM20, eM18, eM17, eM16, eM15, eM14, eM13, eM12, eM9]; exact mop_step.symm
                          rw [← hb2] at hR
                          exact ih k (i + 1) w H locs ls (by omega) (by omega) (by omega) (by omega) (by omega) (hr2.trans hb) hR hS (lv_sub hl [0, 1, 4, 5] rfl)
                        · skip
                          exact absurd c155 (by decide)
                      · skip
                        exact absurd c139 (by decide)
                    · skip
                      refine lv_iload C.1 C.2.1 dX4_operate_119 (lv_at hl 0 rfl) ?_
                      refine lv_iload_n C.1 C.2.1 dX4_operate_121 rfl (lv_at hl 2 rfl) ?_
                      refine lv_icmp_le (tgt := 129) C.1 C.2.1 dX4_operate_122 (by decide) (fun c122 => ?_) (fun c122 => ?_)
                      · skip
                        have c122 : wr N (f + i) ≤ wr N (f + w) := (nI_leI (a := wr N (f + i)) (b := wr N (f + w)) (by omega) (by omega)).mp c122
                        refine lv_iconst (v := nI 0) C.1 C.2.1 dX4_operate_129 (by decide) ?_
                        refine lv_istore (lv' := [(5, .int (nI 0)), (4, .int (nI (wr N (f + i)))), (3, .int (nI i)), (2, .int (nI (wr N (f + w)))), (0, .ref d), (1, .int (nI f))]) C.1 C.2.1 dX4_operate_130 hl (by decide) rfl (fun ls hl => ?_)
                        refine lv_aload_n C.1 C.2.1 dX4_operate_132 rfl (lv_at hl 4 rfl) ?_
                        refine m_get C hR 30 (by decide) rfl fl_X4_93 (v := .ref (mA d 30)) rfl dX4_operate_133 ?_
                        refine lv_iload_n C.1 C.2.1 dX4_operate_136 rfl (lv_at hl 5 rfl) ?_
                        refine lv_iload C.1 C.2.1 dX4_operate_137 (lv_at hl 0 rfl) ?_
                        refine lv_if_eq (tgt := 146) C.1 C.2.1 dX4_operate_139 (by decide) (fun c139 => ?_) (fun c139 => ?_)
                        · skip
                          refine lv_aload_n C.1 C.2.1 dX4_operate_146 rfl (lv_at hl 4 rfl) ?_
                          refine m_get C hR 30 (by decide) rfl fl_X4_93 (v := .ref (mA d 30)) rfl dX4_operate_147 ?_
                          refine lv_iload_n C.1 C.2.1 dX4_operate_150 rfl (lv_at hl 5 rfl) ?_
                          refine mI_ld (k := 30) (j := f) C hR (by simp only [mAr]; decide) rfl (show f < 6 by omega) dX4_operate_151 ?_
                          refine lv_re (y := nI w) (by rw [eM18, up2_f (by decide), eM17, up2_f (by decide), eM16, up2_f (by decide), eM15, up2_f (by decide), eM14, up2_f (by decide), eM13, up2_f (by decide), eM12, up2_f (by decide), g30]) ?_
                          refine mI_st (k := 30) (j := f) C hR hS (by simp only [mAr]; decide) rfl (show f < 6 by omega) dX4_operate_152 (fun M21 H locs eM21 hR hS => ?_)
                          refine lv_iload C.1 C.2.1 dX4_operate_153 (lv_at hl 0 rfl) ?_
                          refine lv_if_eq (tgt := 163) C.1 C.2.1 dX4_operate_155 (by decide) (fun c155 => ?_) (fun c155 => ?_)
                          · skip
                            refine lv_iload_n C.1 C.2.1 dX4_operate_163 rfl (lv_at hl 3 rfl) ?_
                            refine lv_istore_n (lv' := [(2, .int (nI (wr N (f + w)))), (5, .int (nI 0)), (4, .int (nI (wr N (f + i)))), (3, .int (nI i)), (0, .ref d), (1, .int (nI f))]) C.1 C.2.1 dX4_operate_164 rfl hl (by decide) rfl (fun ls hl => ?_)
                            refine lv_iinc (v := nI (i + 1)) (lv' := [(3, .int (nI (i + 1))), (2, .int (nI (wr N (f + w)))), (5, .int (nI 0)), (4, .int (nI (wr N (f + i)))), (0, .ref d), (1, .int (nI f))]) C.1 C.2.1 dX4_operate_165 hl (k := 3) rfl (nI_add _ _) (by decide) rfl (fun ls hl => ?_)
                            refine lv_goto (tgt := 4) C.1 C.2.1 dX4_operate_168 (by decide) ?_
                            obtain ⟨k, rfl⟩ : ∃ k2, k = k2 + 1 := ⟨k - 1, by omega⟩
                            have hb : mwins N M f (k + 1) i w = mwins N M f k (i + 1) w := congrArg (mwins N M f k (i + 1)) (if_neg (by intro h; rcases h with h | ⟨h1, h2⟩; exact c100 h; first | exact c116 h1 | omega))
                            have hb2 : mop N M f (i + 1) w = M21 := by rw [eM21, eM18, eM17, eM16, eM15, eM14, eM13, eM12, eM9]; exact mop_step.symm
                            rw [← hb2] at hR
                            exact ih k (i + 1) w H locs ls (by omega) (by omega) (by omega) (by omega) (by omega) (hr2.trans hb) hR hS (lv_sub hl [0, 1, 4, 5] rfl)
                          · skip
                            exact absurd c155 (by decide)
                        · skip
                          exact absurd c139 (by decide)
                      · skip
                        have c122 : ¬ (wr N (f + i) ≤ wr N (f + w)) := mt (nI_leI (a := wr N (f + i)) (b := wr N (f + w)) (by omega) (by omega)).mpr c122
                        refine lv_iconst (v := nI 1) C.1 C.2.1 dX4_operate_125 (by decide) ?_
                        refine lv_goto (tgt := 130) C.1 C.2.1 dX4_operate_126 (by decide) ?_
                        refine lv_istore (lv' := [(5, .int (nI 1)), (4, .int (nI (wr N (f + i)))), (3, .int (nI i)), (2, .int (nI (wr N (f + w)))), (0, .ref d), (1, .int (nI f))]) C.1 C.2.1 dX4_operate_130 hl (by decide) rfl (fun ls hl => ?_)
                        refine lv_aload_n C.1 C.2.1 dX4_operate_132 rfl (lv_at hl 4 rfl) ?_
                        refine m_get C hR 30 (by decide) rfl fl_X4_93 (v := .ref (mA d 30)) rfl dX4_operate_133 ?_
                        refine lv_iload_n C.1 C.2.1 dX4_operate_136 rfl (lv_at hl 5 rfl) ?_
                        refine lv_iload C.1 C.2.1 dX4_operate_137 (lv_at hl 0 rfl) ?_
                        refine lv_if_eq (tgt := 146) C.1 C.2.1 dX4_operate_139 (by decide) (fun c139 => ?_) (fun c139 => ?_)
                        · skip
                          exact absurd c139 (by decide)
                        · skip
                          refine lv_iload_n C.1 C.2.1 dX4_operate_142 rfl (lv_at hl 2 rfl) ?_
                          refine lv_goto (tgt := 152) C.1 C.2.1 dX4_operate_143 (by decide) ?_
                          refine mI_st (k := 30) (j := f) C hR hS (by simp only [mAr]; decide) rfl (show f < 6 by omega) dX4_operate_152 (fun M22 H locs eM22 hR hS => ?_)
                          refine lv_iload C.1 C.2.1 dX4_operate_153 (lv_at hl 0 rfl) ?_
                          refine lv_if_eq (tgt := 163) C.1 C.2.1 dX4_operate_155 (by decide) (fun c155 => ?_) (fun c155 => ?_)
                          · skip
                            exact absurd c155 (by decide)
                          · skip
                            refine lv_iload C.1 C.2.1 dX4_operate_158 (lv_at hl 1 rfl) ?_
                            refine lv_goto (tgt := 164) C.1 C.2.1 dX4_operate_160 (by decide) ?_
                            refine lv_istore_n (lv' := [(2, .int (nI (wr N (f + i)))), (5, .int (nI 1)), (4, .int (nI (wr N (f + i)))), (3, .int (nI i)), (0, .ref d), (1, .int (nI f))]) C.1 C.2.1 dX4_operate_164 rfl hl (by decide) rfl (fun ls hl => ?_)
                            refine lv_iinc (v := nI (i + 1)) (lv' := [(3, .int (nI (i + 1))), (2, .int (nI (wr N (f + i)))), (5, .int (nI 1)), (4, .int (nI (wr N (f + i)))), (0, .ref d), (1, .int (nI f))]) C.1 C.2.1 dX4_operate_165 hl (k := 3) rfl (nI_add _ _) (by decide) rfl (fun ls hl => ?_)
                            refine lv_goto (tgt := 4) C.1 C.2.1 dX4_operate_168 (by decide) ?_
                            obtain ⟨k, rfl⟩ : ∃ k2, k = k2 + 1 := ⟨k - 1, by omega⟩
                            have hb : mwins N M f (k + 1) i w = mwins N M f k (i + 1) i := congrArg (mwins N M f k (i + 1)) (if_pos (by first | exact Or.inl c100 | exact Or.inr ⟨c116, by omega⟩))
                            have hb2 : mop N M f (i + 1) i = M22 := by rw [eM22, eM18, eM17, eM16, eM15, eM14, eM13, eM12, eM9]; exact mop_step.symm
                            rw [← hb2] at hR
                            exact ih k (i + 1) i H locs ls (by omega) (by omega) (by omega) (by omega) (by omega) (hr2.trans hb) hR hS (lv_sub hl [0, 1, 4, 5] rfl)
          exact lp _ (L - 1) 1 0 _ _ ls (Nat.lt_succ_self _) (by omega) (by omega) (by omega) (by omega) rfl hR hS (lv_sub hl [0, 1, 4, 5] rfl)
    · skip
      exact absurd c84 (by decide)
end
