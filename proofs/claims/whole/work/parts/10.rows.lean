theorem nz_n {v : Int32} (h : v = 0 ∨ v = 1) : narrow .boolean (.int v) = .int v := by rcases h with rfl | rfl <;> rfl
theorem nz_f {v : Int32} (h : v = 0 ∨ v = 1) : fits .boolean (.int v) = true := by rcases h with rfl | rfl <;> rfl
theorem kf_X2_63 : Cond.constantFloat RX2 63 1048576000 ∈ tb := tb_in 365 (by decide +kernel) (by decide +kernel)
theorem kf_X4_149 : Cond.constantFloat RX4 149 1048576000 ∈ tb := tb_in 626 (by decide +kernel) (by decide +kernel)
section ROWS
variable {p : Program} {l : Launch} {e : Env} {R : Room} {s : State} {m : MethodId} {args : Array Value} {below : List Frame} {meth : Method} {c : Code} {H H0 : Heap} {locs : List Loc} {cells slots : Nat} {Q : State → Prop}
variable {cc : ByteArray} {nL pc index : Nat} {ls : Array Slot} {rest : List Value} {g : GX} {own : String}
theorem lv_re {x y : Int32} (h : x = y) (k : W p l e R s m args below meth c H locs cells slots Q (F0 m pc ls (.int y :: rest))) : W p l e R s m args below meth c H locs cells slots Q (F0 m pc ls (.int x :: rest)) := by subst h; exact k
theorem n_iadd {x y z : Nat} (C : Cx g p s m args c cc nL own) (hdg : decode cc pc = .ok (.iadd, 1)) (h : x + y = z) (k : W p l e R s m args below meth c H locs cells slots Q (F0 m (pc + 1) ls (.int (nI z) :: rest))) : W p l e R s m args below meth c H locs cells slots Q (F0 m pc ls (.int (nI y) :: .int (nI x) :: rest)) :=
  lv_iadd C.1 C.2.1 hdg (lv_re (y := nI z) (by rw [nI_add, h]) k)
theorem n_imul {x y z : Nat} (C : Cx g p s m args c cc nL own) (hdg : decode cc pc = .ok (.imul, 1)) (h : x * y = z) (k : W p l e R s m args below meth c H locs cells slots Q (F0 m (pc + 1) ls (.int (nI z) :: rest))) : W p l e R s m args below meth c H locs cells slots Q (F0 m pc ls (.int (nI y) :: .int (nI x) :: rest)) :=
  lv_imul C.1 C.2.1 hdg (lv_re (y := nI z) (by rw [pk_mul, h]) k)
theorem n_isub {x y : Nat} (C : Cx g p s m args c cc nL own) (h : y ≤ x) (hdg : decode cc pc = .ok (.isub, 1)) (k : W p l e R s m args below meth c H locs cells slots Q (F0 m (pc + 1) ls (.int (nI (x - y)) :: rest))) : W p l e R s m args below meth c H locs cells slots Q (F0 m pc ls (.int (nI y) :: .int (nI x) :: rest)) :=
  lv_isub C.1 C.2.1 hdg (lv_re (y := nI (x - y)) (pk_sub h) k)
theorem n_idiv {x y : Nat} (C : Cx g p s m args c cc nL own) (ha : x < 2147483648) (h0 : 0 < y) (hb : y < 2147483648) (hdg : decode cc pc = .ok (.idiv, 1)) (k : W p l e R s m args below meth c H locs cells slots Q (F0 m (pc + 1) ls (.int (nI (x / y)) :: rest))) : W p l e R s m args below meth c H locs cells slots Q (F0 m pc ls (.int (nI y) :: .int (nI x) :: rest)) :=
  lv_idiv C.1 C.2.1 hdg (nI_ne0 h0 hb) (lv_re (y := nI (x / y)) (pk_div ha h0 hb) k)
theorem n_irem {x y : Nat} (C : Cx g p s m args c cc nL own) (ha : x < 2147483648) (h0 : 0 < y) (hb : y < 2147483648) (hdg : decode cc pc = .ok (.irem, 1)) (k : W p l e R s m args below meth c H locs cells slots Q (F0 m (pc + 1) ls (.int (nI (x % y)) :: rest))) : W p l e R s m args below meth c H locs cells slots Q (F0 m pc ls (.int (nI y) :: .int (nI x) :: rest)) :=
  lv_irem C.1 C.2.1 hdg (nI_ne0 h0 hb) (lv_re (y := nI (x % y)) (pk_rem ha h0 hb) k)
end ROWS
