set_option maxHeartbeats 4000000 in
set_option maxRecDepth 100000 in
theorem c_X1_init (l : Launch) (g : GG) (q : Nat)  : INv g l yX1_init cX1_init 1 1 1 42 [(q, .inr (1, [.null]))] [.ref q] (fun (_ : Nat) => True) (fun (q0 : Nat) => [(q, .inr (1, [.ref q0])), (q0, cN g 42 (fun _ => 0))]) := by
  refine in_start (by decide +kernel) (Nat.le_of_ble_eq_true rfl) ?_
  intro p e s m args below meth c Q A ls C hinit hK hA ret hP hD hS hl
  have C : CT p s m args meth c cX1_init RX1 1 := C
  have hinit : meth.name = "<init>" := hinit
  have hl : lv_has ls 1 [(0, .ref q)] := hl
  refine lv_aload_n C.1 C.2.1 dX1_init_0 rfl (lv_at hl 0 rfl) ?_
  refine r_objI C kl_X1_3 hl dX1_init_1 (Nat.le_of_ble_eq_true rfl) (Nat.le_of_ble_eq_true rfl) ?_
  refine lv_aload_n C.1 C.2.1 dX1_init_4 rfl (lv_at hl 0 rfl) ?_
  refine r_bipush 42 C dX1_init_5 (by decide) ?_
  refine r_newaN C hK hP hD hS hA (by decide) (Nat.le_of_ble_eq_true rfl) (Nat.le_of_ble_eq_true rfl) dX1_init_7 (fun q0 H hP hD hS => ?_)
  have hP : va_P g.1 vwCl [(q, .inr (1, [.null])), (q0, cN g 42 (fun _ => 0))] H := hP
  have hD : va_D A [(q, .inr (1, [.null])), (q0, cN g 42 (fun _ => 0))] := hD
  refine r_putF (v := .ref q0) C hinit hK hP hD hS kw_X1 tyX1_ok nmX1 (ci := 1) rfl 0 0 (by decide) kf_X1_9 rfl rfl rfl rfl rfl rfl (Nat.le_of_ble_eq_true rfl) dX1_init_9 (fun H locs hP hD hS => ?_)
  have hP : va_P g.1 vwCl [(q, .inr (1, [.ref q0])), (q0, cN g 42 (fun _ => 0))] H := hP
  have hD : va_D A [(q, .inr (1, [.ref q0])), (q0, cN g 42 (fun _ => 0))] := hD
  refine W.widen (k := 1) (n := 42) (Nat.le_of_ble_eq_true rfl) (Nat.le_of_ble_eq_true rfl) ?_
  exact ret (pc := 12) (q0) dX1_init_12 hS hP hD trivial
set_option maxHeartbeats 4000000 in
set_option maxRecDepth 100000 in
theorem c_X3_init (l : Launch) (g : GG) (rc0 : Nat)  : INv g l yX3_init cX3_init 1 1 2 144 [(rc0, .inr (2, [.null, .null]))] [.ref rc0] (fun (_ : Nat × Nat) => True) (fun (uq_ : Nat × Nat) => match uq_ with | (rl0, rh0) => [(rc0, .inr (2, [.ref rl0, .ref rh0])), (rl0, cM g 72 (fun _ => 0)), (rh0, cM g 72 (fun _ => 0))]) := by
  refine in_start (by decide +kernel) (Nat.le_of_ble_eq_true rfl) ?_
  intro p e s m args below meth c Q A ls C hinit hK hA ret hP hD hS hl
  have C : CT p s m args meth c cX3_init RX3 1 := C
  have hinit : meth.name = "<init>" := hinit
  have hl : lv_has ls 1 [(0, .ref rc0)] := hl
  refine lv_aload_n C.1 C.2.1 dX3_init_0 rfl (lv_at hl 0 rfl) ?_
  refine r_objI C kl_X3_3 hl dX3_init_1 (Nat.le_of_ble_eq_true rfl) (Nat.le_of_ble_eq_true rfl) ?_
  refine lv_aload_n C.1 C.2.1 dX3_init_4 rfl (lv_at hl 0 rfl) ?_
  refine r_bipush 72 C dX3_init_5 (by decide) ?_
  refine r_newaM C hK hP hD hS hA (by decide) (Nat.le_of_ble_eq_true rfl) (Nat.le_of_ble_eq_true rfl) dX3_init_7 (fun rl0 H hP hD hS => ?_)
  have hP : va_P g.1 vwCl [(rc0, .inr (2, [.null, .null])), (rl0, cM g 72 (fun _ => 0))] H := hP
  have hD : va_D A [(rc0, .inr (2, [.null, .null])), (rl0, cM g 72 (fun _ => 0))] := hD
  refine r_putF (v := .ref rl0) C hinit hK hP hD hS kw_X3 tyX3_ok nmX3 (ci := 2) rfl 0 0 (by decide) kf_X3_9 rfl rfl rfl rfl rfl rfl (Nat.le_of_ble_eq_true rfl) dX3_init_9 (fun H locs hP hD hS => ?_)
  have hP : va_P g.1 vwCl [(rc0, .inr (2, [.ref rl0, .null])), (rl0, cM g 72 (fun _ => 0))] H := hP
  have hD : va_D A [(rc0, .inr (2, [.ref rl0, .null])), (rl0, cM g 72 (fun _ => 0))] := hD
  refine lv_aload_n C.1 C.2.1 dX3_init_12 rfl (lv_at hl 0 rfl) ?_
  refine r_bipush 72 C dX3_init_13 (by decide) ?_
  refine r_newaM C hK hP hD hS hA (by decide) (Nat.le_of_ble_eq_true rfl) (Nat.le_of_ble_eq_true rfl) dX3_init_15 (fun rh0 H hP hD hS => ?_)
  have hP : va_P g.1 vwCl [(rc0, .inr (2, [.ref rl0, .null])), (rl0, cM g 72 (fun _ => 0)), (rh0, cM g 72 (fun _ => 0))] H := hP
  have hD : va_D A [(rc0, .inr (2, [.ref rl0, .null])), (rl0, cM g 72 (fun _ => 0)), (rh0, cM g 72 (fun _ => 0))] := hD
  refine r_putF (v := .ref rh0) C hinit hK hP hD hS kw_X3 tyX3_ok nmX3 (ci := 2) rfl 0 1 (by decide) kf_X3_15 rfl rfl rfl rfl rfl rfl (Nat.le_of_ble_eq_true rfl) dX3_init_17 (fun H locs hP hD hS => ?_)
  have hP : va_P g.1 vwCl [(rc0, .inr (2, [.ref rl0, .ref rh0])), (rl0, cM g 72 (fun _ => 0)), (rh0, cM g 72 (fun _ => 0))] H := hP
  have hD : va_D A [(rc0, .inr (2, [.ref rl0, .ref rh0])), (rl0, cM g 72 (fun _ => 0)), (rh0, cM g 72 (fun _ => 0))] := hD
  refine W.widen (k := 2) (n := 144) (Nat.le_of_ble_eq_true rfl) (Nat.le_of_ble_eq_true rfl) ?_
  exact ret (pc := 20) (rl0, rh0) dX3_init_20 hS hP hD trivial
set_option maxHeartbeats 4000000 in
set_option maxRecDepth 100000 in
theorem c_X4_init (l : Launch) (g : GG) (rd0 : Nat)  : INv g l yX4_init cX4_init 1 1 1 4 [(rd0, .inr (3, [.null, nV 0]))] [.ref rd0] (fun (_ : Nat) => True) (fun (rd1 : Nat) => [(rd0, .inr (3, [.ref rd1, nV 0])), (rd1, cN g 4 (fun _ => 0))]) := by
  refine in_start (by decide +kernel) (Nat.le_of_ble_eq_true rfl) ?_
  intro p e s m args below meth c Q A ls C hinit hK hA ret hP hD hS hl
  have C : CT p s m args meth c cX4_init RX4 1 := C
  have hinit : meth.name = "<init>" := hinit
  have hl : lv_has ls 1 [(0, .ref rd0)] := hl
  refine lv_aload_n C.1 C.2.1 dX4_init_0 rfl (lv_at hl 0 rfl) ?_
  refine r_objI C kl_X4_3 hl dX4_init_1 (Nat.le_of_ble_eq_true rfl) (Nat.le_of_ble_eq_true rfl) ?_
  refine lv_aload_n C.1 C.2.1 dX4_init_4 rfl (lv_at hl 0 rfl) ?_
  refine r_iconst 4 C dX4_init_5 rfl ?_
  refine r_newaN C hK hP hD hS hA (by decide) (Nat.le_of_ble_eq_true rfl) (Nat.le_of_ble_eq_true rfl) dX4_init_6 (fun rd1 H hP hD hS => ?_)
  have hP : va_P g.1 vwCl [(rd0, .inr (3, [.null, nV 0])), (rd1, cN g 4 (fun _ => 0))] H := hP
  have hD : va_D A [(rd0, .inr (3, [.null, nV 0])), (rd1, cN g 4 (fun _ => 0))] := hD
  refine r_putF (v := .ref rd1) C hinit hK hP hD hS kw_X4 tyX4_ok nmX4 (ci := 3) rfl 0 0 (by decide) kf_X4_9 rfl rfl rfl rfl rfl rfl (Nat.le_of_ble_eq_true rfl) dX4_init_8 (fun H locs hP hD hS => ?_)
  have hP : va_P g.1 vwCl [(rd0, .inr (3, [.ref rd1, nV 0])), (rd1, cN g 4 (fun _ => 0))] H := hP
  have hD : va_D A [(rd0, .inr (3, [.ref rd1, nV 0])), (rd1, cN g 4 (fun _ => 0))] := hD
  refine W.widen (k := 1) (n := 4) (Nat.le_of_ble_eq_true rfl) (Nat.le_of_ble_eq_true rfl) ?_
  exact ret (pc := 11) (rd1) dX4_init_11 hS hP hD trivial
set_option maxHeartbeats 4000000 in
set_option maxRecDepth 100000 in
theorem c_X7_init (l : Launch) (g : GG) (t : Nat)  : INv g l yX7_init cX7_init 1 1 1 300 [(t, .inr (5, [.null, nV 0]))] [.ref t] (fun (_ : Nat) => True) (fun (t0 : Nat) => [(t, .inr (5, [.ref t0, nV 0])), (t0, cB g 300 (fun _ => 0))]) := by
  refine in_start (by decide +kernel) (Nat.le_of_ble_eq_true rfl) ?_
  intro p e s m args below meth c Q A ls C hinit hK hA ret hP hD hS hl
  have C : CT p s m args meth c cX7_init RX7 1 := C
  have hinit : meth.name = "<init>" := hinit
  have hl : lv_has ls 1 [(0, .ref t)] := hl
  refine lv_aload_n C.1 C.2.1 dX7_init_0 rfl (lv_at hl 0 rfl) ?_
  refine r_objI C kl_X7_1 hl dX7_init_1 (Nat.le_of_ble_eq_true rfl) (Nat.le_of_ble_eq_true rfl) ?_
  refine lv_aload_n C.1 C.2.1 dX7_init_4 rfl (lv_at hl 0 rfl) ?_
  refine r_sipush 300 C dX7_init_5 (by decide) ?_
  refine r_newaB C hK hP hD hS hA (by decide) (Nat.le_of_ble_eq_true rfl) (Nat.le_of_ble_eq_true rfl) dX7_init_8 (fun t0 H hP hD hS => ?_)
  have hP : va_P g.1 vwCl [(t, .inr (5, [.null, nV 0])), (t0, cB g 300 (fun _ => 0))] H := hP
  have hD : va_D A [(t, .inr (5, [.null, nV 0])), (t0, cB g 300 (fun _ => 0))] := hD
  refine r_putF (v := .ref t0) C hinit hK hP hD hS kw_X7 tyX7_ok nmX7 (ci := 5) rfl 0 0 (by decide) kf_X7_9 rfl rfl rfl rfl rfl rfl (Nat.le_of_ble_eq_true rfl) dX7_init_10 (fun H locs hP hD hS => ?_)
  have hP : va_P g.1 vwCl [(t, .inr (5, [.ref t0, nV 0])), (t0, cB g 300 (fun _ => 0))] H := hP
  have hD : va_D A [(t, .inr (5, [.ref t0, nV 0])), (t0, cB g 300 (fun _ => 0))] := hD
  refine W.widen (k := 1) (n := 300) (Nat.le_of_ble_eq_true rfl) (Nat.le_of_ble_eq_true rfl) ?_
  exact ret (pc := 13) (t0) dX7_init_13 hS hP hD trivial
set_option maxHeartbeats 4000000 in
set_option maxRecDepth 100000 in
theorem c_X0_init (l : Launch) (g : GG) (se : Nat) (rc0 : Nat)  : INv g l yX0_init cX0_init 2 1 2 6 [(se, .inr (0, [.null, .null, .null, nV 0, nV 0]))] [.ref se, .ref rc0] (fun (_ : Nat × Nat) => True) (fun (uq_ : Nat × Nat) => match uq_ with | (ca, ba) => [(se, .inr (0, [.ref rc0, .ref ca, .ref ba, nV 0, nV 0])), (ca, cN g 3 (fun _ => 0)), (ba, cN g 3 (fun _ => 0))]) := by
  refine in_start (by decide +kernel) (Nat.le_of_ble_eq_true rfl) ?_
  intro p e s m args below meth c Q A ls C hinit hK hA ret hP hD hS hl
  have C : CT p s m args meth c cX0_init RX0 2 := C
  have hinit : meth.name = "<init>" := hinit
  have hl : lv_has ls 2 [(0, .ref se), (1, .ref rc0)] := hl
  refine lv_aload_n C.1 C.2.1 dX0_init_0 rfl (lv_at hl 0 rfl) ?_
  refine r_objI C kl_X0_3 hl dX0_init_1 (Nat.le_of_ble_eq_true rfl) (Nat.le_of_ble_eq_true rfl) ?_
  refine lv_aload_n C.1 C.2.1 dX0_init_4 rfl (lv_at hl 0 rfl) ?_
  refine r_iconst 3 C dX0_init_5 rfl ?_
  refine r_newaN C hK hP hD hS hA (by decide) (Nat.le_of_ble_eq_true rfl) (Nat.le_of_ble_eq_true rfl) dX0_init_6 (fun ca H hP hD hS => ?_)
  have hP : va_P g.1 vwCl [(se, .inr (0, [.null, .null, .null, nV 0, nV 0])), (ca, cN g 3 (fun _ => 0))] H := hP
  have hD : va_D A [(se, .inr (0, [.null, .null, .null, nV 0, nV 0])), (ca, cN g 3 (fun _ => 0))] := hD
  refine r_putF (v := .ref ca) C hinit hK hP hD hS kw_X0 tyX0_ok nmX0 (ci := 0) rfl 0 1 (by decide) kf_X0_9 rfl rfl rfl rfl rfl rfl (Nat.le_of_ble_eq_true rfl) dX0_init_8 (fun H locs hP hD hS => ?_)
  have hP : va_P g.1 vwCl [(se, .inr (0, [.null, .ref ca, .null, nV 0, nV 0])), (ca, cN g 3 (fun _ => 0))] H := hP
  have hD : va_D A [(se, .inr (0, [.null, .ref ca, .null, nV 0, nV 0])), (ca, cN g 3 (fun _ => 0))] := hD
  refine lv_aload_n C.1 C.2.1 dX0_init_11 rfl (lv_at hl 0 rfl) ?_
  refine r_iconst 3 C dX0_init_12 rfl ?_
  refine r_newaN C hK hP hD hS hA (by decide) (Nat.le_of_ble_eq_true rfl) (Nat.le_of_ble_eq_true rfl) dX0_init_13 (fun ba H hP hD hS => ?_)
  have hP : va_P g.1 vwCl [(se, .inr (0, [.null, .ref ca, .null, nV 0, nV 0])), (ca, cN g 3 (fun _ => 0)), (ba, cN g 3 (fun _ => 0))] H := hP
  have hD : va_D A [(se, .inr (0, [.null, .ref ca, .null, nV 0, nV 0])), (ca, cN g 3 (fun _ => 0)), (ba, cN g 3 (fun _ => 0))] := hD
  refine r_putF (v := .ref ba) C hinit hK hP hD hS kw_X0 tyX0_ok nmX0 (ci := 0) rfl 0 2 (by decide) kf_X0_15 rfl rfl rfl rfl rfl rfl (Nat.le_of_ble_eq_true rfl) dX0_init_15 (fun H locs hP hD hS => ?_)
  have hP : va_P g.1 vwCl [(se, .inr (0, [.null, .ref ca, .ref ba, nV 0, nV 0])), (ca, cN g 3 (fun _ => 0)), (ba, cN g 3 (fun _ => 0))] H := hP
  have hD : va_D A [(se, .inr (0, [.null, .ref ca, .ref ba, nV 0, nV 0])), (ca, cN g 3 (fun _ => 0)), (ba, cN g 3 (fun _ => 0))] := hD
  refine lv_aload_n C.1 C.2.1 dX0_init_18 rfl (lv_at hl 0 rfl) ?_
  refine lv_aload_n C.1 C.2.1 dX0_init_19 rfl (lv_at hl 1 rfl) ?_
  refine r_putF (v := .ref rc0) C hinit hK hP hD hS kw_X0 tyX0_ok nmX0 (ci := 0) rfl 0 0 (by decide) kf_X0_18 rfl rfl rfl rfl rfl rfl (Nat.le_of_ble_eq_true rfl) dX0_init_20 (fun H locs hP hD hS => ?_)
  have hP : va_P g.1 vwCl [(se, .inr (0, [.ref rc0, .ref ca, .ref ba, nV 0, nV 0])), (ca, cN g 3 (fun _ => 0)), (ba, cN g 3 (fun _ => 0))] H := hP
  have hD : va_D A [(se, .inr (0, [.ref rc0, .ref ca, .ref ba, nV 0, nV 0])), (ca, cN g 3 (fun _ => 0)), (ba, cN g 3 (fun _ => 0))] := hD
  refine W.widen (k := 2) (n := 6) (Nat.le_of_ble_eq_true rfl) (Nat.le_of_ble_eq_true rfl) ?_
  exact ret (pc := 23) (ca, ba) dX0_init_23 hS hP hD trivial
set_option maxHeartbeats 4000000 in
set_option maxRecDepth 100000 in
theorem c_X8_init (l : Launch) (g : GG) (v : Nat)  : INv g l yX8_init cX8_init 1 1 5 31 [(v, .inr (6, [.null, .null, .null, .null, .null, nV 0, nV 0, nV 0, nV 0, nV 0]))] [.ref v] (fun (_ : Nat × Nat × Nat × Nat × Nat) => True) (fun (uq_ : Nat × Nat × Nat × Nat × Nat) => match uq_ with | (v0, v1, v2, v3, v4) => [(v, .inr (6, [.ref v0, .ref v1, .ref v2, .ref v3, .ref v4, nV 0, nV 0, nV 0, nV 2, nV 3])), (v0, cN g 8 (fun _ => 0)), (v1, cN g 8 (fun _ => 0)), (v2, cN g 5 (fun _ => 0)), (v3, cN g 5 (fun _ => 0)), (v4, cN g 5 (fun _ => 0))]) := by
  refine in_start (by decide +kernel) (Nat.le_of_ble_eq_true rfl) ?_
  intro p e s m args below meth c Q A ls C hinit hK hA ret hP hD hS hl
  have C : CT p s m args meth c cX8_init RX8 1 := C
  have hinit : meth.name = "<init>" := hinit
  have hl : lv_has ls 1 [(0, .ref v)] := hl
  refine lv_aload_n C.1 C.2.1 dX8_init_0 rfl (lv_at hl 0 rfl) ?_
  refine r_objI C kl_X8_3 hl dX8_init_1 (Nat.le_of_ble_eq_true rfl) (Nat.le_of_ble_eq_true rfl) ?_
  refine lv_aload_n C.1 C.2.1 dX8_init_4 rfl (lv_at hl 0 rfl) ?_
  refine r_bipush 8 C dX8_init_5 (by decide) ?_
  refine r_newaN C hK hP hD hS hA (by decide) (Nat.le_of_ble_eq_true rfl) (Nat.le_of_ble_eq_true rfl) dX8_init_7 (fun v0 H hP hD hS => ?_)
  have hP : va_P g.1 vwCl [(v, .inr (6, [.null, .null, .null, .null, .null, nV 0, nV 0, nV 0, nV 0, nV 0])), (v0, cN g 8 (fun _ => 0))] H := hP
  have hD : va_D A [(v, .inr (6, [.null, .null, .null, .null, .null, nV 0, nV 0, nV 0, nV 0, nV 0])), (v0, cN g 8 (fun _ => 0))] := hD
  refine r_putF (v := .ref v0) C hinit hK hP hD hS kw_X8 tyX8_ok nmX8 (ci := 6) rfl 0 0 (by decide) kf_X8_11 rfl rfl rfl rfl rfl rfl (Nat.le_of_ble_eq_true rfl) dX8_init_9 (fun H locs hP hD hS => ?_)
  have hP : va_P g.1 vwCl [(v, .inr (6, [.ref v0, .null, .null, .null, .null, nV 0, nV 0, nV 0, nV 0, nV 0])), (v0, cN g 8 (fun _ => 0))] H := hP
  have hD : va_D A [(v, .inr (6, [.ref v0, .null, .null, .null, .null, nV 0, nV 0, nV 0, nV 0, nV 0])), (v0, cN g 8 (fun _ => 0))] := hD
  refine lv_aload_n C.1 C.2.1 dX8_init_12 rfl (lv_at hl 0 rfl) ?_
  refine r_bipush 8 C dX8_init_13 (by decide) ?_
  refine r_newaN C hK hP hD hS hA (by decide) (Nat.le_of_ble_eq_true rfl) (Nat.le_of_ble_eq_true rfl) dX8_init_15 (fun v1 H hP hD hS => ?_)
  have hP : va_P g.1 vwCl [(v, .inr (6, [.ref v0, .null, .null, .null, .null, nV 0, nV 0, nV 0, nV 0, nV 0])), (v0, cN g 8 (fun _ => 0)), (v1, cN g 8 (fun _ => 0))] H := hP
  have hD : va_D A [(v, .inr (6, [.ref v0, .null, .null, .null, .null, nV 0, nV 0, nV 0, nV 0, nV 0])), (v0, cN g 8 (fun _ => 0)), (v1, cN g 8 (fun _ => 0))] := hD
  refine r_putF (v := .ref v1) C hinit hK hP hD hS kw_X8 tyX8_ok nmX8 (ci := 6) rfl 0 1 (by decide) kf_X8_15 rfl rfl rfl rfl rfl rfl (Nat.le_of_ble_eq_true rfl) dX8_init_17 (fun H locs hP hD hS => ?_)
  have hP : va_P g.1 vwCl [(v, .inr (6, [.ref v0, .ref v1, .null, .null, .null, nV 0, nV 0, nV 0, nV 0, nV 0])), (v0, cN g 8 (fun _ => 0)), (v1, cN g 8 (fun _ => 0))] H := hP
  have hD : va_D A [(v, .inr (6, [.ref v0, .ref v1, .null, .null, .null, nV 0, nV 0, nV 0, nV 0, nV 0])), (v0, cN g 8 (fun _ => 0)), (v1, cN g 8 (fun _ => 0))] := hD
  refine lv_aload_n C.1 C.2.1 dX8_init_20 rfl (lv_at hl 0 rfl) ?_
  refine r_iconst 5 C dX8_init_21 rfl ?_
  refine r_newaN C hK hP hD hS hA (by decide) (Nat.le_of_ble_eq_true rfl) (Nat.le_of_ble_eq_true rfl) dX8_init_22 (fun v2 H hP hD hS => ?_)
  have hP : va_P g.1 vwCl [(v, .inr (6, [.ref v0, .ref v1, .null, .null, .null, nV 0, nV 0, nV 0, nV 0, nV 0])), (v0, cN g 8 (fun _ => 0)), (v1, cN g 8 (fun _ => 0)), (v2, cN g 5 (fun _ => 0))] H := hP
  have hD : va_D A [(v, .inr (6, [.ref v0, .ref v1, .null, .null, .null, nV 0, nV 0, nV 0, nV 0, nV 0])), (v0, cN g 8 (fun _ => 0)), (v1, cN g 8 (fun _ => 0)), (v2, cN g 5 (fun _ => 0))] := hD
  refine r_putF (v := .ref v2) C hinit hK hP hD hS kw_X8 tyX8_ok nmX8 (ci := 6) rfl 0 2 (by decide) kf_X8_18 rfl rfl rfl rfl rfl rfl (Nat.le_of_ble_eq_true rfl) dX8_init_24 (fun H locs hP hD hS => ?_)
  have hP : va_P g.1 vwCl [(v, .inr (6, [.ref v0, .ref v1, .ref v2, .null, .null, nV 0, nV 0, nV 0, nV 0, nV 0])), (v0, cN g 8 (fun _ => 0)), (v1, cN g 8 (fun _ => 0)), (v2, cN g 5 (fun _ => 0))] H := hP
  have hD : va_D A [(v, .inr (6, [.ref v0, .ref v1, .ref v2, .null, .null, nV 0, nV 0, nV 0, nV 0, nV 0])), (v0, cN g 8 (fun _ => 0)), (v1, cN g 8 (fun _ => 0)), (v2, cN g 5 (fun _ => 0))] := hD
  refine lv_aload_n C.1 C.2.1 dX8_init_27 rfl (lv_at hl 0 rfl) ?_
  refine r_iconst 5 C dX8_init_28 rfl ?_
  refine r_newaN C hK hP hD hS hA (by decide) (Nat.le_of_ble_eq_true rfl) (Nat.le_of_ble_eq_true rfl) dX8_init_29 (fun v3 H hP hD hS => ?_)
  have hP : va_P g.1 vwCl [(v, .inr (6, [.ref v0, .ref v1, .ref v2, .null, .null, nV 0, nV 0, nV 0, nV 0, nV 0])), (v0, cN g 8 (fun _ => 0)), (v1, cN g 8 (fun _ => 0)), (v2, cN g 5 (fun _ => 0)), (v3, cN g 5 (fun _ => 0))] H := hP
  have hD : va_D A [(v, .inr (6, [.ref v0, .ref v1, .ref v2, .null, .null, nV 0, nV 0, nV 0, nV 0, nV 0])), (v0, cN g 8 (fun _ => 0)), (v1, cN g 8 (fun _ => 0)), (v2, cN g 5 (fun _ => 0)), (v3, cN g 5 (fun _ => 0))] := hD
  refine r_putF (v := .ref v3) C hinit hK hP hD hS kw_X8 tyX8_ok nmX8 (ci := 6) rfl 0 3 (by decide) kf_X8_21 rfl rfl rfl rfl rfl rfl (Nat.le_of_ble_eq_true rfl) dX8_init_31 (fun H locs hP hD hS => ?_)
  have hP : va_P g.1 vwCl [(v, .inr (6, [.ref v0, .ref v1, .ref v2, .ref v3, .null, nV 0, nV 0, nV 0, nV 0, nV 0])), (v0, cN g 8 (fun _ => 0)), (v1, cN g 8 (fun _ => 0)), (v2, cN g 5 (fun _ => 0)), (v3, cN g 5 (fun _ => 0))] H := hP
  have hD : va_D A [(v, .inr (6, [.ref v0, .ref v1, .ref v2, .ref v3, .null, nV 0, nV 0, nV 0, nV 0, nV 0])), (v0, cN g 8 (fun _ => 0)), (v1, cN g 8 (fun _ => 0)), (v2, cN g 5 (fun _ => 0)), (v3, cN g 5 (fun _ => 0))] := hD
  refine lv_aload_n C.1 C.2.1 dX8_init_34 rfl (lv_at hl 0 rfl) ?_
  refine r_iconst 5 C dX8_init_35 rfl ?_
  refine r_newaN C hK hP hD hS hA (by decide) (Nat.le_of_ble_eq_true rfl) (Nat.le_of_ble_eq_true rfl) dX8_init_36 (fun v4 H hP hD hS => ?_)
  have hP : va_P g.1 vwCl [(v, .inr (6, [.ref v0, .ref v1, .ref v2, .ref v3, .null, nV 0, nV 0, nV 0, nV 0, nV 0])), (v0, cN g 8 (fun _ => 0)), (v1, cN g 8 (fun _ => 0)), (v2, cN g 5 (fun _ => 0)), (v3, cN g 5 (fun _ => 0)), (v4, cN g 5 (fun _ => 0))] H := hP
  have hD : va_D A [(v, .inr (6, [.ref v0, .ref v1, .ref v2, .ref v3, .null, nV 0, nV 0, nV 0, nV 0, nV 0])), (v0, cN g 8 (fun _ => 0)), (v1, cN g 8 (fun _ => 0)), (v2, cN g 5 (fun _ => 0)), (v3, cN g 5 (fun _ => 0)), (v4, cN g 5 (fun _ => 0))] := hD
  refine r_putF (v := .ref v4) C hinit hK hP hD hS kw_X8 tyX8_ok nmX8 (ci := 6) rfl 0 4 (by decide) kf_X8_24 rfl rfl rfl rfl rfl rfl (Nat.le_of_ble_eq_true rfl) dX8_init_38 (fun H locs hP hD hS => ?_)
  have hP : va_P g.1 vwCl [(v, .inr (6, [.ref v0, .ref v1, .ref v2, .ref v3, .ref v4, nV 0, nV 0, nV 0, nV 0, nV 0])), (v0, cN g 8 (fun _ => 0)), (v1, cN g 8 (fun _ => 0)), (v2, cN g 5 (fun _ => 0)), (v3, cN g 5 (fun _ => 0)), (v4, cN g 5 (fun _ => 0))] H := hP
  have hD : va_D A [(v, .inr (6, [.ref v0, .ref v1, .ref v2, .ref v3, .ref v4, nV 0, nV 0, nV 0, nV 0, nV 0])), (v0, cN g 8 (fun _ => 0)), (v1, cN g 8 (fun _ => 0)), (v2, cN g 5 (fun _ => 0)), (v3, cN g 5 (fun _ => 0)), (v4, cN g 5 (fun _ => 0))] := hD
  refine lv_aload_n C.1 C.2.1 dX8_init_41 rfl (lv_at hl 0 rfl) ?_
  refine r_iconst 2 C dX8_init_42 rfl ?_
  refine r_put (v := nV 2) C hK hP hD hS kw_X8 tyX8_ok nmX8 (ci := 6) rfl 0 8 (by decide) kf_X8_27 rfl rfl rfl rfl rfl (Nat.le_of_ble_eq_true rfl) dX8_init_43 (fun H locs hP hD hS => ?_)
  have hP : va_P g.1 vwCl [(v, .inr (6, [.ref v0, .ref v1, .ref v2, .ref v3, .ref v4, nV 0, nV 0, nV 0, nV 2, nV 0])), (v0, cN g 8 (fun _ => 0)), (v1, cN g 8 (fun _ => 0)), (v2, cN g 5 (fun _ => 0)), (v3, cN g 5 (fun _ => 0)), (v4, cN g 5 (fun _ => 0))] H := hP
  have hD : va_D A [(v, .inr (6, [.ref v0, .ref v1, .ref v2, .ref v3, .ref v4, nV 0, nV 0, nV 0, nV 2, nV 0])), (v0, cN g 8 (fun _ => 0)), (v1, cN g 8 (fun _ => 0)), (v2, cN g 5 (fun _ => 0)), (v3, cN g 5 (fun _ => 0)), (v4, cN g 5 (fun _ => 0))] := hD
  refine lv_aload_n C.1 C.2.1 dX8_init_46 rfl (lv_at hl 0 rfl) ?_
  refine r_iconst 3 C dX8_init_47 rfl ?_
  refine r_put (v := nV 3) C hK hP hD hS kw_X8 tyX8_ok nmX8 (ci := 6) rfl 0 9 (by decide) kf_X8_31 rfl rfl rfl rfl rfl (Nat.le_of_ble_eq_true rfl) dX8_init_48 (fun H locs hP hD hS => ?_)
  have hP : va_P g.1 vwCl [(v, .inr (6, [.ref v0, .ref v1, .ref v2, .ref v3, .ref v4, nV 0, nV 0, nV 0, nV 2, nV 3])), (v0, cN g 8 (fun _ => 0)), (v1, cN g 8 (fun _ => 0)), (v2, cN g 5 (fun _ => 0)), (v3, cN g 5 (fun _ => 0)), (v4, cN g 5 (fun _ => 0))] H := hP
  have hD : va_D A [(v, .inr (6, [.ref v0, .ref v1, .ref v2, .ref v3, .ref v4, nV 0, nV 0, nV 0, nV 2, nV 3])), (v0, cN g 8 (fun _ => 0)), (v1, cN g 8 (fun _ => 0)), (v2, cN g 5 (fun _ => 0)), (v3, cN g 5 (fun _ => 0)), (v4, cN g 5 (fun _ => 0))] := hD
  refine W.widen (k := 5) (n := 31) (Nat.le_of_ble_eq_true rfl) (Nat.le_of_ble_eq_true rfl) ?_
  exact ret (pc := 51) (v0, v1, v2, v3, v4) dX8_init_51 hS hP hD trivial
set_option maxHeartbeats 4000000 in
set_option maxRecDepth 100000 in
theorem c_X5_init_8 (l : Launch) (g : GG) (us : Nat)  : INv g l yX5_init cX5_init 2 1 1 336 [(us, .inr (4, [nV 0, .null, nV 0]))] [.ref us, nV 8] (fun (_ : Nat) => True) (fun (ur0 : Nat) => [(us, .inr (4, [nV 8, .ref ur0, nV 0])), (ur0, cN g 336 (fun _ => 0))]) := by
  refine in_start (by decide +kernel) (Nat.le_of_ble_eq_true rfl) ?_
  intro p e s m args below meth c Q A ls C hinit hK hA ret hP hD hS hl
  have C : CT p s m args meth c cX5_init RX5 2 := C
  have hinit : meth.name = "<init>" := hinit
  have hl : lv_has ls 2 [(0, .ref us), (1, nV 8)] := hl
  refine lv_aload_n C.1 C.2.1 dX5_init_0 rfl (lv_at hl 0 rfl) ?_
  refine r_objI C kl_X5_1 hl dX5_init_1 (Nat.le_of_ble_eq_true rfl) (Nat.le_of_ble_eq_true rfl) ?_
  refine lv_aload_n C.1 C.2.1 dX5_init_4 rfl (lv_at hl 0 rfl) ?_
  refine lv_iload_n C.1 C.2.1 dX5_init_5 rfl (lv_at hl 1 rfl) ?_
  refine r_iconst 1 C dX5_init_6 rfl ?_
  refine r_mmax C kl_X5_7 dX5_init_7 ⟨rgN (by decide), rgN (by decide)⟩ ⟨Nat.le_of_ble_eq_true rfl, Nat.le_of_ble_eq_true rfl⟩ ⟨Nat.zero_le _, Nat.zero_le _⟩ hl ?_
  refine r_topN (8) (by decide) ?_
  refine r_putF (v := nV 8) C hinit hK hP hD hS kw_X5 tyX5_ok nmX5 (ci := 4) rfl 0 0 (by decide) kf_X5_13 rfl rfl rfl rfl rfl rfl (Nat.le_of_ble_eq_true rfl) dX5_init_10 (fun H locs hP hD hS => ?_)
  have hP : va_P g.1 vwCl [(us, .inr (4, [nV 8, .null, nV 0]))] H := hP
  have hD : va_D A [(us, .inr (4, [nV 8, .null, nV 0]))] := hD
  refine lv_aload_n C.1 C.2.1 dX5_init_13 rfl (lv_at hl 0 rfl) ?_
  refine lv_aload_n C.1 C.2.1 dX5_init_14 rfl (lv_at hl 0 rfl) ?_
  refine r_get C hK hP kw_X5 (ci := 4) rfl 0 0 (by decide) kf_X5_13 rfl rfl dX5_init_15 ?_
  refine r_bipush 42 C dX5_init_18 (by decide) ?_
  refine r_mulN C dX5_init_20 ?_
  refine r_topN (336) (by decide) ?_
  refine r_newaN C hK hP hD hS hA (by decide) (Nat.le_of_ble_eq_true rfl) (Nat.le_of_ble_eq_true rfl) dX5_init_21 (fun ur0 H hP hD hS => ?_)
  have hP : va_P g.1 vwCl [(us, .inr (4, [nV 8, .null, nV 0])), (ur0, cN g 336 (fun _ => 0))] H := hP
  have hD : va_D A [(us, .inr (4, [nV 8, .null, nV 0])), (ur0, cN g 336 (fun _ => 0))] := hD
  refine r_putF (v := .ref ur0) C hinit hK hP hD hS kw_X5 tyX5_ok nmX5 (ci := 4) rfl 0 1 (by decide) kf_X5_21 rfl rfl rfl rfl rfl rfl (Nat.le_of_ble_eq_true rfl) dX5_init_23 (fun H locs hP hD hS => ?_)
  have hP : va_P g.1 vwCl [(us, .inr (4, [nV 8, .ref ur0, nV 0])), (ur0, cN g 336 (fun _ => 0))] H := hP
  have hD : va_D A [(us, .inr (4, [nV 8, .ref ur0, nV 0])), (ur0, cN g 336 (fun _ => 0))] := hD
  refine W.widen (k := 1) (n := 336) (Nat.le_of_ble_eq_true rfl) (Nat.le_of_ble_eq_true rfl) ?_
  exact ret (pc := 26) (ur0) dX5_init_26 hS hP hD trivial
set_option maxHeartbeats 4000000 in
set_option maxRecDepth 100000 in
theorem c_X5_init_2 (l : Launch) (g : GG) (us : Nat)  : INv g l yX5_init cX5_init 2 1 1 84 [(us, .inr (4, [nV 0, .null, nV 0]))] [.ref us, nV 2] (fun (_ : Nat) => True) (fun (kr0 : Nat) => [(us, .inr (4, [nV 2, .ref kr0, nV 0])), (kr0, cN g 84 (fun _ => 0))]) := by
  refine in_start (by decide +kernel) (Nat.le_of_ble_eq_true rfl) ?_
  intro p e s m args below meth c Q A ls C hinit hK hA ret hP hD hS hl
  have C : CT p s m args meth c cX5_init RX5 2 := C
  have hinit : meth.name = "<init>" := hinit
  have hl : lv_has ls 2 [(0, .ref us), (1, nV 2)] := hl
  refine lv_aload_n C.1 C.2.1 dX5_init_0 rfl (lv_at hl 0 rfl) ?_
  refine r_objI C kl_X5_1 hl dX5_init_1 (Nat.le_of_ble_eq_true rfl) (Nat.le_of_ble_eq_true rfl) ?_
  refine lv_aload_n C.1 C.2.1 dX5_init_4 rfl (lv_at hl 0 rfl) ?_
  refine lv_iload_n C.1 C.2.1 dX5_init_5 rfl (lv_at hl 1 rfl) ?_
  refine r_iconst 1 C dX5_init_6 rfl ?_
  refine r_mmax C kl_X5_7 dX5_init_7 ⟨rgN (by decide), rgN (by decide)⟩ ⟨Nat.le_of_ble_eq_true rfl, Nat.le_of_ble_eq_true rfl⟩ ⟨Nat.zero_le _, Nat.zero_le _⟩ hl ?_
  refine r_topN (2) (by decide) ?_
  refine r_putF (v := nV 2) C hinit hK hP hD hS kw_X5 tyX5_ok nmX5 (ci := 4) rfl 0 0 (by decide) kf_X5_13 rfl rfl rfl rfl rfl rfl (Nat.le_of_ble_eq_true rfl) dX5_init_10 (fun H locs hP hD hS => ?_)
  have hP : va_P g.1 vwCl [(us, .inr (4, [nV 2, .null, nV 0]))] H := hP
  have hD : va_D A [(us, .inr (4, [nV 2, .null, nV 0]))] := hD
  refine lv_aload_n C.1 C.2.1 dX5_init_13 rfl (lv_at hl 0 rfl) ?_
  refine lv_aload_n C.1 C.2.1 dX5_init_14 rfl (lv_at hl 0 rfl) ?_
  refine r_get C hK hP kw_X5 (ci := 4) rfl 0 0 (by decide) kf_X5_13 rfl rfl dX5_init_15 ?_
  refine r_bipush 42 C dX5_init_18 (by decide) ?_
  refine r_mulN C dX5_init_20 ?_
  refine r_topN (84) (by decide) ?_
  refine r_newaN C hK hP hD hS hA (by decide) (Nat.le_of_ble_eq_true rfl) (Nat.le_of_ble_eq_true rfl) dX5_init_21 (fun kr0 H hP hD hS => ?_)
  have hP : va_P g.1 vwCl [(us, .inr (4, [nV 2, .null, nV 0])), (kr0, cN g 84 (fun _ => 0))] H := hP
  have hD : va_D A [(us, .inr (4, [nV 2, .null, nV 0])), (kr0, cN g 84 (fun _ => 0))] := hD
  refine r_putF (v := .ref kr0) C hinit hK hP hD hS kw_X5 tyX5_ok nmX5 (ci := 4) rfl 0 1 (by decide) kf_X5_21 rfl rfl rfl rfl rfl rfl (Nat.le_of_ble_eq_true rfl) dX5_init_23 (fun H locs hP hD hS => ?_)
  have hP : va_P g.1 vwCl [(us, .inr (4, [nV 2, .ref kr0, nV 0])), (kr0, cN g 84 (fun _ => 0))] H := hP
  have hD : va_D A [(us, .inr (4, [nV 2, .ref kr0, nV 0])), (kr0, cN g 84 (fun _ => 0))] := hD
  refine W.widen (k := 1) (n := 84) (Nat.le_of_ble_eq_true rfl) (Nat.le_of_ble_eq_true rfl) ?_
  exact ret (pc := 26) (kr0) dX5_init_26 hS hP hD trivial
