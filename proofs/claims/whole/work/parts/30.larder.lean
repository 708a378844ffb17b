set_option maxHeartbeats 4000000 in
set_option maxRecDepth 100000 in
theorem c_X1_size (l : Launch) (g : GG) (q : Nat) (q0 : Nat) (ce : Nat → Nat)  : ROi g l yX1_size cX1_size 1 (some .int) 1 [(q, .inr (1, [.ref q0])), (q0, cN g 42 ce)] [.ref q] (fun r => r = iI ((ce 40 : Nat) : Int)) := by
  refine ro_startI (by decide +kernel) (Nat.le_of_ble_eq_true rfl) ?_
  intro p e s m args below meth c Q ls C hK hP ret hl
  have C : CT p s m args meth c cX1_size RX1 1 := C
  have hl : lv_has ls 1 [(0, .ref q)] := hl
  refine lv_aload_n C.1 C.2.1 dX1_size_0 rfl (lv_at hl 0 rfl) ?_
  refine r_get C hK hP kw_X1 (ci := 1) rfl 0 0 (by decide) kf_X1_9 rfl rfl dX1_size_1 ?_
  refine r_bipush 40 C dX1_size_4 (by decide) ?_
  refine r_aldN C hK hP 1 rfl ⟨by omega, by omega⟩ dX1_size_6 ?_
  exact ret dX1_size_7 (by first | rfl | exact iI_cast (by omega) | exact congrArg lI (by omega) | omega)
set_option maxHeartbeats 4000000 in
set_option maxRecDepth 100000 in
theorem c_X1_flour (l : Launch) (g : GG) (q : Nat) (q0 : Nat) (ce : Nat → Nat)  : ROi g l yX1_flour cX1_flour 1 (some .int) 1 [(q, .inr (1, [.ref q0])), (q0, cN g 42 ce)] [.ref q] (fun r => r = iI ((ce 41 : Nat) : Int)) := by
  refine ro_startI (by decide +kernel) (Nat.le_of_ble_eq_true rfl) ?_
  intro p e s m args below meth c Q ls C hK hP ret hl
  have C : CT p s m args meth c cX1_flour RX1 1 := C
  have hl : lv_has ls 1 [(0, .ref q)] := hl
  refine lv_aload_n C.1 C.2.1 dX1_flour_0 rfl (lv_at hl 0 rfl) ?_
  refine r_get C hK hP kw_X1 (ci := 1) rfl 0 0 (by decide) kf_X1_9 rfl rfl dX1_flour_1 ?_
  refine r_bipush 41 C dX1_flour_4 (by decide) ?_
  refine r_aldN C hK hP 1 rfl ⟨by omega, by omega⟩ dX1_flour_6 ?_
  exact ret dX1_flour_7 (by first | rfl | exact iI_cast (by omega) | exact congrArg lI (by omega) | omega)
set_option maxHeartbeats 4000000 in
set_option maxRecDepth 100000 in
theorem c_X1_isFull (l : Launch) (g : GG) (q : Nat) (q0 : Nat) (ce : Nat → Nat) (h40 : ce 40 ≤ 8) : ROi g l yX1_isFull cX1_isFull 1 (some .boolean) 2 [(q, .inr (1, [.ref q0])), (q0, cN g 42 ce)] [.ref q] (fun r => r = bI (8 ≤ ce 40)) := by
  refine ro_startZ (by decide +kernel) (Nat.le_of_ble_eq_true rfl) ?_
  intro p e s m args below meth c Q ls C hK hP ret hl
  have C : CT p s m args meth c cX1_isFull RX1 1 := C
  have hl : lv_has ls 1 [(0, .ref q)] := hl
  refine lv_aload_n C.1 C.2.1 dX1_isFull_0 rfl (lv_at hl 0 rfl) ?_
  refine ro_callV (As := []) (rest := []) C hK (c_X1_size l g q q0 ce) hP (ci := 1) (q0 := 0) rfl rfl kc_X1_size kl_X1_13 kn_X1 ki_X1_size ke_X1_size nk_X1_size (rm_lt (by decide) (by decide)) hl rfl (Nat.le_of_ble_eq_true rfl) dX1_isFull_1 (fun r_1 hr_2 => ?_)
  subst hr_2
  refine r_bipush 8 C dX1_isFull_4 (by decide) ?_
  refine r_clt 13 C dX1_isFull_6 rfl ⟨rgN (by omega), rgN (by decide)⟩ (fun h_3 => ?_) (fun h_3 => ?_)
  · skip
    refine r_iconst 0 C dX1_isFull_13 rfl ?_
    exact ret dX1_isFull_14 (by decide) (bI_z (by omega))
  refine r_iconst 1 C dX1_isFull_9 rfl ?_
  refine r_goto 14 C dX1_isFull_10 rfl ?_
  exact ret dX1_isFull_14 (by decide) (bI_1 (by omega))
set_option maxHeartbeats 4000000 in
set_option maxRecDepth 100000 in
theorem c_X1_holds (l : Launch) (g : GG) (q : Nat) (q0 : Nat) (ce : Nat → Nat) (x : Int) (h40 : ce 40 ≤ 8) (hx : rg x) : ROi g l yX1_holds cX1_holds 2 (some .boolean) 2 [(q, .inr (1, [.ref q0])), (q0, cN g 42 ce)] [.ref q, zV x] (fun r => r = bI (0 ≤ x ∧ x < ((ce 40 : Nat) : Int))) := by
  refine ro_startZ (by decide +kernel) (Nat.le_of_ble_eq_true rfl) ?_
  intro p e s m args below meth c Q ls C hK hP ret hl
  have C : CT p s m args meth c cX1_holds RX1 2 := C
  have hl : lv_has ls 2 [(0, .ref q), (1, zV x)] := hl
  refine lv_iload_n C.1 C.2.1 dX1_holds_0 rfl (lv_at hl 1 rfl) ?_
  refine r_iconst 0 C dX1_holds_1 rfl ?_
  refine lv_aload_n C.1 C.2.1 dX1_holds_2 rfl (lv_at hl 0 rfl) ?_
  refine ro_callV (As := []) (rest := [nV 0, zV x]) C hK (c_X1_size l g q q0 ce) hP (ci := 1) (q0 := 0) rfl rfl kc_X1_size kl_X1_13 kn_X1 ki_X1_size ke_X1_size nk_X1_size (rm_lt (by decide) (by decide)) hl rfl (Nat.le_of_ble_eq_true rfl) dX1_holds_3 (fun r_1 hr_2 => ?_)
  subst hr_2
  refine r_iconst 1 C dX1_holds_6 rfl ?_
  refine r_subZ C dX1_holds_7 ?_
  refine ro_callSN (As := [zV x, nV 0, zV (((ce 40 : Nat) : Int) - ((1 : Nat) : Int))]) (rest := []) C hK (c_X9_within l g x ((0 : Nat) : Int) (((ce 40 : Nat) : Int) - ((1 : Nat) : Int)) (by first | assumption | exact ⟨by omega, by omega⟩) (by first | assumption | exact ⟨by omega, by omega⟩) (by first | assumption | exact ⟨by omega, by omega⟩)) (hP.sub (ws' := []) [] rfl) kc_X9_within kx_X1_17 kn_X9 ks_X9_within nk_X9_within (rm_lt (by decide) (by decide)) hl rfl (Nat.le_of_ble_eq_true rfl) dX1_holds_8 (fun r_3 hr_4 => ?_)
  subst hr_4
  refine r_beq 24 C dX1_holds_11 rfl (fun h_5 => ?_) (fun h_5 => ?_)
  · skip
    refine r_iconst 0 C dX1_holds_24 rfl ?_
    exact ret dX1_holds_25 (by decide) (bI_z (by omega))
  refine lv_iload_n C.1 C.2.1 dX1_holds_14 rfl (lv_at hl 1 rfl) ?_
  refine r_bipush 8 C dX1_holds_15 (by decide) ?_
  refine r_cge 24 C dX1_holds_17 rfl ⟨⟨by omega, by omega⟩, rgN (by decide)⟩ (fun h_6 => ?_) (fun h_6 => ?_)
  · skip
    refine r_iconst 0 C dX1_holds_24 rfl ?_
    exact ret dX1_holds_25 (by decide) (bI_z (by omega))
  refine r_iconst 1 C dX1_holds_20 rfl ?_
  refine r_goto 25 C dX1_holds_21 rfl ?_
  exact ret dX1_holds_25 (by decide) (bI_1 (by omega))
set_option maxHeartbeats 4000000 in
set_option maxRecDepth 100000 in
theorem c_X1_part (l : Launch) (g : GG) (q : Nat) (q0 : Nat) (ce : Nat → Nat) (i : Nat) (w : Nat) (h40 : ce 40 ≤ 8) (hi : i < ce 40) (hw : w < 5) : ROi g l yX1_part cX1_part 3 (some .int) 3 [(q, .inr (1, [.ref q0])), (q0, cN g 42 ce)] [.ref q, nV i, nV w] (fun r => r = iI ((ce (i * 5 + w) : Nat) : Int)) := by
  refine ro_startI (by decide +kernel) (Nat.le_of_ble_eq_true rfl) ?_
  intro p e s m args below meth c Q ls C hK hP ret hl
  have C : CT p s m args meth c cX1_part RX1 3 := C
  have hl : lv_has ls 3 [(0, .ref q), (1, nV i), (2, nV w)] := hl
  refine lv_aload_n C.1 C.2.1 dX1_part_0 rfl (lv_at hl 0 rfl) ?_
  refine lv_iload_n C.1 C.2.1 dX1_part_1 rfl (lv_at hl 1 rfl) ?_
  refine ro_callV (As := [nV i]) (rest := []) C hK (c_X1_holds l g q q0 ce ((i : Nat) : Int) (by first | assumption | omega) (by first | assumption | exact ⟨by omega, by omega⟩)) hP (ci := 1) (q0 := 0) rfl rfl kc_X1_holds kl_X1_23 kn_X1 ki_X1_holds ke_X1_holds nk_X1_holds (rm_lt (by decide) (by decide)) hl rfl (Nat.le_of_ble_eq_true rfl) dX1_part_2 (fun r_1 hr_2 => ?_)
  subst hr_2
  refine r_beq 32 C dX1_part_5 rfl (fun h_3 => ?_) (fun h_3 => ?_)
  · exact absurd h_3 (by omega)
  refine lv_iload_n C.1 C.2.1 dX1_part_8 rfl (lv_at hl 2 rfl) ?_
  refine r_iconst 0 C dX1_part_9 rfl ?_
  refine r_iconst 4 C dX1_part_10 rfl ?_
  refine ro_callSN (As := [nV w, nV 0, nV 4]) (rest := []) C hK (c_X9_within l g ((w : Nat) : Int) ((0 : Nat) : Int) ((4 : Nat) : Int) (by first | assumption | exact ⟨by omega, by omega⟩) (by first | assumption | exact ⟨by omega, by omega⟩) (by first | assumption | exact ⟨by omega, by omega⟩)) (hP.sub (ws' := []) [] rfl) kc_X9_within kx_X1_17 kn_X9 ks_X9_within nk_X9_within (rm_lt (by decide) (by decide)) hl rfl (Nat.le_of_ble_eq_true rfl) dX1_part_11 (fun r_4 hr_5 => ?_)
  subst hr_5
  refine r_beq 32 C dX1_part_14 rfl (fun h_6 => ?_) (fun h_6 => ?_)
  · exact absurd h_6 (by omega)
  refine lv_aload_n C.1 C.2.1 dX1_part_17 rfl (lv_at hl 0 rfl) ?_
  refine r_get C hK hP kw_X1 (ci := 1) rfl 0 0 (by decide) kf_X1_9 rfl rfl dX1_part_18 ?_
  refine lv_iload_n C.1 C.2.1 dX1_part_21 rfl (lv_at hl 1 rfl) ?_
  refine r_iconst 5 C dX1_part_22 rfl ?_
  refine r_mulN C dX1_part_23 ?_
  refine lv_iload_n C.1 C.2.1 dX1_part_24 rfl (lv_at hl 2 rfl) ?_
  refine r_addN C dX1_part_25 ?_
  refine ro_callSN (As := [.ref q0, nV ((i * 5) + w)]) (rest := []) C hK (c_X9_at l g q0 42 ce ((i * 5) + w) (by first | assumption | omega) (by first | assumption | omega)) (hP.sub (ws' := [(q0, cN g 42 ce)]) [1] rfl) kc_X9_at kx_X1_27 kn_X9 ks_X9_at nk_X9_at (rm_lt (by decide) (by decide)) hl rfl (Nat.le_of_ble_eq_true rfl) dX1_part_26 (fun r_7 hr_8 => ?_)
  subst hr_8
  refine r_goto 33 C dX1_part_29 rfl ?_
  exact ret dX1_part_33 (by first | rfl | exact iI_cast (by omega) | exact congrArg lI (by omega) | omega)
set_option maxHeartbeats 4000000 in
set_option maxRecDepth 100000 in
theorem c_X1_change (l : Launch) (g : GG) (q : Nat) (q0 : Nat) (ce : Nat → Nat) (i : Nat) (w : Nat) (z : Nat) (h40 : ce 40 ≤ 8) (hi : i < ce 40) (hw : w < 5) : WRv g l yX1_change cX1_change 4 3 [(q, .inr (1, [.ref q0])), (q0, cN g 42 ce)] [.ref q, nV i, nV w, nV z] (fun (_ : Unit) => True) (fun (_ : Unit) => [(q, .inr (1, [.ref q0])), (q0, cN g 42 (upN ce (i * 5 + w) z))]) := by
  refine wr_startV (by decide +kernel) (Nat.le_of_ble_eq_true rfl) ?_
  intro p e s m args below meth c Q A ls C hK hA ret hP hD hS hl
  have C : CT p s m args meth c cX1_change RX1 4 := C
  have hl : lv_has ls 4 [(0, .ref q), (1, nV i), (2, nV w), (3, nV z)] := hl
  refine lv_aload_n C.1 C.2.1 dX1_change_0 rfl (lv_at hl 0 rfl) ?_
  refine lv_iload_n C.1 C.2.1 dX1_change_1 rfl (lv_at hl 1 rfl) ?_
  refine ro_callV (As := [nV i]) (rest := []) C hK (c_X1_holds l g q q0 ce ((i : Nat) : Int) (by first | assumption | omega) (by first | assumption | exact ⟨by omega, by omega⟩)) hP (ci := 1) (q0 := 0) rfl rfl kc_X1_holds kl_X1_23 kn_X1 ki_X1_holds ke_X1_holds nk_X1_holds (rm_lt (by decide) (by decide)) hl rfl (Nat.le_of_ble_eq_true rfl) dX1_change_2 (fun r_1 hr_2 => ?_)
  subst hr_2
  refine r_beq 28 C dX1_change_5 rfl (fun h_3 => ?_) (fun h_3 => ?_)
  · exact absurd h_3 (by omega)
  refine lv_iload_n C.1 C.2.1 dX1_change_8 rfl (lv_at hl 2 rfl) ?_
  refine r_iconst 0 C dX1_change_9 rfl ?_
  refine r_iconst 4 C dX1_change_10 rfl ?_
  refine ro_callSN (As := [nV w, nV 0, nV 4]) (rest := []) C hK (c_X9_within l g ((w : Nat) : Int) ((0 : Nat) : Int) ((4 : Nat) : Int) (by first | assumption | exact ⟨by omega, by omega⟩) (by first | assumption | exact ⟨by omega, by omega⟩) (by first | assumption | exact ⟨by omega, by omega⟩)) (hP.sub (ws' := []) [] rfl) kc_X9_within kx_X1_17 kn_X9 ks_X9_within nk_X9_within (rm_lt (by decide) (by decide)) hl rfl (Nat.le_of_ble_eq_true rfl) dX1_change_11 (fun r_4 hr_5 => ?_)
  subst hr_5
  refine r_beq 28 C dX1_change_14 rfl (fun h_6 => ?_) (fun h_6 => ?_)
  · exact absurd h_6 (by omega)
  refine lv_aload_n C.1 C.2.1 dX1_change_17 rfl (lv_at hl 0 rfl) ?_
  refine r_get C hK hP kw_X1 (ci := 1) rfl 0 0 (by decide) kf_X1_9 rfl rfl dX1_change_18 ?_
  refine lv_iload_n C.1 C.2.1 dX1_change_21 rfl (lv_at hl 1 rfl) ?_
  refine r_iconst 5 C dX1_change_22 rfl ?_
  refine r_mulN C dX1_change_23 ?_
  refine lv_iload_n C.1 C.2.1 dX1_change_24 rfl (lv_at hl 2 rfl) ?_
  refine r_addN C dX1_change_25 ?_
  refine lv_iload_n C.1 C.2.1 dX1_change_26 rfl (lv_at hl 3 rfl) ?_
  refine r_astN C hK hP hD hS 1 rfl ⟨by omega, by omega⟩ dX1_change_27 (fun H locs hP hD hS => ?_)
  have hP : va_P g.1 vwCl [(q, .inr (1, [.ref q0])), (q0, cN g 42 (upN ce ((i * 5) + w) z))] H := hP
  have hD : va_D A [(q, .inr (1, [.ref q0])), (q0, cN g 42 (upN ce ((i * 5) + w) z))] := hD
  exact ret (()) dX1_change_28 hS hP (trivial)
set_option maxHeartbeats 4000000 in
set_option maxRecDepth 100000 in
theorem c_X1_clear (l : Launch) (g : GG) (q : Nat) (q0 : Nat) (ce : Nat → Nat)  : WRv g l yX1_clear cX1_clear 1 1 [(q, .inr (1, [.ref q0])), (q0, cN g 42 ce)] [.ref q] (fun (_ : Unit) => True) (fun (_ : Unit) => [(q, .inr (1, [.ref q0])), (q0, cN g 42 (upN (upN ce 40 0) 41 0))]) := by
  refine wr_startV (by decide +kernel) (Nat.le_of_ble_eq_true rfl) ?_
  intro p e s m args below meth c Q A ls C hK hA ret hP hD hS hl
  have C : CT p s m args meth c cX1_clear RX1 1 := C
  have hl : lv_has ls 1 [(0, .ref q)] := hl
  refine lv_aload_n C.1 C.2.1 dX1_clear_0 rfl (lv_at hl 0 rfl) ?_
  refine r_get C hK hP kw_X1 (ci := 1) rfl 0 0 (by decide) kf_X1_9 rfl rfl dX1_clear_1 ?_
  refine r_bipush 40 C dX1_clear_4 (by decide) ?_
  refine r_iconst 0 C dX1_clear_6 rfl ?_
  refine r_astN C hK hP hD hS 1 rfl ⟨by omega, by omega⟩ dX1_clear_7 (fun H locs hP hD hS => ?_)
  have hP : va_P g.1 vwCl [(q, .inr (1, [.ref q0])), (q0, cN g 42 (upN ce 40 0))] H := hP
  have hD : va_D A [(q, .inr (1, [.ref q0])), (q0, cN g 42 (upN ce 40 0))] := hD
  refine lv_aload_n C.1 C.2.1 dX1_clear_8 rfl (lv_at hl 0 rfl) ?_
  refine r_get C hK hP kw_X1 (ci := 1) rfl 0 0 (by decide) kf_X1_9 rfl rfl dX1_clear_9 ?_
  refine r_bipush 41 C dX1_clear_12 (by decide) ?_
  refine r_iconst 0 C dX1_clear_14 rfl ?_
  refine r_astN C hK hP hD hS 1 rfl ⟨by omega, by omega⟩ dX1_clear_15 (fun H locs hP hD hS => ?_)
  have hP : va_P g.1 vwCl [(q, .inr (1, [.ref q0])), (q0, cN g 42 (upN (upN ce 40 0) 41 0))] H := hP
  have hD : va_D A [(q, .inr (1, [.ref q0])), (q0, cN g 42 (upN (upN ce 40 0) 41 0))] := hD
  exact ret (()) dX1_clear_16 hS hP (trivial)
set_option maxHeartbeats 4000000 in
set_option maxRecDepth 100000 in
theorem c_X1_useFlour (l : Launch) (g : GG) (q : Nat) (q0 : Nat) (ce : Nat → Nat) (x : Nat)  : WRv g l yX1_useFlour cX1_useFlour 2 1 [(q, .inr (1, [.ref q0])), (q0, cN g 42 ce)] [.ref q, nV x] (fun (_ : Unit) => True) (fun (_ : Unit) => [(q, .inr (1, [.ref q0])), (q0, cN g 42 (upN ce 41 (ce 41 + x)))]) := by
  refine wr_startV (by decide +kernel) (Nat.le_of_ble_eq_true rfl) ?_
  intro p e s m args below meth c Q A ls C hK hA ret hP hD hS hl
  have C : CT p s m args meth c cX1_useFlour RX1 2 := C
  have hl : lv_has ls 2 [(0, .ref q), (1, nV x)] := hl
  refine lv_aload_n C.1 C.2.1 dX1_useFlour_0 rfl (lv_at hl 0 rfl) ?_
  refine r_get C hK hP kw_X1 (ci := 1) rfl 0 0 (by decide) kf_X1_9 rfl rfl dX1_useFlour_1 ?_
  refine r_bipush 41 C dX1_useFlour_4 (by decide) ?_
  refine lv_dup2_11 C.1 C.2.1 dX1_useFlour_6 rfl rfl ?_
  refine r_aldN C hK hP 1 rfl ⟨by omega, by omega⟩ dX1_useFlour_7 ?_
  refine lv_iload_n C.1 C.2.1 dX1_useFlour_8 rfl (lv_at hl 1 rfl) ?_
  refine r_addN C dX1_useFlour_9 ?_
  refine r_astN C hK hP hD hS 1 rfl ⟨by omega, by omega⟩ dX1_useFlour_10 (fun H locs hP hD hS => ?_)
  have hP : va_P g.1 vwCl [(q, .inr (1, [.ref q0])), (q0, cN g 42 (upN ce 41 ((ce 41) + x)))] H := hP
  have hD : va_D A [(q, .inr (1, [.ref q0])), (q0, cN g 42 (upN ce 41 ((ce 41) + x)))] := hD
  exact ret (()) dX1_useFlour_11 hS hP (trivial)
set_option maxHeartbeats 4000000 in
set_option maxRecDepth 100000 in
theorem c_X1_add (l : Launch) (g : GG) (q : Nat) (q0 : Nat) (ce : Nat → Nat) (x : Nat) (y : Nat) (w : Nat) (h40 : ce 40 < 8) : WRv g l yX1_add cX1_add 5 4 [(q, .inr (1, [.ref q0])), (q0, cN g 42 ce)] [.ref q, nV x, nV y, nV w] (fun (_ : Unit) => True) (fun (_ : Unit) => [(q, .inr (1, [.ref q0])), (q0, cN g 42 (ladd ce x y w))]) := by
  refine wr_startV (by decide +kernel) (Nat.le_of_ble_eq_true rfl) ?_
  intro p e s m args below meth c Q A ls C hK hA ret hP hD hS hl
  have C : CT p s m args meth c cX1_add RX1 5 := C
  have hl : lv_has ls 5 [(0, .ref q), (1, nV x), (2, nV y), (3, nV w)] := hl
  refine lv_aload_n C.1 C.2.1 dX1_add_0 rfl (lv_at hl 0 rfl) ?_
  refine ro_callV (As := []) (rest := []) C hK (c_X1_isFull l g q q0 ce (by first | assumption | omega)) hP (ci := 1) (q0 := 0) rfl rfl kc_X1_isFull kl_X1_31 kn_X1 ki_X1_isFull ke_X1_isFull nk_X1_isFull (rm_lt (by decide) (by decide)) hl rfl (Nat.le_of_ble_eq_true rfl) dX1_add_1 (fun r_1 hr_2 => ?_)
  subst hr_2
  refine r_beq 8 C dX1_add_4 rfl (fun h_3 => ?_) (fun h_3 => ?_)
  rotate_left
  · exact absurd h_3 (by omega)
  refine lv_aload_n C.1 C.2.1 dX1_add_8 rfl (lv_at hl 0 rfl) ?_
  refine ro_callV (As := []) (rest := []) C hK (c_X1_size l g q q0 ce) hP (ci := 1) (q0 := 0) rfl rfl kc_X1_size kl_X1_13 kn_X1 ki_X1_size ke_X1_size nk_X1_size (rm_lt (by decide) (by decide)) hl rfl (Nat.le_of_ble_eq_true rfl) dX1_add_9 (fun r_4 hr_5 => ?_)
  subst hr_5
  refine lv_istore (lv' := [(4, nV (ce 40)), (0, .ref q), (1, nV x), (2, nV y), (3, nV w)]) C.1 C.2.1 dX1_add_12 hl (by decide) rfl (fun ls hl => ?_)
  refine lv_aload_n C.1 C.2.1 dX1_add_14 rfl (lv_at hl 1 rfl) ?_
  refine r_get C hK hP kw_X1 (ci := 1) rfl 0 0 (by decide) kf_X1_9 rfl rfl dX1_add_15 ?_
  refine r_bipush 40 C dX1_add_18 (by decide) ?_
  refine lv_iload C.1 C.2.1 dX1_add_20 (lv_at hl 0 rfl) ?_
  refine r_iconst 1 C dX1_add_22 rfl ?_
  refine r_addN C dX1_add_23 ?_
  refine r_astN C hK hP hD hS 1 rfl ⟨by omega, by omega⟩ dX1_add_24 (fun H locs hP hD hS => ?_)
  have hP : va_P g.1 vwCl [(q, .inr (1, [.ref q0])), (q0, cN g 42 (upN ce 40 ((ce 40) + 1)))] H := hP
  have hD : va_D A [(q, .inr (1, [.ref q0])), (q0, cN g 42 (upN ce 40 ((ce 40) + 1)))] := hD
  generalize hc1 : upN ce 40 ((ce 40) + 1) = c1 at hP hD
  have e1 : c1 40 = ce 40 + 1 := by rw [← hc1]; exact upN_s
  refine lv_aload_n C.1 C.2.1 dX1_add_25 rfl (lv_at hl 1 rfl) ?_
  refine lv_iload C.1 C.2.1 dX1_add_26 (lv_at hl 0 rfl) ?_
  refine r_iconst 0 C dX1_add_28 rfl ?_
  refine lv_iload_n C.1 C.2.1 dX1_add_29 rfl (lv_at hl 2 rfl) ?_
  refine wr_callVV (As := [nV (ce 40), nV 0, nV x]) (rest := []) C hK (c_X1_change l g q q0 c1 (ce 40) 0 x (by first | assumption | omega) (by first | assumption | omega) (by first | assumption | omega)) [0, 1] rfl (fun _ => rfl) (by decide) hP hD hS hA (ci := 1) (q0 := 0) rfl rfl kc_X1_change kl_X1_35 kn_X1 ki_X1_change ke_X1_change nk_X1_change (rm_lt (by decide) (by decide)) hl rfl (Nat.le_of_ble_eq_true rfl) dX1_add_30 (fun u_8 H locs hr_7 hP hD hS => ?_)
  have hP : va_P g.1 vwCl [(q, .inr (1, [.ref q0])), (q0, cN g 42 (upN c1 ((ce 40) * 5 + 0) x))] H := hP
  have hD : va_D A [(q, .inr (1, [.ref q0])), (q0, cN g 42 (upN c1 ((ce 40) * 5 + 0) x))] := hD
  generalize hc2 : upN c1 ((ce 40) * 5 + 0) x = c2 at hP hD
  have e2 : c2 40 = ce 40 + 1 := by rw [← hc2, upN_n (by omega)]; exact e1
  refine lv_aload_n C.1 C.2.1 dX1_add_33 rfl (lv_at hl 1 rfl) ?_
  refine lv_iload C.1 C.2.1 dX1_add_34 (lv_at hl 0 rfl) ?_
  refine r_iconst 1 C dX1_add_36 rfl ?_
  refine lv_iload_n C.1 C.2.1 dX1_add_37 rfl (lv_at hl 3 rfl) ?_
  refine wr_callVV (As := [nV (ce 40), nV 1, nV y]) (rest := []) C hK (c_X1_change l g q q0 c2 (ce 40) 1 y (by first | assumption | omega) (by first | assumption | omega) (by first | assumption | omega)) [0, 1] rfl (fun _ => rfl) (by decide) hP hD hS hA (ci := 1) (q0 := 0) rfl rfl kc_X1_change kl_X1_35 kn_X1 ki_X1_change ke_X1_change nk_X1_change (rm_lt (by decide) (by decide)) hl rfl (Nat.le_of_ble_eq_true rfl) dX1_add_38 (fun u_11 H locs hr_10 hP hD hS => ?_)
  have hP : va_P g.1 vwCl [(q, .inr (1, [.ref q0])), (q0, cN g 42 (upN c2 ((ce 40) * 5 + 1) y))] H := hP
  have hD : va_D A [(q, .inr (1, [.ref q0])), (q0, cN g 42 (upN c2 ((ce 40) * 5 + 1) y))] := hD
  generalize hc3 : upN c2 ((ce 40) * 5 + 1) y = c3 at hP hD
  have e3 : c3 40 = ce 40 + 1 := by rw [← hc3, upN_n (by omega)]; exact e2
  refine lv_aload_n C.1 C.2.1 dX1_add_41 rfl (lv_at hl 1 rfl) ?_
  refine lv_iload C.1 C.2.1 dX1_add_42 (lv_at hl 0 rfl) ?_
  refine r_iconst 2 C dX1_add_44 rfl ?_
  refine r_iconst 0 C dX1_add_45 rfl ?_
  refine wr_callVV (As := [nV (ce 40), nV 2, nV 0]) (rest := []) C hK (c_X1_change l g q q0 c3 (ce 40) 2 0 (by first | assumption | omega) (by first | assumption | omega) (by first | assumption | omega)) [0, 1] rfl (fun _ => rfl) (by decide) hP hD hS hA (ci := 1) (q0 := 0) rfl rfl kc_X1_change kl_X1_35 kn_X1 ki_X1_change ke_X1_change nk_X1_change (rm_lt (by decide) (by decide)) hl rfl (Nat.le_of_ble_eq_true rfl) dX1_add_46 (fun u_14 H locs hr_13 hP hD hS => ?_)
  have hP : va_P g.1 vwCl [(q, .inr (1, [.ref q0])), (q0, cN g 42 (upN c3 ((ce 40) * 5 + 2) 0))] H := hP
  have hD : va_D A [(q, .inr (1, [.ref q0])), (q0, cN g 42 (upN c3 ((ce 40) * 5 + 2) 0))] := hD
  generalize hc4 : upN c3 ((ce 40) * 5 + 2) 0 = c4 at hP hD
  have e4 : c4 40 = ce 40 + 1 := by rw [← hc4, upN_n (by omega)]; exact e3
  refine lv_aload_n C.1 C.2.1 dX1_add_49 rfl (lv_at hl 1 rfl) ?_
  refine lv_iload C.1 C.2.1 dX1_add_50 (lv_at hl 0 rfl) ?_
  refine r_iconst 3 C dX1_add_52 rfl ?_
  refine r_iconst 0 C dX1_add_53 rfl ?_
  refine wr_callVV (As := [nV (ce 40), nV 3, nV 0]) (rest := []) C hK (c_X1_change l g q q0 c4 (ce 40) 3 0 (by first | assumption | omega) (by first | assumption | omega) (by first | assumption | omega)) [0, 1] rfl (fun _ => rfl) (by decide) hP hD hS hA (ci := 1) (q0 := 0) rfl rfl kc_X1_change kl_X1_35 kn_X1 ki_X1_change ke_X1_change nk_X1_change (rm_lt (by decide) (by decide)) hl rfl (Nat.le_of_ble_eq_true rfl) dX1_add_54 (fun u_17 H locs hr_16 hP hD hS => ?_)
  have hP : va_P g.1 vwCl [(q, .inr (1, [.ref q0])), (q0, cN g 42 (upN c4 ((ce 40) * 5 + 3) 0))] H := hP
  have hD : va_D A [(q, .inr (1, [.ref q0])), (q0, cN g 42 (upN c4 ((ce 40) * 5 + 3) 0))] := hD
  generalize hc5 : upN c4 ((ce 40) * 5 + 3) 0 = c5 at hP hD
  have e5 : c5 40 = ce 40 + 1 := by rw [← hc5, upN_n (by omega)]; exact e4
  refine lv_aload_n C.1 C.2.1 dX1_add_57 rfl (lv_at hl 1 rfl) ?_
  refine lv_iload C.1 C.2.1 dX1_add_58 (lv_at hl 0 rfl) ?_
  refine r_iconst 4 C dX1_add_60 rfl ?_
  refine lv_iload_n C.1 C.2.1 dX1_add_61 rfl (lv_at hl 4 rfl) ?_
  refine wr_callVV (As := [nV (ce 40), nV 4, nV w]) (rest := []) C hK (c_X1_change l g q q0 c5 (ce 40) 4 w (by first | assumption | omega) (by first | assumption | omega) (by first | assumption | omega)) [0, 1] rfl (fun _ => rfl) (by decide) hP hD hS hA (ci := 1) (q0 := 0) rfl rfl kc_X1_change kl_X1_35 kn_X1 ki_X1_change ke_X1_change nk_X1_change (rm_lt (by decide) (by decide)) hl rfl (Nat.le_of_ble_eq_true rfl) dX1_add_62 (fun u_20 H locs hr_19 hP hD hS => ?_)
  have hP : va_P g.1 vwCl [(q, .inr (1, [.ref q0])), (q0, cN g 42 (upN c5 ((ce 40) * 5 + 4) w))] H := hP
  have hD : va_D A [(q, .inr (1, [.ref q0])), (q0, cN g 42 (upN c5 ((ce 40) * 5 + 4) w))] := hD
  exact ret (()) dX1_add_65 hS (by rw [← hc5, ← hc4, ← hc3, ← hc2, ← hc1] at hP; exact hP) (trivial)
set_option maxHeartbeats 4000000 in
set_option maxRecDepth 100000 in
theorem c_X1_addBite (l : Launch) (g : GG) (q : Nat) (q0 : Nat) (ce : Nat → Nat) (i : Nat) (h40 : ce 40 ≤ 8) (hi : i < ce 40) : WRv g l yX1_addBite cX1_addBite 2 4 [(q, .inr (1, [.ref q0])), (q0, cN g 42 ce)] [.ref q, nV i] (fun (_ : Unit) => True) (fun (_ : Unit) => [(q, .inr (1, [.ref q0])), (q0, cN g 42 (lbit ce i))]) := by
  refine wr_startV (by decide +kernel) (Nat.le_of_ble_eq_true rfl) ?_
  intro p e s m args below meth c Q A ls C hK hA ret hP hD hS hl
  have C : CT p s m args meth c cX1_addBite RX1 2 := C
  have hl : lv_has ls 2 [(0, .ref q), (1, nV i)] := hl
  refine lv_aload_n C.1 C.2.1 dX1_addBite_0 rfl (lv_at hl 0 rfl) ?_
  refine lv_iload_n C.1 C.2.1 dX1_addBite_1 rfl (lv_at hl 1 rfl) ?_
  refine r_iconst 3 C dX1_addBite_2 rfl ?_
  refine lv_aload_n C.1 C.2.1 dX1_addBite_3 rfl (lv_at hl 0 rfl) ?_
  refine lv_iload_n C.1 C.2.1 dX1_addBite_4 rfl (lv_at hl 1 rfl) ?_
  refine r_iconst 3 C dX1_addBite_5 rfl ?_
  refine ro_callV (As := [nV i, nV 3]) (rest := [nV 3, nV i, .ref q]) C hK (c_X1_part l g q q0 ce i 3 (by first | assumption | omega) (by first | assumption | omega) (by first | assumption | omega)) hP (ci := 1) (q0 := 0) rfl rfl kc_X1_part kl_X1_39 kn_X1 ki_X1_part ke_X1_part nk_X1_part (rm_lt (by decide) (by decide)) hl rfl (Nat.le_of_ble_eq_true rfl) dX1_addBite_6 (fun r_1 hr_2 => ?_)
  subst hr_2
  refine r_iconst 1 C dX1_addBite_9 rfl ?_
  refine r_addN C dX1_addBite_10 ?_
  refine wr_callVV (As := [nV i, nV 3, nV ((ce (i * 5 + 3)) + 1)]) (rest := []) C hK (c_X1_change l g q q0 ce i 3 ((ce (i * 5 + 3)) + 1) (by first | assumption | omega) (by first | assumption | omega) (by first | assumption | omega)) [0, 1] rfl (fun _ => rfl) (by decide) hP hD hS hA (ci := 1) (q0 := 0) rfl rfl kc_X1_change kl_X1_35 kn_X1 ki_X1_change ke_X1_change nk_X1_change (rm_lt (by decide) (by decide)) hl rfl (Nat.le_of_ble_eq_true rfl) dX1_addBite_11 (fun u_5 H locs hr_4 hP hD hS => ?_)
  have hP : va_P g.1 vwCl [(q, .inr (1, [.ref q0])), (q0, cN g 42 (upN ce (i * 5 + 3) ((ce (i * 5 + 3)) + 1)))] H := hP
  have hD : va_D A [(q, .inr (1, [.ref q0])), (q0, cN g 42 (upN ce (i * 5 + 3) ((ce (i * 5 + 3)) + 1)))] := hD
  exact ret (()) dX1_addBite_14 hS hP (trivial)
set_option maxHeartbeats 4000000 in
set_option maxRecDepth 100000 in
theorem c_X1_passDay (l : Launch) (g : GG) (q : Nat) (q0 : Nat) (ce : Nat → Nat) (h40 : ce 40 ≤ 8) : WRv g l yX1_passDay cX1_passDay 2 4 [(q, .inr (1, [.ref q0])), (q0, cN g 42 ce)] [.ref q] (fun (_ : Unit) => True) (fun (_ : Unit) => [(q, .inr (1, [.ref q0])), (q0, cN g 42 (lday ce (ce 40)))]) := by
  refine wr_startV (by decide +kernel) (Nat.le_of_ble_eq_true rfl) ?_
  intro p e s m args below meth c Q A ls C hK hA ret hP hD hS hl
  have C : CT p s m args meth c cX1_passDay RX1 2 := C
  have hl : lv_has ls 2 [(0, .ref q)] := hl
  refine r_iconst 0 C dX1_passDay_0 rfl ?_
  refine lv_istore_n (lv' := [(1, nV 0), (0, .ref q)]) C.1 C.2.1 dX1_passDay_1 rfl hl (by decide) rfl (fun ls hl => ?_)
  have L2 : ∀ (n_2 : Nat) (i : Nat) (c1 : Nat → Nat) (H : Heap) (locs : List Loc) (ls : Array Slot) (hi : i ≤ ce 40) (hc1 : c1 = lday ce i) (e1 : c1 40 = ce 40) (hm : ce 40 - i < n_2) (hP : va_P g.1 vwCl [(q, .inr (1, [.ref q0])), (q0, cN g 42 c1)] H) (hD : va_D A [(q, .inr (1, [.ref q0])), (q0, cN g 42 c1)]) (hS : va_S A s.heap H locs) (hl : lv_has ls 2 [(1, nV i), (0, .ref q)]), W p l e (rD 4) s m args below meth c H locs 0 0 Q (F0 m 2 ls []) := by
    intro n_2
    induction n_2 with
    | zero => intro i c1 H locs ls hi hc1 e1 hm hP hD hS hl; exact absurd hm (Nat.not_lt_zero _)
    | succ n_2 ih_2 =>
      intro i c1 H locs ls hi hc1 e1 hm hP hD hS hl
      refine lv_iload_n C.1 C.2.1 dX1_passDay_2 rfl (lv_at hl 0 rfl) ?_
      refine lv_aload_n C.1 C.2.1 dX1_passDay_3 rfl (lv_at hl 1 rfl) ?_
      refine ro_callV (As := []) (rest := [nV i]) C hK (c_X1_size l g q q0 c1) hP (ci := 1) (q0 := 0) rfl rfl kc_X1_size kl_X1_13 kn_X1 ki_X1_size ke_X1_size nk_X1_size (rm_lt (by decide) (by decide)) hl rfl (Nat.le_of_ble_eq_true rfl) dX1_passDay_4 (fun r_1 hr_2 => ?_)
      subst hr_2
      refine r_cge 30 C dX1_passDay_7 rfl ⟨rgN (by omega), rgN (by omega)⟩ (fun h_3 => ?_) (fun h_3 => ?_)
      · skip
        exact ret (()) dX1_passDay_30 hS (by rw [hc1, show i = ce 40 by omega] at hP; exact hP) (trivial)
      refine lv_aload_n C.1 C.2.1 dX1_passDay_10 rfl (lv_at hl 1 rfl) ?_
      refine lv_iload_n C.1 C.2.1 dX1_passDay_11 rfl (lv_at hl 0 rfl) ?_
      refine r_iconst 2 C dX1_passDay_12 rfl ?_
      refine lv_aload_n C.1 C.2.1 dX1_passDay_13 rfl (lv_at hl 1 rfl) ?_
      refine lv_iload_n C.1 C.2.1 dX1_passDay_14 rfl (lv_at hl 0 rfl) ?_
      refine r_iconst 2 C dX1_passDay_15 rfl ?_
      refine ro_callV (As := [nV i, nV 2]) (rest := [nV 2, nV i, .ref q]) C hK (c_X1_part l g q q0 c1 i 2 (by first | assumption | omega) (by first | assumption | omega) (by first | assumption | omega)) hP (ci := 1) (q0 := 0) rfl rfl kc_X1_part kl_X1_39 kn_X1 ki_X1_part ke_X1_part nk_X1_part (rm_lt (by decide) (by decide)) hl rfl (Nat.le_of_ble_eq_true rfl) dX1_passDay_16 (fun r_4 hr_5 => ?_)
      subst hr_5
      refine r_iconst 1 C dX1_passDay_19 rfl ?_
      refine r_addN C dX1_passDay_20 ?_
      refine wr_callVV (As := [nV i, nV 2, nV ((c1 (i * 5 + 2)) + 1)]) (rest := []) C hK (c_X1_change l g q q0 c1 i 2 ((c1 (i * 5 + 2)) + 1) (by first | assumption | omega) (by first | assumption | omega) (by first | assumption | omega)) [0, 1] rfl (fun _ => rfl) (by decide) hP hD hS hA (ci := 1) (q0 := 0) rfl rfl kc_X1_change kl_X1_35 kn_X1 ki_X1_change ke_X1_change nk_X1_change (rm_lt (by decide) (by decide)) hl rfl (Nat.le_of_ble_eq_true rfl) dX1_passDay_21 (fun u_8 H locs hr_7 hP hD hS => ?_)
      have hP : va_P g.1 vwCl [(q, .inr (1, [.ref q0])), (q0, cN g 42 (upN c1 (i * 5 + 2) ((c1 (i * 5 + 2)) + 1)))] H := hP
      have hD : va_D A [(q, .inr (1, [.ref q0])), (q0, cN g 42 (upN c1 (i * 5 + 2) ((c1 (i * 5 + 2)) + 1)))] := hD
      refine r_incN (k := 0) (n := 1) [(1, nV (i + 1)), (0, .ref q)] C dX1_passDay_24 hl rfl rfl (by decide) rfl (fun ls hl => ?_)
      refine r_goto 2 C dX1_passDay_27 rfl ?_
      exact ih_2 (i + 1) (upN c1 (i * 5 + 2) ((c1 (i * 5 + 2)) + 1)) _ _ _ (by first | assumption | omega) (by rw [hc1]; exact lday_s) (by rw [upN_n (by omega)]; exact e1) (by omega) hP hD hS (lv_sub hl [0, 1] rfl)
  exact L2 (ce 40 - 0 + 1) 0 ce _ _ _ (by first | assumption | omega) (lday_0.symm) (rfl) (Nat.lt_succ_self _) hP hD hS (lv_sub hl [0, 1] rfl)
set_option maxHeartbeats 4000000 in
set_option maxRecDepth 100000 in
theorem c_X1_remove (l : Launch) (g : GG) (q : Nat) (q0 : Nat) (ce : Nat → Nat) (x : Nat) (h40 : ce 40 ≤ 8) (hx : x < ce 40) : WRv g l yX1_remove cX1_remove 4 4 [(q, .inr (1, [.ref q0])), (q0, cN g 42 ce)] [.ref q, nV x] (fun (_ : Unit) => True) (fun (_ : Unit) => [(q, .inr (1, [.ref q0])), (q0, cN g 42 (lrem ce x))]) := by
  refine wr_startV (by decide +kernel) (Nat.le_of_ble_eq_true rfl) ?_
  intro p e s m args below meth c Q A ls C hK hA ret hP hD hS hl
  have C : CT p s m args meth c cX1_remove RX1 4 := C
  have hl : lv_has ls 4 [(0, .ref q), (1, nV x)] := hl
  refine lv_aload_n C.1 C.2.1 dX1_remove_0 rfl (lv_at hl 0 rfl) ?_
  refine lv_iload_n C.1 C.2.1 dX1_remove_1 rfl (lv_at hl 1 rfl) ?_
  refine ro_callV (As := [nV x]) (rest := []) C hK (c_X1_holds l g q q0 ce ((x : Nat) : Int) (by first | assumption | omega) (by first | assumption | exact ⟨by omega, by omega⟩)) hP (ci := 1) (q0 := 0) rfl rfl kc_X1_holds kl_X1_23 kn_X1 ki_X1_holds ke_X1_holds nk_X1_holds (rm_lt (by decide) (by decide)) hl rfl (Nat.le_of_ble_eq_true rfl) dX1_remove_2 (fun r_1 hr_2 => ?_)
  subst hr_2
  refine r_bne 9 C dX1_remove_5 rfl (fun h_3 => ?_) (fun h_3 => ?_)
  rotate_left
  · exact absurd h_3 (by omega)
  refine lv_iload_n C.1 C.2.1 dX1_remove_9 rfl (lv_at hl 1 rfl) ?_
  refine r_iconst 1 C dX1_remove_10 rfl ?_
  refine r_addN C dX1_remove_11 ?_
  refine lv_istore_n (lv' := [(2, nV (x + 1)), (0, .ref q), (1, nV x)]) C.1 C.2.1 dX1_remove_12 rfl hl (by decide) rfl (fun ls hl => ?_)
  have L13 : ∀ (n_13 : Nat) (i : Nat) (c1 : Nat → Nat) (H : Heap) (locs : List Loc) (ls : Array Slot) (hi : x < i ∧ i ≤ ce 40) (hc1 : c1 = lmv ce x ((i - 1) * 5)) (e1 : c1 40 = ce 40) (hm : ce 40 - i < n_13) (hP : va_P g.1 vwCl [(q, .inr (1, [.ref q0])), (q0, cN g 42 c1)] H) (hD : va_D A [(q, .inr (1, [.ref q0])), (q0, cN g 42 c1)]) (hS : va_S A s.heap H locs) (hl : lv_has ls 4 [(2, nV i), (0, .ref q), (1, nV x)]), W p l e (rD 4) s m args below meth c H locs 0 0 Q (F0 m 13 ls []) := by
    intro n_13
    induction n_13 with
    | zero => intro i c1 H locs ls hi hc1 e1 hm hP hD hS hl; exact absurd hm (Nat.not_lt_zero _)
    | succ n_13 ih_13 =>
      intro i c1 H locs ls hi hc1 e1 hm hP hD hS hl
      refine lv_iload_n C.1 C.2.1 dX1_remove_13 rfl (lv_at hl 0 rfl) ?_
      refine lv_aload_n C.1 C.2.1 dX1_remove_14 rfl (lv_at hl 1 rfl) ?_
      refine ro_callV (As := []) (rest := [nV i]) C hK (c_X1_size l g q q0 c1) hP (ci := 1) (q0 := 0) rfl rfl kc_X1_size kl_X1_13 kn_X1 ki_X1_size ke_X1_size nk_X1_size (rm_lt (by decide) (by decide)) hl rfl (Nat.le_of_ble_eq_true rfl) dX1_remove_15 (fun r_4 hr_5 => ?_)
      subst hr_5
      refine r_cge 54 C dX1_remove_18 rfl ⟨rgN (by omega), rgN (by omega)⟩ (fun h_6 => ?_) (fun h_6 => ?_)
      · skip
        refine lv_aload_n C.1 C.2.1 dX1_remove_54 rfl (lv_at hl 1 rfl) ?_
        refine r_get C hK hP kw_X1 (ci := 1) rfl 0 0 (by decide) kf_X1_9 rfl rfl dX1_remove_55 ?_
        refine r_bipush 40 C dX1_remove_58 (by decide) ?_
        refine lv_aload_n C.1 C.2.1 dX1_remove_60 rfl (lv_at hl 1 rfl) ?_
        refine ro_callV (As := []) (rest := [nV 40, .ref q0]) C hK (c_X1_size l g q q0 c1) hP (ci := 1) (q0 := 0) rfl rfl kc_X1_size kl_X1_13 kn_X1 ki_X1_size ke_X1_size nk_X1_size (rm_lt (by decide) (by decide)) hl rfl (Nat.le_of_ble_eq_true rfl) dX1_remove_61 (fun r_7 hr_8 => ?_)
        subst hr_8
        refine r_iconst 1 C dX1_remove_64 rfl ?_
        refine r_subN C dX1_remove_65 (by omega) ?_
        refine r_astN C hK hP hD hS 1 rfl ⟨by omega, by omega⟩ dX1_remove_66 (fun H locs hP hD hS => ?_)
        have hP : va_P g.1 vwCl [(q, .inr (1, [.ref q0])), (q0, cN g 42 (upN c1 40 ((c1 40) - 1)))] H := hP
        have hD : va_D A [(q, .inr (1, [.ref q0])), (q0, cN g 42 (upN c1 40 ((c1 40) - 1)))] := hD
        exact ret (()) dX1_remove_67 hS (by rw [e1, hc1, show i = ce 40 by omega] at hP; exact hP) (trivial)
      refine r_iconst 0 C dX1_remove_21 rfl ?_
      refine lv_istore_n (lv' := [(3, nV 0), (2, nV i), (0, .ref q), (1, nV x)]) C.1 C.2.1 dX1_remove_22 rfl hl (by decide) rfl (fun ls hl => ?_)
      have L23 : ∀ (n_23 : Nat) (j : Nat) (c2 : Nat → Nat) (H : Heap) (locs : List Loc) (ls : Array Slot) (hj : j ≤ 5) (hc2 : c2 = lmv ce x ((i - 1) * 5 + j)) (e2 : c2 40 = ce 40) (hm : 5 - j < n_23) (hP : va_P g.1 vwCl [(q, .inr (1, [.ref q0])), (q0, cN g 42 c2)] H) (hD : va_D A [(q, .inr (1, [.ref q0])), (q0, cN g 42 c2)]) (hS : va_S A s.heap H locs) (hl : lv_has ls 4 [(3, nV j), (2, nV i), (0, .ref q), (1, nV x)]), W p l e (rD 4) s m args below meth c H locs 0 0 Q (F0 m 23 ls []) := by
        intro n_23
        induction n_23 with
        | zero => intro j c2 H locs ls hj hc2 e2 hm hP hD hS hl; exact absurd hm (Nat.not_lt_zero _)
        | succ n_23 ih_23 =>
          intro j c2 H locs ls hj hc2 e2 hm hP hD hS hl
          refine lv_iload_n C.1 C.2.1 dX1_remove_23 rfl (lv_at hl 0 rfl) ?_
          refine r_iconst 5 C dX1_remove_24 rfl ?_
          refine r_cge 48 C dX1_remove_25 rfl ⟨rgN (by omega), rgN (by decide)⟩ (fun h_9 => ?_) (fun h_9 => ?_)
          · skip
            refine r_incN (k := 1) (n := 1) [(2, nV (i + 1)), (3, nV j), (0, .ref q), (1, nV x)] C dX1_remove_48 hl rfl rfl (by decide) rfl (fun ls hl => ?_)
            refine r_goto 13 C dX1_remove_51 rfl ?_
            exact ih_13 (i + 1) c2 _ _ _ (by first | assumption | omega) (by rw [hc2, show (i + 1 - 1) * 5 = (i - 1) * 5 + j by omega]) (e2) (by omega) hP hD hS (lv_sub hl [0, 2, 3] rfl)
          refine lv_aload_n C.1 C.2.1 dX1_remove_28 rfl (lv_at hl 2 rfl) ?_
          refine lv_iload_n C.1 C.2.1 dX1_remove_29 rfl (lv_at hl 1 rfl) ?_
          refine r_iconst 1 C dX1_remove_30 rfl ?_
          refine r_subN C dX1_remove_31 (by omega) ?_
          refine lv_iload_n C.1 C.2.1 dX1_remove_32 rfl (lv_at hl 0 rfl) ?_
          refine lv_aload_n C.1 C.2.1 dX1_remove_33 rfl (lv_at hl 2 rfl) ?_
          refine lv_iload_n C.1 C.2.1 dX1_remove_34 rfl (lv_at hl 1 rfl) ?_
          refine lv_iload_n C.1 C.2.1 dX1_remove_35 rfl (lv_at hl 0 rfl) ?_
          refine ro_callV (As := [nV i, nV j]) (rest := [nV j, nV (i - 1), .ref q]) C hK (c_X1_part l g q q0 c2 i j (by first | assumption | omega) (by first | assumption | omega) (by first | assumption | omega)) hP (ci := 1) (q0 := 0) rfl rfl kc_X1_part kl_X1_39 kn_X1 ki_X1_part ke_X1_part nk_X1_part (rm_lt (by decide) (by decide)) hl rfl (Nat.le_of_ble_eq_true rfl) dX1_remove_36 (fun r_10 hr_11 => ?_)
          subst hr_11
          refine wr_callVV (As := [nV (i - 1), nV j, nV (c2 (i * 5 + j))]) (rest := []) C hK (c_X1_change l g q q0 c2 (i - 1) j (c2 (i * 5 + j)) (by first | assumption | omega) (by first | assumption | omega) (by first | assumption | omega)) [0, 1] rfl (fun _ => rfl) (by decide) hP hD hS hA (ci := 1) (q0 := 0) rfl rfl kc_X1_change kl_X1_35 kn_X1 ki_X1_change ke_X1_change nk_X1_change (rm_lt (by decide) (by decide)) hl rfl (Nat.le_of_ble_eq_true rfl) dX1_remove_39 (fun u_14 H locs hr_13 hP hD hS => ?_)
          have hP : va_P g.1 vwCl [(q, .inr (1, [.ref q0])), (q0, cN g 42 (upN c2 ((i - 1) * 5 + j) (c2 (i * 5 + j))))] H := hP
          have hD : va_D A [(q, .inr (1, [.ref q0])), (q0, cN g 42 (upN c2 ((i - 1) * 5 + j) (c2 (i * 5 + j))))] := hD
          refine r_incN (k := 0) (n := 1) [(3, nV (j + 1)), (2, nV i), (0, .ref q), (1, nV x)] C dX1_remove_42 hl rfl rfl (by decide) rfl (fun ls hl => ?_)
          refine r_goto 23 C dX1_remove_45 rfl ?_
          exact ih_23 (j + 1) (upN c2 ((i - 1) * 5 + j) (c2 (i * 5 + j))) _ _ _ (by first | assumption | omega) (by rw [hc2, show i * 5 + j = (i - 1) * 5 + j + 5 by omega]; exact lmv_s (by omega)) (by rw [upN_n (by omega)]; exact e2) (by omega) hP hD hS (lv_sub hl [0, 1, 2, 3] rfl)
      exact L23 (5 - 0 + 1) 0 c1 _ _ _ (by first | assumption | omega) (hc1) (e1) (Nat.lt_succ_self _) hP hD hS (lv_sub hl [0, 1, 2, 3] rfl)
  exact L13 (ce 40 - (x + 1) + 1) (x + 1) ce _ _ _ (by first | assumption | omega) (by rw [show (x + 1 - 1) * 5 = x * 5 by omega]; exact lmv_0.symm) (rfl) (Nat.lt_succ_self _) hP hD hS (lv_sub hl [0, 1, 2] rfl)
set_option maxHeartbeats 4000000 in
set_option maxRecDepth 100000 in
theorem c_X1_copyTo (l : Launch) (g : GG) (q : Nat) (q0 : Nat) (ce : Nat → Nat) (r0 : Nat) (nn : Nat) (row : Nat → Nat) (x : Nat) (hx : x + 42 ≤ nn) (hn : nn < 2147483648) : WRv g l yX1_copyTo cX1_copyTo 3 2 [(q, .inr (1, [.ref q0])), (q0, cN g 42 ce), (r0, cN g nn row)] [.ref q, .ref r0, nV x] (fun (_ : Unit) => True) (fun (_ : Unit) => [(q, .inr (1, [.ref q0])), (q0, cN g 42 ce), (r0, cN g nn (va_cpy ce row 0 x 42))]) := by
  refine wr_startV (by decide +kernel) (Nat.le_of_ble_eq_true rfl) ?_
  intro p e s m args below meth c Q A ls C hK hA ret hP hD hS hl
  have C : CT p s m args meth c cX1_copyTo RX1 3 := C
  have hl : lv_has ls 3 [(0, .ref q), (1, .ref r0), (2, nV x)] := hl
  refine lv_iload_n C.1 C.2.1 dX1_copyTo_0 rfl (lv_at hl 2 rfl) ?_
  refine r_iconst 0 C dX1_copyTo_1 rfl ?_
  refine lv_aload_n C.1 C.2.1 dX1_copyTo_2 rfl (lv_at hl 1 rfl) ?_
  refine r_alen nn (t0 := 1) C hK hP 2 rfl rfl rfl dX1_copyTo_3 ?_
  refine r_bipush 42 C dX1_copyTo_4 (by decide) ?_
  refine r_subN C dX1_copyTo_6 (by omega) ?_
  refine ro_callSN (As := [nV x, nV 0, nV (nn - 42)]) (rest := []) C hK (c_X9_within l g ((x : Nat) : Int) ((0 : Nat) : Int) ((nn - 42 : Nat) : Int) (by first | assumption | exact ⟨by omega, by omega⟩) (by first | assumption | exact ⟨by omega, by omega⟩) (by first | assumption | exact ⟨by omega, by omega⟩)) (hP.sub (ws' := []) [] rfl) kc_X9_within kx_X1_17 kn_X9 ks_X9_within nk_X9_within (rm_lt (by decide) (by decide)) hl rfl (Nat.le_of_ble_eq_true rfl) dX1_copyTo_7 (fun r_1 hr_2 => ?_)
  subst hr_2
  refine r_beq 25 C dX1_copyTo_10 rfl (fun h_3 => ?_) (fun h_3 => ?_)
  · exact absurd h_3 (by omega)
  refine lv_aload_n C.1 C.2.1 dX1_copyTo_13 rfl (lv_at hl 0 rfl) ?_
  refine r_get C hK hP kw_X1 (ci := 1) rfl 0 0 (by decide) kf_X1_9 rfl rfl dX1_copyTo_14 ?_
  refine r_iconst 0 C dX1_copyTo_17 rfl ?_
  refine lv_aload_n C.1 C.2.1 dX1_copyTo_18 rfl (lv_at hl 1 rfl) ?_
  refine lv_iload_n C.1 C.2.1 dX1_copyTo_19 rfl (lv_at hl 2 rfl) ?_
  refine r_bipush 42 C dX1_copyTo_20 (by decide) ?_
  refine r_copyN (sp := 0) (dp := x) (k := 42) C hK hP hD hS kl_X1_43 hl 1 2 rfl rfl ⟨by omega, by omega, by omega, by omega, by omega⟩ (by decide) (by decide) dX1_copyTo_22 (fun H locs hP hD hS => ?_)
  have hP : va_P g.1 vwCl [(q, .inr (1, [.ref q0])), (q0, cN g 42 ce), (r0, cN g nn (va_cpy ce row 0 x 42))] H := hP
  have hD : va_D A [(q, .inr (1, [.ref q0])), (q0, cN g 42 ce), (r0, cN g nn (va_cpy ce row 0 x 42))] := hD
  exact ret (()) dX1_copyTo_25 hS hP (trivial)
set_option maxHeartbeats 4000000 in
set_option maxRecDepth 100000 in
theorem c_X1_copyFrom (l : Launch) (g : GG) (q : Nat) (q0 : Nat) (ce : Nat → Nat) (r0 : Nat) (nn : Nat) (row : Nat → Nat) (x : Nat) (hx : x + 42 ≤ nn) (hn : nn < 2147483648) : WRv g l yX1_copyFrom cX1_copyFrom 3 2 [(q, .inr (1, [.ref q0])), (q0, cN g 42 ce), (r0, cN g nn row)] [.ref q, .ref r0, nV x] (fun (_ : Unit) => True) (fun (_ : Unit) => [(q, .inr (1, [.ref q0])), (q0, cN g 42 (va_cpy row ce x 0 42)), (r0, cN g nn row)]) := by
  refine wr_startV (by decide +kernel) (Nat.le_of_ble_eq_true rfl) ?_
  intro p e s m args below meth c Q A ls C hK hA ret hP hD hS hl
  have C : CT p s m args meth c cX1_copyFrom RX1 3 := C
  have hl : lv_has ls 3 [(0, .ref q), (1, .ref r0), (2, nV x)] := hl
  refine lv_iload_n C.1 C.2.1 dX1_copyFrom_0 rfl (lv_at hl 2 rfl) ?_
  refine r_iconst 0 C dX1_copyFrom_1 rfl ?_
  refine lv_aload_n C.1 C.2.1 dX1_copyFrom_2 rfl (lv_at hl 1 rfl) ?_
  refine r_alen nn (t0 := 1) C hK hP 2 rfl rfl rfl dX1_copyFrom_3 ?_
  refine r_bipush 42 C dX1_copyFrom_4 (by decide) ?_
  refine r_subN C dX1_copyFrom_6 (by omega) ?_
  refine ro_callSN (As := [nV x, nV 0, nV (nn - 42)]) (rest := []) C hK (c_X9_within l g ((x : Nat) : Int) ((0 : Nat) : Int) ((nn - 42 : Nat) : Int) (by first | assumption | exact ⟨by omega, by omega⟩) (by first | assumption | exact ⟨by omega, by omega⟩) (by first | assumption | exact ⟨by omega, by omega⟩)) (hP.sub (ws' := []) [] rfl) kc_X9_within kx_X1_17 kn_X9 ks_X9_within nk_X9_within (rm_lt (by decide) (by decide)) hl rfl (Nat.le_of_ble_eq_true rfl) dX1_copyFrom_7 (fun r_1 hr_2 => ?_)
  subst hr_2
  refine r_beq 25 C dX1_copyFrom_10 rfl (fun h_3 => ?_) (fun h_3 => ?_)
  · exact absurd h_3 (by omega)
  refine lv_aload_n C.1 C.2.1 dX1_copyFrom_13 rfl (lv_at hl 1 rfl) ?_
  refine lv_iload_n C.1 C.2.1 dX1_copyFrom_14 rfl (lv_at hl 2 rfl) ?_
  refine lv_aload_n C.1 C.2.1 dX1_copyFrom_15 rfl (lv_at hl 0 rfl) ?_
  refine r_get C hK hP kw_X1 (ci := 1) rfl 0 0 (by decide) kf_X1_9 rfl rfl dX1_copyFrom_16 ?_
  refine r_iconst 0 C dX1_copyFrom_19 rfl ?_
  refine r_bipush 42 C dX1_copyFrom_20 (by decide) ?_
  refine r_copyN (sp := x) (dp := 0) (k := 42) C hK hP hD hS kl_X1_43 hl 2 1 rfl rfl ⟨by omega, by omega, by omega, by omega, by omega⟩ (by decide) (by decide) dX1_copyFrom_22 (fun H locs hP hD hS => ?_)
  have hP : va_P g.1 vwCl [(q, .inr (1, [.ref q0])), (q0, cN g 42 (va_cpy row ce x 0 42)), (r0, cN g nn row)] H := hP
  have hD : va_D A [(q, .inr (1, [.ref q0])), (q0, cN g 42 (va_cpy row ce x 0 42)), (r0, cN g nn row)] := hD
  exact ret (()) dX1_copyFrom_25 hS hP (trivial)
set_option maxHeartbeats 4000000 in
set_option maxRecDepth 100000 in
theorem c_X5_size (l : Launch) (g : GG) (sh : Nat) (r0 : Nat) (dp : Nat) (sz : Nat)  : ROi g l yX5_size cX5_size 1 (some .int) 1 [(sh, .inr (4, [nV dp, .ref r0, nV sz]))] [.ref sh] (fun r => r = iI ((sz : Nat) : Int)) := by
  refine ro_startI (by decide +kernel) (Nat.le_of_ble_eq_true rfl) ?_
  intro p e s m args below meth c Q ls C hK hP ret hl
  have C : CT p s m args meth c cX5_size RX5 1 := C
  have hl : lv_has ls 1 [(0, .ref sh)] := hl
  refine lv_aload_n C.1 C.2.1 dX5_size_0 rfl (lv_at hl 0 rfl) ?_
  refine r_get C hK hP kw_X5 (ci := 4) rfl 0 2 (by decide) kf_X5_25 rfl rfl dX5_size_1 ?_
  exact ret dX5_size_4 (by first | rfl | exact iI_cast (by omega) | exact congrArg lI (by omega) | omega)
set_option maxHeartbeats 4000000 in
set_option maxRecDepth 100000 in
theorem c_X5_isFull (l : Launch) (g : GG) (sh : Nat) (r0 : Nat) (dp : Nat) (sz : Nat) (hdp : sz ≤ dp ∧ 1 ≤ dp ∧ dp ≤ 8) : ROi g l yX5_isFull cX5_isFull 1 (some .boolean) 1 [(sh, .inr (4, [nV dp, .ref r0, nV sz]))] [.ref sh] (fun r => r = bI (dp ≤ sz)) := by
  refine ro_startZ (by decide +kernel) (Nat.le_of_ble_eq_true rfl) ?_
  intro p e s m args below meth c Q ls C hK hP ret hl
  have C : CT p s m args meth c cX5_isFull RX5 1 := C
  have hl : lv_has ls 1 [(0, .ref sh)] := hl
  refine lv_aload_n C.1 C.2.1 dX5_isFull_0 rfl (lv_at hl 0 rfl) ?_
  refine r_get C hK hP kw_X5 (ci := 4) rfl 0 2 (by decide) kf_X5_25 rfl rfl dX5_isFull_1 ?_
  refine lv_aload_n C.1 C.2.1 dX5_isFull_4 rfl (lv_at hl 0 rfl) ?_
  refine r_get C hK hP kw_X5 (ci := 4) rfl 0 0 (by decide) kf_X5_13 rfl rfl dX5_isFull_5 ?_
  refine r_clt 15 C dX5_isFull_8 rfl ⟨rgN (by omega), rgN (by omega)⟩ (fun h_1 => ?_) (fun h_1 => ?_)
  · skip
    refine r_iconst 0 C dX5_isFull_15 rfl ?_
    exact ret dX5_isFull_16 (by decide) (bI_z (by omega))
  refine r_iconst 1 C dX5_isFull_11 rfl ?_
  refine r_goto 16 C dX5_isFull_12 rfl ?_
  exact ret dX5_isFull_16 (by decide) (bI_1 (by omega))
set_option maxHeartbeats 4000000 in
set_option maxRecDepth 100000 in
theorem c_X5_clear (l : Launch) (g : GG) (sh : Nat) (r0 : Nat) (dp : Nat) (sz : Nat)  : WRv g l yX5_clear cX5_clear 1 1 [(sh, .inr (4, [nV dp, .ref r0, nV sz]))] [.ref sh] (fun (_ : Unit) => True) (fun (_ : Unit) => [(sh, .inr (4, [nV dp, .ref r0, nV 0]))]) := by
  refine wr_startV (by decide +kernel) (Nat.le_of_ble_eq_true rfl) ?_
  intro p e s m args below meth c Q A ls C hK hA ret hP hD hS hl
  have C : CT p s m args meth c cX5_clear RX5 1 := C
  have hl : lv_has ls 1 [(0, .ref sh)] := hl
  refine lv_aload_n C.1 C.2.1 dX5_clear_0 rfl (lv_at hl 0 rfl) ?_
  refine r_iconst 0 C dX5_clear_1 rfl ?_
  refine r_put (v := nV 0) C hK hP hD hS kw_X5 tyX5_ok nmX5 (ci := 4) rfl 0 2 (by decide) kf_X5_25 rfl rfl rfl rfl rfl (Nat.le_of_ble_eq_true rfl) dX5_clear_2 (fun H locs hP hD hS => ?_)
  have hP : va_P g.1 vwCl [(sh, .inr (4, [nV dp, .ref r0, nV 0]))] H := hP
  have hD : va_D A [(sh, .inr (4, [nV dp, .ref r0, nV 0]))] := hD
  exact ret (()) dX5_clear_5 hS hP (trivial)
set_option maxHeartbeats 4000000 in
set_option maxRecDepth 100000 in
theorem c_X5_dropOldest (l : Launch) (g : GG) (sh : Nat) (r0 : Nat) (nn : Nat) (row : Nat → Nat) (dp : Nat) (sz : Nat) (hdp : sz ≤ dp ∧ 1 ≤ dp ∧ dp ≤ 8) (hnn : nn = dp * 42) (hz : 1 ≤ sz) : WRv g l yX5_dropOldest cX5_dropOldest 2 1 [(sh, .inr (4, [nV dp, .ref r0, nV sz])), (r0, cN g nn row)] [.ref sh] (fun (_ : Unit) => True) (fun (_ : Unit) => [(sh, .inr (4, [nV dp, .ref r0, nV (sz - 1)])), (r0, cN g nn (va_cpy row row 42 0 (nn - 42)))]) := by
  refine wr_startV (by decide +kernel) (Nat.le_of_ble_eq_true rfl) ?_
  intro p e s m args below meth c Q A ls C hK hA ret hP hD hS hl
  have C : CT p s m args meth c cX5_dropOldest RX5 2 := C
  have hl : lv_has ls 2 [(0, .ref sh)] := hl
  refine lv_aload_n C.1 C.2.1 dX5_dropOldest_0 rfl (lv_at hl 0 rfl) ?_
  refine r_get C hK hP kw_X5 (ci := 4) rfl 0 1 (by decide) kf_X5_21 rfl rfl dX5_dropOldest_1 ?_
  refine r_alen nn (t0 := 1) C hK hP 1 rfl rfl rfl dX5_dropOldest_4 ?_
  refine r_bipush 42 C dX5_dropOldest_5 (by decide) ?_
  refine r_subN C dX5_dropOldest_7 (by omega) ?_
  refine lv_istore_n (lv' := [(1, nV (nn - 42)), (0, .ref sh)]) C.1 C.2.1 dX5_dropOldest_8 rfl hl (by decide) rfl (fun ls hl => ?_)
  refine lv_iload_n C.1 C.2.1 dX5_dropOldest_9 rfl (lv_at hl 0 rfl) ?_
  refine r_ilt 28 C dX5_dropOldest_10 rfl (rgN (by omega)) (fun h_1 => ?_) (fun h_1 => ?_)
  · exact absurd h_1 (by omega)
  refine lv_aload_n C.1 C.2.1 dX5_dropOldest_13 rfl (lv_at hl 1 rfl) ?_
  refine r_get C hK hP kw_X5 (ci := 4) rfl 0 1 (by decide) kf_X5_21 rfl rfl dX5_dropOldest_14 ?_
  refine r_bipush 42 C dX5_dropOldest_17 (by decide) ?_
  refine lv_aload_n C.1 C.2.1 dX5_dropOldest_19 rfl (lv_at hl 1 rfl) ?_
  refine r_get C hK hP kw_X5 (ci := 4) rfl 0 1 (by decide) kf_X5_21 rfl rfl dX5_dropOldest_20 ?_
  refine r_iconst 0 C dX5_dropOldest_23 rfl ?_
  refine lv_iload_n C.1 C.2.1 dX5_dropOldest_24 rfl (lv_at hl 0 rfl) ?_
  refine r_copyN (sp := 42) (dp := 0) (k := (nn - 42)) C hK hP hD hS kl_X5_42 hl 1 1 rfl rfl ⟨by omega, by omega, by omega, by omega, by omega⟩ (by decide) (by decide) dX5_dropOldest_25 (fun H locs hP hD hS => ?_)
  have hP : va_P g.1 vwCl [(sh, .inr (4, [nV dp, .ref r0, nV sz])), (r0, cN g nn (va_cpy row row 42 0 (nn - 42)))] H := hP
  have hD : va_D A [(sh, .inr (4, [nV dp, .ref r0, nV sz])), (r0, cN g nn (va_cpy row row 42 0 (nn - 42)))] := hD
  refine lv_aload_n C.1 C.2.1 dX5_dropOldest_28 rfl (lv_at hl 1 rfl) ?_
  refine lv_dup C.1 C.2.1 dX5_dropOldest_29 rfl ?_
  refine r_get C hK hP kw_X5 (ci := 4) rfl 0 2 (by decide) kf_X5_25 rfl rfl dX5_dropOldest_30 ?_
  refine r_iconst 1 C dX5_dropOldest_33 rfl ?_
  refine r_subN C dX5_dropOldest_34 (by omega) ?_
  refine r_put (v := nV (sz - 1)) C hK hP hD hS kw_X5 tyX5_ok nmX5 (ci := 4) rfl 0 2 (by decide) kf_X5_25 rfl rfl rfl rfl rfl (Nat.le_of_ble_eq_true rfl) dX5_dropOldest_35 (fun H locs hP hD hS => ?_)
  have hP : va_P g.1 vwCl [(sh, .inr (4, [nV dp, .ref r0, nV (sz - 1)])), (r0, cN g nn (va_cpy row row 42 0 (nn - 42)))] H := hP
  have hD : va_D A [(sh, .inr (4, [nV dp, .ref r0, nV (sz - 1)])), (r0, cN g nn (va_cpy row row 42 0 (nn - 42)))] := hD
  exact ret (()) dX5_dropOldest_38 hS hP (trivial)
set_option maxHeartbeats 4000000 in
set_option maxRecDepth 100000 in
theorem c_X5_push (l : Launch) (g : GG) (sh : Nat) (r0 : Nat) (nn : Nat) (row : Nat → Nat) (dp : Nat) (sz : Nat) (q : Nat) (q0 : Nat) (ce : Nat → Nat) (hdp : sz ≤ dp ∧ 1 ≤ dp ∧ dp ≤ 8) (hnn : nn = dp * 42) : WRv g l yX5_push cX5_push 2 3 [(sh, .inr (4, [nV dp, .ref r0, nV sz])), (r0, cN g nn row), (q, .inr (1, [.ref q0])), (q0, cN g 42 ce)] [.ref sh, .ref q] (fun (_ : Unit) => True) (fun (_ : Unit) => [(sh, .inr (4, [nV dp, .ref r0, nV (ssz dp sz)])), (r0, cN g nn (srow row ce nn dp sz)), (q, .inr (1, [.ref q0])), (q0, cN g 42 ce)]) := by
  refine wr_startV (by decide +kernel) (Nat.le_of_ble_eq_true rfl) ?_
  intro p e s m args below meth c Q A ls C hK hA ret hP hD hS hl
  have C : CT p s m args meth c cX5_push RX5 2 := C
  have hl : lv_has ls 2 [(0, .ref sh), (1, .ref q)] := hl
  refine lv_aload_n C.1 C.2.1 dX5_push_0 rfl (lv_at hl 0 rfl) ?_
  refine ro_callV (As := []) (rest := []) C hK (c_X5_isFull l g sh r0 dp sz (by first | assumption | omega)) (hP.sub (ws' := [(sh, .inr (4, [nV dp, .ref r0, nV sz]))]) [0] rfl) (ci := 4) (q0 := 0) rfl rfl kc_X5_isFull kl_X5_28 kn_X5 ki_X5_isFull ke_X5_isFull nk_X5_isFull (rm_lt (by decide) (by decide)) hl rfl (Nat.le_of_ble_eq_true rfl) dX5_push_1 (fun r_1 hr_2 => ?_)
  subst hr_2
  refine r_beq 11 C dX5_push_4 rfl (fun h_3 => ?_) (fun h_3 => ?_)
  · skip
    refine lv_aload_n C.1 C.2.1 dX5_push_11 rfl (lv_at hl 1 rfl) ?_
    refine lv_aload_n C.1 C.2.1 dX5_push_12 rfl (lv_at hl 0 rfl) ?_
    refine r_get C hK hP kw_X5 (ci := 4) rfl 0 1 (by decide) kf_X5_21 rfl rfl dX5_push_13 ?_
    refine lv_aload_n C.1 C.2.1 dX5_push_16 rfl (lv_at hl 0 rfl) ?_
    refine r_get C hK hP kw_X5 (ci := 4) rfl 0 2 (by decide) kf_X5_25 rfl rfl dX5_push_17 ?_
    refine r_bipush 42 C dX5_push_20 (by decide) ?_
    refine r_mulN C dX5_push_22 ?_
    refine wr_callVV (As := [.ref r0, nV (sz * 42)]) (rest := []) C hK (c_X1_copyTo l g q q0 ce r0 nn row (sz * 42) (by first | assumption | omega) (by first | assumption | omega)) [2, 3, 1] rfl (fun _ => rfl) (by decide) hP hD hS hA (ci := 1) (q0 := 0) rfl rfl kc_X1_copyTo kl_X5_35 kn_X1 ki_X1_copyTo ke_X1_copyTo nk_X1_copyTo (rm_lt (by decide) (by decide)) hl rfl (Nat.le_of_ble_eq_true rfl) dX5_push_23 (fun u_6 H locs hr_5 hP hD hS => ?_)
    have hP : va_P g.1 vwCl [(sh, .inr (4, [nV dp, .ref r0, nV sz])), (r0, cN g nn (va_cpy ce row 0 (sz * 42) 42)), (q, .inr (1, [.ref q0])), (q0, cN g 42 ce)] H := hP
    have hD : va_D A [(sh, .inr (4, [nV dp, .ref r0, nV sz])), (r0, cN g nn (va_cpy ce row 0 (sz * 42) 42)), (q, .inr (1, [.ref q0])), (q0, cN g 42 ce)] := hD
    refine lv_aload_n C.1 C.2.1 dX5_push_26 rfl (lv_at hl 0 rfl) ?_
    refine lv_dup C.1 C.2.1 dX5_push_27 rfl ?_
    refine r_get C hK hP kw_X5 (ci := 4) rfl 0 2 (by decide) kf_X5_25 rfl rfl dX5_push_28 ?_
    refine r_iconst 1 C dX5_push_31 rfl ?_
    refine r_addN C dX5_push_32 ?_
    refine r_put (v := nV (sz + 1)) C hK hP hD hS kw_X5 tyX5_ok nmX5 (ci := 4) rfl 0 2 (by decide) kf_X5_25 rfl rfl rfl rfl rfl (Nat.le_of_ble_eq_true rfl) dX5_push_33 (fun H locs hP hD hS => ?_)
    have hP : va_P g.1 vwCl [(sh, .inr (4, [nV dp, .ref r0, nV (sz + 1)])), (r0, cN g nn (va_cpy ce row 0 (sz * 42) 42)), (q, .inr (1, [.ref q0])), (q0, cN g 42 ce)] H := hP
    have hD : va_D A [(sh, .inr (4, [nV dp, .ref r0, nV (sz + 1)])), (r0, cN g nn (va_cpy ce row 0 (sz * 42) 42)), (q, .inr (1, [.ref q0])), (q0, cN g 42 ce)] := hD
    exact ret (()) dX5_push_36 hS (by unfold srow ssz; first | (rw [if_pos (by omega), if_pos (by omega)]; rw [show sz - 1 + 1 = sz by omega] at hP; exact hP) | (rw [if_neg (by omega), if_neg (by omega)]; exact hP)) (trivial)
  refine lv_aload_n C.1 C.2.1 dX5_push_7 rfl (lv_at hl 0 rfl) ?_
  refine wr_callVV (As := []) (rest := []) C hK (c_X5_dropOldest l g sh r0 nn row dp sz (by first | assumption | omega) (by first | assumption | omega) (by first | assumption | omega)) [0, 1] rfl (fun _ => rfl) (by decide) hP hD hS hA (ci := 4) (q0 := 0) rfl rfl kc_X5_dropOldest kl_X5_32 kn_X5 ki_X5_dropOldest ke_X5_dropOldest nk_X5_dropOldest (rm_lt (by decide) (by decide)) hl rfl (Nat.le_of_ble_eq_true rfl) dX5_push_8 (fun u_9 H locs hr_8 hP hD hS => ?_)
  have hP : va_P g.1 vwCl [(sh, .inr (4, [nV dp, .ref r0, nV (sz - 1)])), (r0, cN g nn (va_cpy row row 42 0 (nn - 42))), (q, .inr (1, [.ref q0])), (q0, cN g 42 ce)] H := hP
  have hD : va_D A [(sh, .inr (4, [nV dp, .ref r0, nV (sz - 1)])), (r0, cN g nn (va_cpy row row 42 0 (nn - 42))), (q, .inr (1, [.ref q0])), (q0, cN g 42 ce)] := hD
  refine lv_aload_n C.1 C.2.1 dX5_push_11 rfl (lv_at hl 1 rfl) ?_
  refine lv_aload_n C.1 C.2.1 dX5_push_12 rfl (lv_at hl 0 rfl) ?_
  refine r_get C hK hP kw_X5 (ci := 4) rfl 0 1 (by decide) kf_X5_21 rfl rfl dX5_push_13 ?_
  refine lv_aload_n C.1 C.2.1 dX5_push_16 rfl (lv_at hl 0 rfl) ?_
  refine r_get C hK hP kw_X5 (ci := 4) rfl 0 2 (by decide) kf_X5_25 rfl rfl dX5_push_17 ?_
  refine r_bipush 42 C dX5_push_20 (by decide) ?_
  refine r_mulN C dX5_push_22 ?_
  refine wr_callVV (As := [.ref r0, nV ((sz - 1) * 42)]) (rest := []) C hK (c_X1_copyTo l g q q0 ce r0 nn (va_cpy row row 42 0 (nn - 42)) ((sz - 1) * 42) (by first | assumption | omega) (by first | assumption | omega)) [2, 3, 1] rfl (fun _ => rfl) (by decide) hP hD hS hA (ci := 1) (q0 := 0) rfl rfl kc_X1_copyTo kl_X5_35 kn_X1 ki_X1_copyTo ke_X1_copyTo nk_X1_copyTo (rm_lt (by decide) (by decide)) hl rfl (Nat.le_of_ble_eq_true rfl) dX5_push_23 (fun u_12 H locs hr_11 hP hD hS => ?_)
  have hP : va_P g.1 vwCl [(sh, .inr (4, [nV dp, .ref r0, nV (sz - 1)])), (r0, cN g nn (va_cpy ce (va_cpy row row 42 0 (nn - 42)) 0 ((sz - 1) * 42) 42)), (q, .inr (1, [.ref q0])), (q0, cN g 42 ce)] H := hP
  have hD : va_D A [(sh, .inr (4, [nV dp, .ref r0, nV (sz - 1)])), (r0, cN g nn (va_cpy ce (va_cpy row row 42 0 (nn - 42)) 0 ((sz - 1) * 42) 42)), (q, .inr (1, [.ref q0])), (q0, cN g 42 ce)] := hD
  refine lv_aload_n C.1 C.2.1 dX5_push_26 rfl (lv_at hl 0 rfl) ?_
  refine lv_dup C.1 C.2.1 dX5_push_27 rfl ?_
  refine r_get C hK hP kw_X5 (ci := 4) rfl 0 2 (by decide) kf_X5_25 rfl rfl dX5_push_28 ?_
  refine r_iconst 1 C dX5_push_31 rfl ?_
  refine r_addN C dX5_push_32 ?_
  refine r_put (v := nV ((sz - 1) + 1)) C hK hP hD hS kw_X5 tyX5_ok nmX5 (ci := 4) rfl 0 2 (by decide) kf_X5_25 rfl rfl rfl rfl rfl (Nat.le_of_ble_eq_true rfl) dX5_push_33 (fun H locs hP hD hS => ?_)
  have hP : va_P g.1 vwCl [(sh, .inr (4, [nV dp, .ref r0, nV ((sz - 1) + 1)])), (r0, cN g nn (va_cpy ce (va_cpy row row 42 0 (nn - 42)) 0 ((sz - 1) * 42) 42)), (q, .inr (1, [.ref q0])), (q0, cN g 42 ce)] H := hP
  have hD : va_D A [(sh, .inr (4, [nV dp, .ref r0, nV ((sz - 1) + 1)])), (r0, cN g nn (va_cpy ce (va_cpy row row 42 0 (nn - 42)) 0 ((sz - 1) * 42) 42)), (q, .inr (1, [.ref q0])), (q0, cN g 42 ce)] := hD
  exact ret (()) dX5_push_36 hS (by unfold srow ssz; first | (rw [if_pos (by omega), if_pos (by omega)]; rw [show sz - 1 + 1 = sz by omega] at hP; exact hP) | (rw [if_neg (by omega), if_neg (by omega)]; exact hP)) (trivial)
set_option maxHeartbeats 4000000 in
set_option maxRecDepth 100000 in
theorem c_X5_popInto (l : Launch) (g : GG) (sh : Nat) (r0 : Nat) (nn : Nat) (row : Nat → Nat) (dp : Nat) (sz : Nat) (q : Nat) (q0 : Nat) (ce : Nat → Nat) (hdp : sz ≤ dp ∧ 1 ≤ dp ∧ dp ≤ 8) (hnn : nn = dp * 42) (hz : 1 ≤ sz) : WRv g l yX5_popInto cX5_popInto 2 3 [(sh, .inr (4, [nV dp, .ref r0, nV sz])), (r0, cN g nn row), (q, .inr (1, [.ref q0])), (q0, cN g 42 ce)] [.ref sh, .ref q] (fun (_ : Unit) => True) (fun (_ : Unit) => [(sh, .inr (4, [nV dp, .ref r0, nV (sz - 1)])), (r0, cN g nn row), (q, .inr (1, [.ref q0])), (q0, cN g 42 (va_cpy row ce ((sz - 1) * 42) 0 42))]) := by
  refine wr_startV (by decide +kernel) (Nat.le_of_ble_eq_true rfl) ?_
  intro p e s m args below meth c Q A ls C hK hA ret hP hD hS hl
  have C : CT p s m args meth c cX5_popInto RX5 2 := C
  have hl : lv_has ls 2 [(0, .ref sh), (1, .ref q)] := hl
  refine lv_aload_n C.1 C.2.1 dX5_popInto_0 rfl (lv_at hl 0 rfl) ?_
  refine r_get C hK hP kw_X5 (ci := 4) rfl 0 2 (by decide) kf_X5_25 rfl rfl dX5_popInto_1 ?_
  refine r_ile 32 C dX5_popInto_4 rfl (rgN (by omega)) (fun h_1 => ?_) (fun h_1 => ?_)
  · exact absurd h_1 (by omega)
  refine lv_aload_n C.1 C.2.1 dX5_popInto_7 rfl (lv_at hl 0 rfl) ?_
  refine lv_dup C.1 C.2.1 dX5_popInto_8 rfl ?_
  refine r_get C hK hP kw_X5 (ci := 4) rfl 0 2 (by decide) kf_X5_25 rfl rfl dX5_popInto_9 ?_
  refine r_iconst 1 C dX5_popInto_12 rfl ?_
  refine r_subN C dX5_popInto_13 (by omega) ?_
  refine r_put (v := nV (sz - 1)) C hK hP hD hS kw_X5 tyX5_ok nmX5 (ci := 4) rfl 0 2 (by decide) kf_X5_25 rfl rfl rfl rfl rfl (Nat.le_of_ble_eq_true rfl) dX5_popInto_14 (fun H locs hP hD hS => ?_)
  have hP : va_P g.1 vwCl [(sh, .inr (4, [nV dp, .ref r0, nV (sz - 1)])), (r0, cN g nn row), (q, .inr (1, [.ref q0])), (q0, cN g 42 ce)] H := hP
  have hD : va_D A [(sh, .inr (4, [nV dp, .ref r0, nV (sz - 1)])), (r0, cN g nn row), (q, .inr (1, [.ref q0])), (q0, cN g 42 ce)] := hD
  refine lv_aload_n C.1 C.2.1 dX5_popInto_17 rfl (lv_at hl 1 rfl) ?_
  refine lv_aload_n C.1 C.2.1 dX5_popInto_18 rfl (lv_at hl 0 rfl) ?_
  refine r_get C hK hP kw_X5 (ci := 4) rfl 0 1 (by decide) kf_X5_21 rfl rfl dX5_popInto_19 ?_
  refine lv_aload_n C.1 C.2.1 dX5_popInto_22 rfl (lv_at hl 0 rfl) ?_
  refine r_get C hK hP kw_X5 (ci := 4) rfl 0 2 (by decide) kf_X5_25 rfl rfl dX5_popInto_23 ?_
  refine r_bipush 42 C dX5_popInto_26 (by decide) ?_
  refine r_mulN C dX5_popInto_28 ?_
  refine wr_callVV (As := [.ref r0, nV ((sz - 1) * 42)]) (rest := []) C hK (c_X1_copyFrom l g q q0 ce r0 nn row ((sz - 1) * 42) (by first | assumption | omega) (by first | assumption | omega)) [2, 3, 1] rfl (fun _ => rfl) (by decide) hP hD hS hA (ci := 1) (q0 := 0) rfl rfl kc_X1_copyFrom kl_X5_39 kn_X1 ki_X1_copyFrom ke_X1_copyFrom nk_X1_copyFrom (rm_lt (by decide) (by decide)) hl rfl (Nat.le_of_ble_eq_true rfl) dX5_popInto_29 (fun u_4 H locs hr_3 hP hD hS => ?_)
  have hP : va_P g.1 vwCl [(sh, .inr (4, [nV dp, .ref r0, nV (sz - 1)])), (r0, cN g nn row), (q, .inr (1, [.ref q0])), (q0, cN g 42 (va_cpy row ce ((sz - 1) * 42) 0 42))] H := hP
  have hD : va_D A [(sh, .inr (4, [nV dp, .ref r0, nV (sz - 1)])), (r0, cN g nn row), (q, .inr (1, [.ref q0])), (q0, cN g 42 (va_cpy row ce ((sz - 1) * 42) 0 42))] := hD
  exact ret (()) dX5_popInto_32 hS hP (trivial)
