set_option maxHeartbeats 4000000 in
set_option maxRecDepth 100000 in
theorem c_X10_code_no (l : Launch) (g : GG) (mo0 : Nat) (mA1 : Nat) (mA3 : Nat) (mA4 : Nat) (mA5 : Nat) (mA6 : Nat) (mA7 : Nat) (mA8 : Nat) (mA9 : Nat) (mA10 : Nat) (mA11 : Nat) (mA12 : Nat) (mA15 : Nat) (mA16 : Nat) (mA17 : Nat) (mA20 : Nat) (mL : Nat) (mAt : Nat) (kz : Nat) (dn : Nat) (mAb : Nat) (mBe : Nat) (mCl : Int) (x : Int) (y : Int) (w : Int) (z : Int) (hno : ¬ ((1 ≤ x ∧ x ≤ 3) ∧ ((0 ≤ y ∧ y ≤ 20) ∧ (0 ≤ w ∧ w ≤ 3)) ∧ (-1 ≤ z ∧ z ≤ x - 1))) (hx : rg x) (hy : rg y) (hw : rg w) (hz : rg z) : ROi g l yX10_code cX10_code 8 (some .int) 4 [(mo0, .inr (8, [nV mL, .ref mA1, nV mAt, .ref mA3, .ref mA4, .ref mA5, .ref mA6, .ref mA7, .ref mA8, .ref mA9, .ref mA10, .ref mA11, .ref mA12, nV kz, nV dn, .ref mA15, .ref mA16, .ref mA17, mV mAb, mV mBe, .ref mA20, zV mCl]))] [.ref mo0, zV x, zV y, zV w, zV z] (fun r => r = iI (-1)) := by
  refine ro_startI (by decide +kernel) (Nat.le_of_ble_eq_true rfl) ?_
  intro p e s m args below meth c Q ls C hK hP ret hl
  have C : CT p s m args meth c cX10_code RX10 8 := C
  have hl : lv_has ls 8 [(0, .ref mo0), (1, zV x), (2, zV y), (3, zV w), (4, zV z)] := hl
  refine lv_iload_n C.1 C.2.1 dX10_code_0 rfl (lv_at hl 1 rfl) ?_
  refine r_i2l C dX10_code_1 (⟨by omega, by omega⟩) ?_
  refine r_lconst 1 C dX10_code_2 rfl ?_
  refine r_ldc2N 3 C kv_X10_131 dX10_code_3 rfl ?_
  refine ro_callS (As := [jV x, mV 1, mV 3]) (rest := []) C hK (c_X10_in l g x ((1 : Nat) : Int) ((3 : Nat) : Int) (by first | assumption | exact ⟨by omega, by omega⟩) (by first | assumption | exact ⟨by omega, by omega⟩) (by first | assumption | exact ⟨by omega, by omega⟩)) (hP.sub (ws' := []) [] rfl) kc_X10_in kl_X10_65 kn_X10 ks_X10_in nk_X10_in (rm_lt (by decide) (by decide)) hl rfl (Nat.le_of_ble_eq_true rfl) dX10_code_6 (fun r_1 hr_2 => ?_)
  subst hr_2
  refine r_beq 36 C dX10_code_9 rfl (fun h_3 => ?_) (fun h_3 => ?_)
  · skip
    refine r_iconstZ C dX10_code_36 ?_
    exact ret dX10_code_37 (by first | rfl | exact iI_cast (by omega) | exact congrArg lI (by omega) | omega)
  refine lv_iload_n C.1 C.2.1 dX10_code_12 rfl (lv_at hl 2 rfl) ?_
  refine lv_iload_n C.1 C.2.1 dX10_code_13 rfl (lv_at hl 3 rfl) ?_
  refine ro_callS (As := [zV y, zV w]) (rest := []) C hK (c_X10_isSpan l g y w (by first | assumption | exact ⟨by omega, by omega⟩) (by first | assumption | exact ⟨by omega, by omega⟩)) (hP.sub (ws' := []) [] rfl) kc_X10_isSpan kl_X10_162 kn_X10 ks_X10_isSpan nk_X10_isSpan (rm_lt (by decide) (by decide)) hl rfl (Nat.le_of_ble_eq_true rfl) dX10_code_14 (fun r_4 hr_5 => ?_)
  subst hr_5
  refine r_beq 36 C dX10_code_17 rfl (fun h_6 => ?_) (fun h_6 => ?_)
  · skip
    refine r_iconstZ C dX10_code_36 ?_
    exact ret dX10_code_37 (by first | rfl | exact iI_cast (by omega) | exact congrArg lI (by omega) | omega)
  refine lv_iload C.1 C.2.1 dX10_code_20 (lv_at hl 4 rfl) ?_
  refine r_i2l C dX10_code_22 (⟨by omega, by omega⟩) ?_
  refine r_ldc2 (-1) C kv_X10_173 dX10_code_23 rfl ?_
  refine lv_iload_n C.1 C.2.1 dX10_code_26 rfl (lv_at hl 1 rfl) ?_
  refine r_iconst 1 C dX10_code_27 rfl ?_
  refine r_subZ C dX10_code_28 ?_
  refine r_i2l C dX10_code_29 (⟨by omega, by omega⟩) ?_
  refine ro_callS (As := [jV z, jV (-1), jV (x - ((1 : Nat) : Int))]) (rest := []) C hK (c_X10_in l g z (-1) (x - ((1 : Nat) : Int)) (by first | assumption | exact ⟨by omega, by omega⟩) (by first | assumption | exact ⟨by omega, by omega⟩) (by first | assumption | exact ⟨by omega, by omega⟩)) (hP.sub (ws' := []) [] rfl) kc_X10_in kl_X10_65 kn_X10 ks_X10_in nk_X10_in (rm_lt (by decide) (by decide)) hl rfl (Nat.le_of_ble_eq_true rfl) dX10_code_30 (fun r_7 hr_8 => ?_)
  subst hr_8
  refine r_bne 38 C dX10_code_33 rfl (fun h_9 => ?_) (fun h_9 => ?_)
  · exact absurd h_9 (by omega)
  refine r_iconstZ C dX10_code_36 ?_
  exact ret dX10_code_37 (by first | rfl | exact iI_cast (by omega) | exact congrArg lI (by omega) | omega)
