set_option maxHeartbeats 4000000 in
set_option maxRecDepth 100000 in
theorem c_X10_in (l : Launch) (g : GG) (x : Int) (y : Int) (w : Int) (hx : rl x) (hy : rl y) (hw : rl w) : ROi g l yX10_in cX10_in 6 (some .boolean) 1 [] [jV x, jV y, jV w] (fun r => r = bI (y ≤ x ∧ x ≤ w)) := by
  refine ro_startZ (by decide +kernel) (Nat.le_of_ble_eq_true rfl) ?_
  intro p e s m args below meth c Q ls C hK hP ret hl
  have C : CT p s m args meth c cX10_in RX10 6 := C
  have hl : lv_has ls 6 [(0, jV x), (2, jV y), (4, jV w)] := hl
  refine lv_lload_n C.1 C.2.1 dX10_in_0 rfl (lv_at hl 0 rfl) ?_
  refine lv_lload_n C.1 C.2.1 dX10_in_1 rfl (lv_at hl 1 rfl) ?_
  refine r_llt 17 C dX10_in_2 dX10_in_3 rfl ⟨⟨by omega, by omega⟩, ⟨by omega, by omega⟩⟩ (fun h_1 => ?_) (fun h_1 => ?_)
  · skip
    refine r_iconst 0 C dX10_in_17 rfl ?_
    exact ret dX10_in_18 (by decide) (bI_z (by omega))
  refine lv_lload_n C.1 C.2.1 dX10_in_6 rfl (lv_at hl 0 rfl) ?_
  refine lv_lload C.1 C.2.1 dX10_in_7 (lv_at hl 2 rfl) ?_
  refine r_lgt 17 C dX10_in_9 dX10_in_10 rfl ⟨⟨by omega, by omega⟩, ⟨by omega, by omega⟩⟩ (fun h_2 => ?_) (fun h_2 => ?_)
  · skip
    refine r_iconst 0 C dX10_in_17 rfl ?_
    exact ret dX10_in_18 (by decide) (bI_z (by omega))
  refine r_iconst 1 C dX10_in_13 rfl ?_
  refine r_goto 18 C dX10_in_14 rfl ?_
  exact ret dX10_in_18 (by decide) (bI_1 (by omega))
set_option maxHeartbeats 4000000 in
set_option maxRecDepth 100000 in
theorem c_X10_flourOf (l : Launch) (g : GG) (x : Nat) (hx : x < 2147483648) : ROi g l yX10_flourOf cX10_flourOf 1 (some .int) 1 [] [nV x] (fun r => r = iI ((fl x : Nat) : Int)) := by
  refine ro_startI (by decide +kernel) (Nat.le_of_ble_eq_true rfl) ?_
  intro p e s m args below meth c Q ls C hK hP ret hl
  have C : CT p s m args meth c cX10_flourOf RX10 1 := C
  have hl : lv_has ls 1 [(0, nV x)] := hl
  refine r_iconst 1 C dX10_flourOf_0 rfl ?_
  refine lv_iload_n C.1 C.2.1 dX10_flourOf_1 rfl (lv_at hl 0 rfl) ?_
  refine r_bipush 6 C dX10_flourOf_2 (by decide) ?_
  refine r_remN C dX10_flourOf_4 (by omega) (by decide) ?_
  refine r_addN C dX10_flourOf_5 ?_
  refine r_iconst 2 C dX10_flourOf_6 rfl ?_
  refine lv_iload_n C.1 C.2.1 dX10_flourOf_7 rfl (lv_at hl 0 rfl) ?_
  refine r_bipush 6 C dX10_flourOf_8 (by decide) ?_
  refine r_divN C dX10_flourOf_10 (by omega) (by decide) ?_
  refine r_iconst 4 C dX10_flourOf_11 rfl ?_
  refine r_remN C dX10_flourOf_12 (by omega) (by decide) ?_
  refine r_mulN C dX10_flourOf_13 ?_
  refine r_addN C dX10_flourOf_14 ?_
  refine r_iconst 3 C dX10_flourOf_15 rfl ?_
  refine lv_iload_n C.1 C.2.1 dX10_flourOf_16 rfl (lv_at hl 0 rfl) ?_
  refine r_bipush 24 C dX10_flourOf_17 (by decide) ?_
  refine r_divN C dX10_flourOf_19 (by omega) (by decide) ?_
  refine r_mulN C dX10_flourOf_20 ?_
  refine r_addN C dX10_flourOf_21 ?_
  exact ret dX10_flourOf_22 (by first | rfl | exact iI_cast (by omega) | exact congrArg lI (by omega) | omega)
set_option maxHeartbeats 4000000 in
set_option maxRecDepth 100000 in
theorem c_X10_isWord (l : Launch) (g : GG) (mo0 : Nat) (mA1 : Nat) (mA3 : Nat) (mA4 : Nat) (mA5 : Nat) (mA6 : Nat) (mA7 : Nat) (mA8 : Nat) (mA9 : Nat) (mA10 : Nat) (mA11 : Nat) (mA12 : Nat) (mA15 : Nat) (mA16 : Nat) (mA17 : Nat) (mA20 : Nat) (mL : Nat) (mAt : Nat) (kz : Nat) (dn : Nat) (mAb : Nat) (mBe : Nat) (mCl : Int) (mws : Nat → Nat) (k : Nat) (x : Int) (hk0 : mws 0 = k) (hk : k ≤ 8) (hx : rg x) : ROi g l yX10_isWord cX10_isWord 2 (some .boolean) 2 [(mo0, .inr (8, [nV mL, .ref mA1, nV mAt, .ref mA3, .ref mA4, .ref mA5, .ref mA6, .ref mA7, .ref mA8, .ref mA9, .ref mA10, .ref mA11, .ref mA12, nV kz, nV dn, .ref mA15, .ref mA16, .ref mA17, mV mAb, mV mBe, .ref mA20, zV mCl])), (mA4, cN g 2 mws)] [.ref mo0, zV x] (fun r => r = bI (0 ≤ x ∧ x < (k : Int))) := by
  refine ro_startZ (by decide +kernel) (Nat.le_of_ble_eq_true rfl) ?_
  intro p e s m args below meth c Q ls C hK hP ret hl
  have C : CT p s m args meth c cX10_isWord RX10 2 := C
  have hl : lv_has ls 2 [(0, .ref mo0), (1, zV x)] := hl
  refine lv_iload_n C.1 C.2.1 dX10_isWord_0 rfl (lv_at hl 1 rfl) ?_
  refine r_i2l C dX10_isWord_1 (⟨by omega, by omega⟩) ?_
  refine r_lconst 0 C dX10_isWord_2 rfl ?_
  refine lv_aload_n C.1 C.2.1 dX10_isWord_3 rfl (lv_at hl 0 rfl) ?_
  refine r_get C hK hP kw_X10 (ci := 8) rfl 0 4 (by decide) kf_X10_17 rfl rfl dX10_isWord_4 ?_
  refine r_iconst 0 C dX10_isWord_7 rfl ?_
  refine r_aldN C hK hP 1 rfl ⟨by omega, by omega⟩ dX10_isWord_8 ?_
  refine r_top (v' := nV k) (by rw [hk0]) ?_
  refine r_iconst 1 C dX10_isWord_9 rfl ?_
  refine r_subZ C dX10_isWord_10 ?_
  refine r_i2l C dX10_isWord_11 (⟨by omega, by omega⟩) ?_
  refine ro_callS (As := [jV x, mV 0, jV (((k : Nat) : Int) - ((1 : Nat) : Int))]) (rest := []) C hK (c_X10_in l g x ((0 : Nat) : Int) (((k : Nat) : Int) - ((1 : Nat) : Int)) (by first | assumption | exact ⟨by omega, by omega⟩) (by first | assumption | exact ⟨by omega, by omega⟩) (by first | assumption | exact ⟨by omega, by omega⟩)) (hP.sub (ws' := []) [] rfl) kc_X10_in kl_X10_65 kn_X10 ks_X10_in nk_X10_in (rm_lt (by decide) (by decide)) hl rfl (Nat.le_of_ble_eq_true rfl) dX10_isWord_12 (fun r_1 hr_2 => ?_)
  subst hr_2
  exact ret dX10_isWord_15 bI_nar (bI_congr (by omega))
set_option maxHeartbeats 4000000 in
set_option maxRecDepth 100000 in
theorem c_X10_isCarrier (l : Launch) (g : GG) (mo0 : Nat) (mA1 : Nat) (mA3 : Nat) (mA4 : Nat) (mA5 : Nat) (mA6 : Nat) (mA7 : Nat) (mA8 : Nat) (mA9 : Nat) (mA10 : Nat) (mA11 : Nat) (mA12 : Nat) (mA15 : Nat) (mA16 : Nat) (mA17 : Nat) (mA20 : Nat) (mL : Nat) (mAt : Nat) (kz : Nat) (dn : Nat) (mAb : Nat) (mBe : Nat) (mCl : Int) (mcs : Nat → Nat) (nc : Nat) (x : Int) (hc0 : mcs 0 = nc) (hnc : nc ≤ 5) (hx : rg x) : ROi g l yX10_isCarrier cX10_isCarrier 2 (some .boolean) 2 [(mo0, .inr (8, [nV mL, .ref mA1, nV mAt, .ref mA3, .ref mA4, .ref mA5, .ref mA6, .ref mA7, .ref mA8, .ref mA9, .ref mA10, .ref mA11, .ref mA12, nV kz, nV dn, .ref mA15, .ref mA16, .ref mA17, mV mAb, mV mBe, .ref mA20, zV mCl])), (mA6, cN g 2 mcs)] [.ref mo0, zV x] (fun r => r = bI (0 ≤ x ∧ x < (nc : Int))) := by
  refine ro_startZ (by decide +kernel) (Nat.le_of_ble_eq_true rfl) ?_
  intro p e s m args below meth c Q ls C hK hP ret hl
  have C : CT p s m args meth c cX10_isCarrier RX10 2 := C
  have hl : lv_has ls 2 [(0, .ref mo0), (1, zV x)] := hl
  refine lv_iload_n C.1 C.2.1 dX10_isCarrier_0 rfl (lv_at hl 1 rfl) ?_
  refine r_i2l C dX10_isCarrier_1 (⟨by omega, by omega⟩) ?_
  refine r_lconst 0 C dX10_isCarrier_2 rfl ?_
  refine lv_aload_n C.1 C.2.1 dX10_isCarrier_3 rfl (lv_at hl 0 rfl) ?_
  refine r_get C hK hP kw_X10 (ci := 8) rfl 0 6 (by decide) kf_X10_23 rfl rfl dX10_isCarrier_4 ?_
  refine r_iconst 0 C dX10_isCarrier_7 rfl ?_
  refine r_aldN C hK hP 1 rfl ⟨by omega, by omega⟩ dX10_isCarrier_8 ?_
  refine r_top (v' := nV nc) (by rw [hc0]) ?_
  refine r_iconst 1 C dX10_isCarrier_9 rfl ?_
  refine r_subZ C dX10_isCarrier_10 ?_
  refine r_i2l C dX10_isCarrier_11 (⟨by omega, by omega⟩) ?_
  refine ro_callS (As := [jV x, mV 0, jV (((nc : Nat) : Int) - ((1 : Nat) : Int))]) (rest := []) C hK (c_X10_in l g x ((0 : Nat) : Int) (((nc : Nat) : Int) - ((1 : Nat) : Int)) (by first | assumption | exact ⟨by omega, by omega⟩) (by first | assumption | exact ⟨by omega, by omega⟩) (by first | assumption | exact ⟨by omega, by omega⟩)) (hP.sub (ws' := []) [] rfl) kc_X10_in kl_X10_65 kn_X10 ks_X10_in nk_X10_in (rm_lt (by decide) (by decide)) hl rfl (Nat.le_of_ble_eq_true rfl) dX10_isCarrier_12 (fun r_1 hr_2 => ?_)
  subst hr_2
  exact ret dX10_isCarrier_15 bI_nar (bI_congr (by omega))
set_option maxHeartbeats 4000000 in
set_option maxRecDepth 100000 in
theorem c_X10_isLoaf (l : Launch) (g : GG) (mo0 : Nat) (mA1 : Nat) (mA3 : Nat) (mA4 : Nat) (mA5 : Nat) (mA6 : Nat) (mA7 : Nat) (mA8 : Nat) (mA9 : Nat) (mA10 : Nat) (mA11 : Nat) (mA12 : Nat) (mA15 : Nat) (mA16 : Nat) (mA17 : Nat) (mA20 : Nat) (mL : Nat) (mAt : Nat) (kz : Nat) (dn : Nat) (mAb : Nat) (mBe : Nat) (mCl : Int) (mlv : Nat → Nat) (ce : Nat → Nat) (x : Int) (hl0 : mlv 0 = ce 40) (h40 : ce 40 ≤ 8) (hx : rg x) : ROi g l yX10_isLoaf cX10_isLoaf 2 (some .boolean) 2 [(mo0, .inr (8, [nV mL, .ref mA1, nV mAt, .ref mA3, .ref mA4, .ref mA5, .ref mA6, .ref mA7, .ref mA8, .ref mA9, .ref mA10, .ref mA11, .ref mA12, nV kz, nV dn, .ref mA15, .ref mA16, .ref mA17, mV mAb, mV mBe, .ref mA20, zV mCl])), (mA10, cN g 3 mlv)] [.ref mo0, zV x] (fun r => r = bI (0 ≤ x ∧ x < ((ce 40 : Nat) : Int))) := by
  refine ro_startZ (by decide +kernel) (Nat.le_of_ble_eq_true rfl) ?_
  intro p e s m args below meth c Q ls C hK hP ret hl
  have C : CT p s m args meth c cX10_isLoaf RX10 2 := C
  have hl : lv_has ls 2 [(0, .ref mo0), (1, zV x)] := hl
  refine lv_iload_n C.1 C.2.1 dX10_isLoaf_0 rfl (lv_at hl 1 rfl) ?_
  refine r_i2l C dX10_isLoaf_1 (⟨by omega, by omega⟩) ?_
  refine r_lconst 0 C dX10_isLoaf_2 rfl ?_
  refine lv_aload_n C.1 C.2.1 dX10_isLoaf_3 rfl (lv_at hl 0 rfl) ?_
  refine r_get C hK hP kw_X10 (ci := 8) rfl 0 10 (by decide) kf_X10_35 rfl rfl dX10_isLoaf_4 ?_
  refine r_iconst 0 C dX10_isLoaf_7 rfl ?_
  refine r_aldN C hK hP 1 rfl ⟨by omega, by omega⟩ dX10_isLoaf_8 ?_
  refine r_top (v' := nV (ce 40)) (by rw [hl0]) ?_
  refine r_iconst 1 C dX10_isLoaf_9 rfl ?_
  refine r_subZ C dX10_isLoaf_10 ?_
  refine r_i2l C dX10_isLoaf_11 (⟨by omega, by omega⟩) ?_
  refine ro_callS (As := [jV x, mV 0, jV (((ce 40 : Nat) : Int) - ((1 : Nat) : Int))]) (rest := []) C hK (c_X10_in l g x ((0 : Nat) : Int) (((ce 40 : Nat) : Int) - ((1 : Nat) : Int)) (by first | assumption | exact ⟨by omega, by omega⟩) (by first | assumption | exact ⟨by omega, by omega⟩) (by first | assumption | exact ⟨by omega, by omega⟩)) (hP.sub (ws' := []) [] rfl) kc_X10_in kl_X10_65 kn_X10 ks_X10_in nk_X10_in (rm_lt (by decide) (by decide)) hl rfl (Nat.le_of_ble_eq_true rfl) dX10_isLoaf_12 (fun r_1 hr_2 => ?_)
  subst hr_2
  exact ret dX10_isLoaf_15 bI_nar (bI_congr (by omega))
set_option maxHeartbeats 4000000 in
set_option maxRecDepth 100000 in
theorem c_X10_isSign (l : Launch) (g : GG) (x : Int) (hx : rg x) : ROi g l yX10_isSign cX10_isSign 1 (some .boolean) 2 [] [zV x] (fun r => r = bI (0 ≤ x ∧ x ≤ 71)) := by
  refine ro_startZ (by decide +kernel) (Nat.le_of_ble_eq_true rfl) ?_
  intro p e s m args below meth c Q ls C hK hP ret hl
  have C : CT p s m args meth c cX10_isSign RX10 1 := C
  have hl : lv_has ls 1 [(0, zV x)] := hl
  refine lv_iload_n C.1 C.2.1 dX10_isSign_0 rfl (lv_at hl 0 rfl) ?_
  refine r_i2l C dX10_isSign_1 (⟨by omega, by omega⟩) ?_
  refine r_lconst 0 C dX10_isSign_2 rfl ?_
  refine r_ldc2N 71 C kv_X10_155 dX10_isSign_3 rfl ?_
  refine ro_callS (As := [jV x, mV 0, mV 71]) (rest := []) C hK (c_X10_in l g x ((0 : Nat) : Int) ((71 : Nat) : Int) (by first | assumption | exact ⟨by omega, by omega⟩) (by first | assumption | exact ⟨by omega, by omega⟩) (by first | assumption | exact ⟨by omega, by omega⟩)) hP kc_X10_in kl_X10_65 kn_X10 ks_X10_in nk_X10_in (rm_lt (by decide) (by decide)) hl rfl (Nat.le_of_ble_eq_true rfl) dX10_isSign_6 (fun r_1 hr_2 => ?_)
  subst hr_2
  exact ret dX10_isSign_9 bI_nar (rfl)
set_option maxHeartbeats 4000000 in
set_option maxRecDepth 100000 in
theorem c_X10_isAge (l : Launch) (g : GG) (x : Int) (hx : rg x) : ROi g l yX10_isAge cX10_isAge 1 (some .boolean) 2 [] [zV x] (fun r => r = bI (0 ≤ x ∧ x ≤ 20)) := by
  refine ro_startZ (by decide +kernel) (Nat.le_of_ble_eq_true rfl) ?_
  intro p e s m args below meth c Q ls C hK hP ret hl
  have C : CT p s m args meth c cX10_isAge RX10 1 := C
  have hl : lv_has ls 1 [(0, zV x)] := hl
  refine lv_iload_n C.1 C.2.1 dX10_isAge_0 rfl (lv_at hl 0 rfl) ?_
  refine r_i2l C dX10_isAge_1 (⟨by omega, by omega⟩) ?_
  refine r_lconst 0 C dX10_isAge_2 rfl ?_
  refine r_ldc2N 20 C kv_X10_157 dX10_isAge_3 rfl ?_
  refine ro_callS (As := [jV x, mV 0, mV 20]) (rest := []) C hK (c_X10_in l g x ((0 : Nat) : Int) ((20 : Nat) : Int) (by first | assumption | exact ⟨by omega, by omega⟩) (by first | assumption | exact ⟨by omega, by omega⟩) (by first | assumption | exact ⟨by omega, by omega⟩)) hP kc_X10_in kl_X10_65 kn_X10 ks_X10_in nk_X10_in (rm_lt (by decide) (by decide)) hl rfl (Nat.le_of_ble_eq_true rfl) dX10_isAge_6 (fun r_1 hr_2 => ?_)
  subst hr_2
  exact ret dX10_isAge_9 bI_nar (rfl)
set_option maxHeartbeats 4000000 in
set_option maxRecDepth 100000 in
theorem c_X10_isSpan (l : Launch) (g : GG) (x : Int) (y : Int) (hx : rg x) (hy : rg y) : ROi g l yX10_isSpan cX10_isSpan 2 (some .boolean) 2 [] [zV x, zV y] (fun r => r = bI ((0 ≤ x ∧ x ≤ 20) ∧ (0 ≤ y ∧ y ≤ 3))) := by
  refine ro_startZ (by decide +kernel) (Nat.le_of_ble_eq_true rfl) ?_
  intro p e s m args below meth c Q ls C hK hP ret hl
  have C : CT p s m args meth c cX10_isSpan RX10 2 := C
  have hl : lv_has ls 2 [(0, zV x), (1, zV y)] := hl
  refine lv_iload_n C.1 C.2.1 dX10_isSpan_0 rfl (lv_at hl 0 rfl) ?_
  refine r_i2l C dX10_isSpan_1 (⟨by omega, by omega⟩) ?_
  refine r_lconst 0 C dX10_isSpan_2 rfl ?_
  refine r_ldc2N 20 C kv_X10_157 dX10_isSpan_3 rfl ?_
  refine ro_callS (As := [jV x, mV 0, mV 20]) (rest := []) C hK (c_X10_in l g x ((0 : Nat) : Int) ((20 : Nat) : Int) (by first | assumption | exact ⟨by omega, by omega⟩) (by first | assumption | exact ⟨by omega, by omega⟩) (by first | assumption | exact ⟨by omega, by omega⟩)) hP kc_X10_in kl_X10_65 kn_X10 ks_X10_in nk_X10_in (rm_lt (by decide) (by decide)) hl rfl (Nat.le_of_ble_eq_true rfl) dX10_isSpan_6 (fun r_1 hr_2 => ?_)
  subst hr_2
  refine r_beq 28 C dX10_isSpan_9 rfl (fun h_3 => ?_) (fun h_3 => ?_)
  · skip
    refine r_iconst 0 C dX10_isSpan_28 rfl ?_
    exact ret dX10_isSpan_29 (by decide) (bI_z (by omega))
  refine lv_iload_n C.1 C.2.1 dX10_isSpan_12 rfl (lv_at hl 1 rfl) ?_
  refine r_i2l C dX10_isSpan_13 (⟨by omega, by omega⟩) ?_
  refine r_lconst 0 C dX10_isSpan_14 rfl ?_
  refine r_ldc2N 3 C kv_X10_131 dX10_isSpan_15 rfl ?_
  refine ro_callS (As := [jV y, mV 0, mV 3]) (rest := []) C hK (c_X10_in l g y ((0 : Nat) : Int) ((3 : Nat) : Int) (by first | assumption | exact ⟨by omega, by omega⟩) (by first | assumption | exact ⟨by omega, by omega⟩) (by first | assumption | exact ⟨by omega, by omega⟩)) hP kc_X10_in kl_X10_65 kn_X10 ks_X10_in nk_X10_in (rm_lt (by decide) (by decide)) hl rfl (Nat.le_of_ble_eq_true rfl) dX10_isSpan_18 (fun r_4 hr_5 => ?_)
  subst hr_5
  refine r_beq 28 C dX10_isSpan_21 rfl (fun h_6 => ?_) (fun h_6 => ?_)
  · skip
    refine r_iconst 0 C dX10_isSpan_28 rfl ?_
    exact ret dX10_isSpan_29 (by decide) (bI_z (by omega))
  refine r_iconst 1 C dX10_isSpan_24 rfl ?_
  refine r_goto 29 C dX10_isSpan_25 rfl ?_
  exact ret dX10_isSpan_29 (by decide) (bI_1 (by omega))
set_option maxHeartbeats 4000000 in
set_option maxRecDepth 100000 in
theorem c_X10_word (l : Launch) (g : GG) (mo0 : Nat) (mA1 : Nat) (mA3 : Nat) (mA4 : Nat) (mA5 : Nat) (mA6 : Nat) (mA7 : Nat) (mA8 : Nat) (mA9 : Nat) (mA10 : Nat) (mA11 : Nat) (mA12 : Nat) (mA15 : Nat) (mA16 : Nat) (mA17 : Nat) (mA20 : Nat) (mL : Nat) (mAt : Nat) (kz : Nat) (dn : Nat) (mAb : Nat) (mBe : Nat) (mCl : Int) (mws : Nat → Nat) (mwd : Nat → Nat) (sg : Nat → Nat) (k : Nat) (wo : Nat → Nat) (x : Int) (y : Int) (hk0 : mws 0 = k) (hk : k ≤ 8) (hsg : ∀ j, sg j < 72) (hwd : ∀ j, j < k → mwd (2 * j) = sg j) (hwv : ∀ j, j < k → mwd (2 * j + 1) = wo j) (hx : rg x) (hy : rg y) : ROi g l yX10_word cX10_word 3 (some .int) 4 [(mo0, .inr (8, [nV mL, .ref mA1, nV mAt, .ref mA3, .ref mA4, .ref mA5, .ref mA6, .ref mA7, .ref mA8, .ref mA9, .ref mA10, .ref mA11, .ref mA12, nV kz, nV dn, .ref mA15, .ref mA16, .ref mA17, mV mAb, mV mBe, .ref mA20, zV mCl])), (mA4, cN g 2 mws), (mA5, cN g 32 mwd)] [.ref mo0, zV x, zV y] (fun r => r = iI (sWord sg wo k x y)) := by
  refine ro_startI (by decide +kernel) (Nat.le_of_ble_eq_true rfl) ?_
  intro p e s m args below meth c Q ls C hK hP ret hl
  have C : CT p s m args meth c cX10_word RX10 3 := C
  have hl : lv_has ls 3 [(0, .ref mo0), (1, zV x), (2, zV y)] := hl
  refine lv_aload_n C.1 C.2.1 dX10_word_0 rfl (lv_at hl 0 rfl) ?_
  refine lv_iload_n C.1 C.2.1 dX10_word_1 rfl (lv_at hl 1 rfl) ?_
  refine ro_callV (As := [zV x]) (rest := []) C hK (c_X10_isWord l g mo0 mA1 mA3 mA4 mA5 mA6 mA7 mA8 mA9 mA10 mA11 mA12 mA15 mA16 mA17 mA20 mL mAt kz dn mAb mBe mCl mws k x (by first | assumption | omega) (by first | assumption | omega) (by first | assumption | exact ⟨by omega, by omega⟩)) (hP.sub (ws' := [(mo0, .inr (8, [nV mL, .ref mA1, nV mAt, .ref mA3, .ref mA4, .ref mA5, .ref mA6, .ref mA7, .ref mA8, .ref mA9, .ref mA10, .ref mA11, .ref mA12, nV kz, nV dn, .ref mA15, .ref mA16, .ref mA17, mV mAb, mV mBe, .ref mA20, zV mCl])), (mA4, cN g 2 mws)]) [0, 1] rfl) (ci := 8) (q0 := 0) rfl rfl kc_X10_isWord kl_X10_111 kn_X10 ki_X10_isWord ke_X10_isWord nk_X10_isWord (rm_lt (by decide) (by decide)) hl rfl (Nat.le_of_ble_eq_true rfl) dX10_word_2 (fun r_1 hr_2 => ?_)
  subst hr_2
  refine r_beq 20 C dX10_word_5 rfl (fun h_3 => ?_) (fun h_3 => ?_)
  · skip
    refine r_iconstZ C dX10_word_20 ?_
    refine r_goto 53 C dX10_word_21 rfl ?_
    exact ret dX10_word_53 (by unfold sWord; rw [if_neg (by omega)])
  refine lv_iload_n C.1 C.2.1 dX10_word_8 rfl (lv_at hl 2 rfl) ?_
  refine r_i2l C dX10_word_9 (⟨by omega, by omega⟩) ?_
  refine r_lconst 0 C dX10_word_10 rfl ?_
  refine r_ldc2N 2 C kv_X10_80 dX10_word_11 rfl ?_
  refine ro_callS (As := [jV y, mV 0, mV 2]) (rest := []) C hK (c_X10_in l g y ((0 : Nat) : Int) ((2 : Nat) : Int) (by first | assumption | exact ⟨by omega, by omega⟩) (by first | assumption | exact ⟨by omega, by omega⟩) (by first | assumption | exact ⟨by omega, by omega⟩)) (hP.sub (ws' := []) [] rfl) kc_X10_in kl_X10_65 kn_X10 ks_X10_in nk_X10_in (rm_lt (by decide) (by decide)) hl rfl (Nat.le_of_ble_eq_true rfl) dX10_word_14 (fun r_4 hr_5 => ?_)
  subst hr_5
  refine r_bne 24 C dX10_word_17 rfl (fun h_6 => ?_) (fun h_6 => ?_)
  · skip
    obtain ⟨xn, rfl⟩ : ∃ n : Nat, x = (n : Int) := ⟨x.toNat, by omega⟩
    obtain ⟨yn, rfl⟩ : ∃ n : Nat, y = (n : Int) := ⟨y.toNat, by omega⟩
    have hl : lv_has ls 3 [(0, .ref mo0), (1, nV xn), (2, nV yn)] := hl
    refine lv_iload_n C.1 C.2.1 dX10_word_24 rfl (lv_at hl 2 rfl) ?_
    refine r_iconst 2 C dX10_word_25 rfl ?_
    refine r_cge 42 C dX10_word_26 rfl ⟨rgN (by omega), rgN (by decide)⟩ (fun h_7 => ?_) (fun h_7 => ?_)
    · skip
      refine lv_aload_n C.1 C.2.1 dX10_word_42 rfl (lv_at hl 0 rfl) ?_
      refine r_get C hK hP kw_X10 (ci := 8) rfl 0 5 (by decide) kf_X10_20 rfl rfl dX10_word_43 ?_
      refine r_iconst 2 C dX10_word_46 rfl ?_
      refine lv_iload_n C.1 C.2.1 dX10_word_47 rfl (lv_at hl 1 rfl) ?_
      refine r_mulN C dX10_word_48 ?_
      refine r_aldN C hK hP 2 rfl ⟨by omega, by omega⟩ dX10_word_49 ?_
      refine r_top (v' := nV (sg xn)) (by rw [hwd xn (by omega)]) ?_
      have hf_8 := hsg xn
      refine ro_callS (As := [nV (sg xn)]) (rest := []) C hK (c_X10_flourOf l g (sg xn) (by first | assumption | omega)) (hP.sub (ws' := []) [] rfl) kc_X10_flourOf kl_X10_114 kn_X10 ks_X10_flourOf nk_X10_flourOf (rm_lt (by decide) (by decide)) hl rfl (Nat.le_of_ble_eq_true rfl) dX10_word_50 (fun r_9 hr_10 => ?_)
      subst hr_10
      exact ret dX10_word_53 (by unfold sWord; rw [if_pos (by omega), if_neg (by omega), if_neg (by omega)]; rfl)
    refine lv_aload_n C.1 C.2.1 dX10_word_29 rfl (lv_at hl 0 rfl) ?_
    refine r_get C hK hP kw_X10 (ci := 8) rfl 0 5 (by decide) kf_X10_20 rfl rfl dX10_word_30 ?_
    refine r_iconst 2 C dX10_word_33 rfl ?_
    refine lv_iload_n C.1 C.2.1 dX10_word_34 rfl (lv_at hl 1 rfl) ?_
    refine r_mulN C dX10_word_35 ?_
    refine lv_iload_n C.1 C.2.1 dX10_word_36 rfl (lv_at hl 2 rfl) ?_
    refine r_addN C dX10_word_37 ?_
    refine r_aldN C hK hP 2 rfl ⟨by omega, by omega⟩ dX10_word_38 ?_
    have hy01 : yn = 0 ∨ yn = 1 := by omega
    refine r_top (v' := zV (sWord sg wo k ((xn : Nat) : Int) ((yn : Nat) : Int))) (congrArg Value.int (by unfold sWord; rw [if_pos (by omega)]; rcases hy01 with q | q; (subst q; rw [if_pos (show ((0 : Nat) : Int) = 0 from rfl)]; exact congrArg (fun q : Nat => iI (q : Int)) (hwd xn (by omega))); (subst q; rw [if_neg (show ¬ ((1 : Nat) : Int) = 0 by decide), if_pos (show ((1 : Nat) : Int) = 1 from rfl)]; exact congrArg (fun q : Nat => iI (q : Int)) (hwv xn (by omega))))) ?_
    refine r_goto 53 C dX10_word_39 rfl ?_
    exact ret dX10_word_53 (rfl)
  refine r_iconstZ C dX10_word_20 ?_
  refine r_goto 53 C dX10_word_21 rfl ?_
  exact ret dX10_word_53 (by unfold sWord; rw [if_neg (by omega)])
set_option maxHeartbeats 4000000 in
set_option maxRecDepth 100000 in
theorem c_X10_aged (l : Launch) (g : GG) (mo0 : Nat) (mA1 : Nat) (mA3 : Nat) (mA4 : Nat) (mA5 : Nat) (mA6 : Nat) (mA7 : Nat) (mA8 : Nat) (mA9 : Nat) (mA10 : Nat) (mA11 : Nat) (mA12 : Nat) (mA15 : Nat) (mA16 : Nat) (mA17 : Nat) (mA20 : Nat) (mL : Nat) (mAt : Nat) (kz : Nat) (dn : Nat) (mAb : Nat) (mBe : Nat) (mCl : Int) (mtd : Nat → Nat) (bi : Nat) (mo : Nat) (x : Nat) (y : Nat) (hb0 : mtd 0 = bi) (hb1 : mtd 1 = mo) (hbm : (1 ≤ bi ∧ bi ≤ 9) ∧ (1 ≤ mo ∧ mo ≤ 9)) (hx : x < 72) (hy : y < 1073741824) : ROi g l yX10_aged cX10_aged 5 (some .int) 1 [(mo0, .inr (8, [nV mL, .ref mA1, nV mAt, .ref mA3, .ref mA4, .ref mA5, .ref mA6, .ref mA7, .ref mA8, .ref mA9, .ref mA10, .ref mA11, .ref mA12, nV kz, nV dn, .ref mA15, .ref mA16, .ref mA17, mV mAb, mV mBe, .ref mA20, zV mCl])), (mA3, cN g 4 mtd)] [.ref mo0, nV x, nV y] (fun r => r = iI ((ag bi mo x y : Nat) : Int)) := by
  refine ro_startI (by decide +kernel) (Nat.le_of_ble_eq_true rfl) ?_
  intro p e s m args below meth c Q ls C hK hP ret hl
  have C : CT p s m args meth c cX10_aged RX10 5 := C
  have hl : lv_has ls 5 [(0, .ref mo0), (1, nV x), (2, nV y)] := hl
  refine lv_iload_n C.1 C.2.1 dX10_aged_0 rfl (lv_at hl 1 rfl) ?_
  refine r_bipush 6 C dX10_aged_1 (by decide) ?_
  refine r_remN C dX10_aged_3 (by omega) (by decide) ?_
  refine lv_iload_n C.1 C.2.1 dX10_aged_4 rfl (lv_at hl 2 rfl) ?_
  refine lv_aload_n C.1 C.2.1 dX10_aged_5 rfl (lv_at hl 0 rfl) ?_
  refine r_get C hK hP kw_X10 (ci := 8) rfl 0 3 (by decide) kf_X10_13 rfl rfl dX10_aged_6 ?_
  refine r_iconst 0 C dX10_aged_9 rfl ?_
  refine r_aldN C hK hP 1 rfl ⟨by omega, by omega⟩ dX10_aged_10 ?_
  refine r_top (v' := nV bi) (by rw [hb0]) ?_
  refine r_divN C dX10_aged_11 (by omega) (by omega) ?_
  have hq_1 := Nat.div_le_self y bi
  refine r_nameN (fun q1 hq1 => ?_)
  refine r_subZ C dX10_aged_12 ?_
  refine lv_istore_n (lv' := [(3, zV (((x % 6 : Nat) : Int) - ((q1 : Nat) : Int))), (0, .ref mo0), (1, nV x), (2, nV y)]) C.1 C.2.1 dX10_aged_13 rfl hl (by decide) rfl (fun ls hl => ?_)
  refine lv_iload_n C.1 C.2.1 dX10_aged_14 rfl (lv_at hl 2 rfl) ?_
  refine r_bipush 6 C dX10_aged_15 (by decide) ?_
  refine r_divN C dX10_aged_17 (by omega) (by decide) ?_
  refine r_iconst 4 C dX10_aged_18 rfl ?_
  refine r_remN C dX10_aged_19 (by omega) (by decide) ?_
  refine lv_iload_n C.1 C.2.1 dX10_aged_20 rfl (lv_at hl 3 rfl) ?_
  refine lv_aload_n C.1 C.2.1 dX10_aged_21 rfl (lv_at hl 1 rfl) ?_
  refine r_get C hK hP kw_X10 (ci := 8) rfl 0 3 (by decide) kf_X10_13 rfl rfl dX10_aged_22 ?_
  refine r_iconst 1 C dX10_aged_25 rfl ?_
  refine r_aldN C hK hP 1 rfl ⟨by omega, by omega⟩ dX10_aged_26 ?_
  refine r_top (v' := nV mo) (by rw [hb1]) ?_
  refine r_divN C dX10_aged_27 (by omega) (by omega) ?_
  have hq_2 := Nat.div_le_self y mo
  refine r_nameN (fun q2 hq2 => ?_)
  refine r_addN C dX10_aged_28 ?_
  refine lv_istore (lv' := [(4, nV (((x / 6) % 4) + q2)), (3, zV (((x % 6 : Nat) : Int) - ((q1 : Nat) : Int))), (0, .ref mo0), (1, nV x), (2, nV y)]) C.1 C.2.1 dX10_aged_29 hl (by decide) rfl (fun ls hl => ?_)
  refine lv_iload_n C.1 C.2.1 dX10_aged_31 rfl (lv_at hl 1 rfl) ?_
  refine r_ige 39 C dX10_aged_32 rfl (⟨by omega, by omega⟩) (fun h_3 => ?_) (fun h_3 => ?_)
  · skip
    refine lv_iload_n C.1 C.2.1 dX10_aged_39 rfl (lv_at hl 1 rfl) ?_
    refine r_topN (x % 6 - q1) (by omega) ?_
    refine r_bipush 6 C dX10_aged_40 (by decide) ?_
    refine lv_iload C.1 C.2.1 dX10_aged_42 (lv_at hl 0 rfl) ?_
    refine r_iconst 3 C dX10_aged_44 rfl ?_
    refine r_cle 52 C dX10_aged_45 rfl ⟨rgN (by omega), rgN (by decide)⟩ (fun h_4 => ?_) (fun h_4 => ?_)
    · skip
      refine lv_iload C.1 C.2.1 dX10_aged_52 (lv_at hl 0 rfl) ?_
      refine r_topN (min (x / 6 % 4 + q2) 3) (by omega) ?_
      refine r_mulN C dX10_aged_54 ?_
      refine r_addN C dX10_aged_55 ?_
      refine r_bipush 24 C dX10_aged_56 (by decide) ?_
      refine lv_iload_n C.1 C.2.1 dX10_aged_58 rfl (lv_at hl 3 rfl) ?_
      refine r_bipush 24 C dX10_aged_59 (by decide) ?_
      refine r_divN C dX10_aged_61 (by omega) (by decide) ?_
      refine r_mulN C dX10_aged_62 ?_
      refine r_addN C dX10_aged_63 ?_
      exact ret dX10_aged_64 (by subst hq1 hq2; rfl)
    refine r_iconst 3 C dX10_aged_48 rfl ?_
    refine r_goto 54 C dX10_aged_49 rfl ?_
    refine r_topN (min (x / 6 % 4 + q2) 3) (by omega) ?_
    refine r_mulN C dX10_aged_54 ?_
    refine r_addN C dX10_aged_55 ?_
    refine r_bipush 24 C dX10_aged_56 (by decide) ?_
    refine lv_iload_n C.1 C.2.1 dX10_aged_58 rfl (lv_at hl 3 rfl) ?_
    refine r_bipush 24 C dX10_aged_59 (by decide) ?_
    refine r_divN C dX10_aged_61 (by omega) (by decide) ?_
    refine r_mulN C dX10_aged_62 ?_
    refine r_addN C dX10_aged_63 ?_
    exact ret dX10_aged_64 (by subst hq1 hq2; rfl)
  refine r_iconst 0 C dX10_aged_35 rfl ?_
  refine r_goto 40 C dX10_aged_36 rfl ?_
  refine r_topN (x % 6 - q1) (by omega) ?_
  refine r_bipush 6 C dX10_aged_40 (by decide) ?_
  refine lv_iload C.1 C.2.1 dX10_aged_42 (lv_at hl 0 rfl) ?_
  refine r_iconst 3 C dX10_aged_44 rfl ?_
  refine r_cle 52 C dX10_aged_45 rfl ⟨rgN (by omega), rgN (by decide)⟩ (fun h_5 => ?_) (fun h_5 => ?_)
  · skip
    refine lv_iload C.1 C.2.1 dX10_aged_52 (lv_at hl 0 rfl) ?_
    refine r_topN (min (x / 6 % 4 + q2) 3) (by omega) ?_
    refine r_mulN C dX10_aged_54 ?_
    refine r_addN C dX10_aged_55 ?_
    refine r_bipush 24 C dX10_aged_56 (by decide) ?_
    refine lv_iload_n C.1 C.2.1 dX10_aged_58 rfl (lv_at hl 3 rfl) ?_
    refine r_bipush 24 C dX10_aged_59 (by decide) ?_
    refine r_divN C dX10_aged_61 (by omega) (by decide) ?_
    refine r_mulN C dX10_aged_62 ?_
    refine r_addN C dX10_aged_63 ?_
    exact ret dX10_aged_64 (by subst hq1 hq2; rfl)
  refine r_iconst 3 C dX10_aged_48 rfl ?_
  refine r_goto 54 C dX10_aged_49 rfl ?_
  refine r_topN (min (x / 6 % 4 + q2) 3) (by omega) ?_
  refine r_mulN C dX10_aged_54 ?_
  refine r_addN C dX10_aged_55 ?_
  refine r_bipush 24 C dX10_aged_56 (by decide) ?_
  refine lv_iload_n C.1 C.2.1 dX10_aged_58 rfl (lv_at hl 3 rfl) ?_
  refine r_bipush 24 C dX10_aged_59 (by decide) ?_
  refine r_divN C dX10_aged_61 (by omega) (by decide) ?_
  refine r_mulN C dX10_aged_62 ?_
  refine r_addN C dX10_aged_63 ?_
  exact ret dX10_aged_64 (by subst hq1 hq2; rfl)
set_option maxHeartbeats 4000000 in
set_option maxRecDepth 100000 in
theorem c_X10_bitten (l : Launch) (g : GG) (x : Nat) (y : Nat) (hx : x < 72) (hy : y < 1073741824) : ROi g l yX10_bitten cX10_bitten 4 (some .int) 1 [] [nV x, nV y] (fun r => r = iI ((bts x y : Nat) : Int)) := by
  refine ro_startI (by decide +kernel) (Nat.le_of_ble_eq_true rfl) ?_
  intro p e s m args below meth c Q ls C hK hP ret hl
  have C : CT p s m args meth c cX10_bitten RX10 4 := C
  have hl : lv_has ls 4 [(0, nV x), (1, nV y)] := hl
  refine lv_iload_n C.1 C.2.1 dX10_bitten_0 rfl (lv_at hl 0 rfl) ?_
  refine lv_istore_n (lv' := [(2, nV x), (0, nV x), (1, nV y)]) C.1 C.2.1 dX10_bitten_1 rfl hl (by decide) rfl (fun ls hl => ?_)
  refine r_iconst 0 C dX10_bitten_2 rfl ?_
  refine lv_istore_n (lv' := [(3, nV 0), (2, nV x), (0, nV x), (1, nV y)]) C.1 C.2.1 dX10_bitten_3 rfl hl (by decide) rfl (fun ls hl => ?_)
  have L4 : ∀ (n_4 : Nat) (i : Nat) (t : Nat) (ls : Array Slot) (hi : i ≤ y) (ht : t = bts x i) (htb : t < 72) (hm : y - i < n_4) (hl : lv_has ls 4 [(3, nV i), (2, nV t), (0, nV x), (1, nV y)]), W p l e (rD 1) s m args below meth c s.heap [] 0 0 Q (F0 m 4 ls []) := by
    intro n_4
    induction n_4 with
    | zero => intro i t ls hi ht htb hm hl; exact absurd hm (Nat.not_lt_zero _)
    | succ n_4 ih_4 =>
      intro i t ls hi ht htb hm hl
      refine lv_iload_n C.1 C.2.1 dX10_bitten_4 rfl (lv_at hl 0 rfl) ?_
      refine lv_iload_n C.1 C.2.1 dX10_bitten_5 rfl (lv_at hl 3 rfl) ?_
      refine r_cge 46 C dX10_bitten_6 rfl ⟨rgN (by omega), rgN (by omega)⟩ (fun h_1 => ?_) (fun h_1 => ?_)
      · skip
        refine lv_iload_n C.1 C.2.1 dX10_bitten_46 rfl (lv_at hl 1 rfl) ?_
        exact ret dX10_bitten_47 (iI_cast (by rw [ht, show i = y by omega]))
      refine lv_iload_n C.1 C.2.1 dX10_bitten_9 rfl (lv_at hl 1 rfl) ?_
      refine r_bipush 24 C dX10_bitten_10 (by decide) ?_
      refine r_clt 22 C dX10_bitten_12 rfl ⟨rgN (by omega), rgN (by decide)⟩ (fun h_2 => ?_) (fun h_2 => ?_)
      · skip
        refine lv_iload_n C.1 C.2.1 dX10_bitten_22 rfl (lv_at hl 1 rfl) ?_
        refine r_bipush 6 C dX10_bitten_23 (by decide) ?_
        refine r_remN C dX10_bitten_25 (by omega) (by decide) ?_
        refine r_ile 38 C dX10_bitten_26 rfl (rgN (by omega)) (fun h_3 => ?_) (fun h_3 => ?_)
        · skip
          refine r_iconst 0 C dX10_bitten_38 rfl ?_
          refine r_topN (bt t) (by unfold bt; split <;> (try split) <;> omega) ?_
          refine lv_istore_n (lv' := [(2, nV (bt t)), (3, nV i), (0, nV x), (1, nV y)]) C.1 C.2.1 dX10_bitten_39 rfl hl (by decide) rfl (fun ls hl => ?_)
          refine r_incN (k := 1) (n := 1) [(3, nV (i + 1)), (2, nV (bt t)), (0, nV x), (1, nV y)] C dX10_bitten_40 hl rfl rfl (by decide) rfl (fun ls hl => ?_)
          refine r_goto 4 C dX10_bitten_43 rfl ?_
          exact ih_4 (i + 1) (bt t) _ (by first | assumption | omega) (by rw [ht]; rfl) (bt_bd t htb) (by omega) (lv_sub hl [0, 1, 2, 3] rfl)
        refine lv_iload_n C.1 C.2.1 dX10_bitten_29 rfl (lv_at hl 1 rfl) ?_
        refine lv_iload_n C.1 C.2.1 dX10_bitten_30 rfl (lv_at hl 1 rfl) ?_
        refine r_bipush 6 C dX10_bitten_31 (by decide) ?_
        refine r_remN C dX10_bitten_33 (by omega) (by decide) ?_
        refine r_subN C dX10_bitten_34 (by omega) ?_
        refine r_goto 39 C dX10_bitten_35 rfl ?_
        refine r_topN (bt t) (by unfold bt; split <;> (try split) <;> omega) ?_
        refine lv_istore_n (lv' := [(2, nV (bt t)), (3, nV i), (0, nV x), (1, nV y)]) C.1 C.2.1 dX10_bitten_39 rfl hl (by decide) rfl (fun ls hl => ?_)
        refine r_incN (k := 1) (n := 1) [(3, nV (i + 1)), (2, nV (bt t)), (0, nV x), (1, nV y)] C dX10_bitten_40 hl rfl rfl (by decide) rfl (fun ls hl => ?_)
        refine r_goto 4 C dX10_bitten_43 rfl ?_
        exact ih_4 (i + 1) (bt t) _ (by first | assumption | omega) (by rw [ht]; rfl) (bt_bd t htb) (by omega) (lv_sub hl [0, 1, 2, 3] rfl)
      refine lv_iload_n C.1 C.2.1 dX10_bitten_15 rfl (lv_at hl 1 rfl) ?_
      refine r_bipush 24 C dX10_bitten_16 (by decide) ?_
      refine r_remN C dX10_bitten_18 (by omega) (by decide) ?_
      refine r_goto 39 C dX10_bitten_19 rfl ?_
      refine r_topN (bt t) (by unfold bt; split <;> (try split) <;> omega) ?_
      refine lv_istore_n (lv' := [(2, nV (bt t)), (3, nV i), (0, nV x), (1, nV y)]) C.1 C.2.1 dX10_bitten_39 rfl hl (by decide) rfl (fun ls hl => ?_)
      refine r_incN (k := 1) (n := 1) [(3, nV (i + 1)), (2, nV (bt t)), (0, nV x), (1, nV y)] C dX10_bitten_40 hl rfl rfl (by decide) rfl (fun ls hl => ?_)
      refine r_goto 4 C dX10_bitten_43 rfl ?_
      exact ih_4 (i + 1) (bt t) _ (by first | assumption | omega) (by rw [ht]; rfl) (bt_bd t htb) (by omega) (lv_sub hl [0, 1, 2, 3] rfl)
  exact L4 (y - 0 + 1) 0 x _ (by first | assumption | omega) (rfl) (by first | assumption | omega) (Nat.lt_succ_self _) (lv_sub hl [0, 1, 2, 3] rfl)
set_option maxHeartbeats 4000000 in
set_option maxRecDepth 100000 in
theorem c_X10_become (l : Launch) (g : GG) (mo0 : Nat) (mA1 : Nat) (mA3 : Nat) (mA4 : Nat) (mA5 : Nat) (mA6 : Nat) (mA7 : Nat) (mA8 : Nat) (mA9 : Nat) (mA10 : Nat) (mA11 : Nat) (mA12 : Nat) (mA15 : Nat) (mA16 : Nat) (mA17 : Nat) (mA20 : Nat) (mL : Nat) (mAt : Nat) (kz : Nat) (dn : Nat) (mAb : Nat) (mBe : Nat) (mCl : Int) (mtd : Nat → Nat) (bi : Nat) (mo : Nat) (x : Nat) (y : Nat) (w : Nat) (hb0 : mtd 0 = bi) (hb1 : mtd 1 = mo) (hbm : (1 ≤ bi ∧ bi ≤ 9) ∧ (1 ≤ mo ∧ mo ≤ 9)) (hx : x < 72) (hy : y < 1073741824) (hw : w < 1073741824) : ROi g l yX10_become cX10_become 4 (some .int) 2 [(mo0, .inr (8, [nV mL, .ref mA1, nV mAt, .ref mA3, .ref mA4, .ref mA5, .ref mA6, .ref mA7, .ref mA8, .ref mA9, .ref mA10, .ref mA11, .ref mA12, nV kz, nV dn, .ref mA15, .ref mA16, .ref mA17, mV mAb, mV mBe, .ref mA20, zV mCl])), (mA3, cN g 4 mtd)] [.ref mo0, nV x, nV y, nV w] (fun r => r = iI ((tn bi mo x y w : Nat) : Int)) := by
  refine ro_startI (by decide +kernel) (Nat.le_of_ble_eq_true rfl) ?_
  intro p e s m args below meth c Q ls C hK hP ret hl
  have C : CT p s m args meth c cX10_become RX10 4 := C
  have hl : lv_has ls 4 [(0, .ref mo0), (1, nV x), (2, nV y), (3, nV w)] := hl
  refine lv_aload_n C.1 C.2.1 dX10_become_0 rfl (lv_at hl 0 rfl) ?_
  refine lv_iload_n C.1 C.2.1 dX10_become_1 rfl (lv_at hl 1 rfl) ?_
  refine lv_iload_n C.1 C.2.1 dX10_become_2 rfl (lv_at hl 2 rfl) ?_
  refine ro_callV (As := [nV x, nV y]) (rest := []) C hK (c_X10_aged l g mo0 mA1 mA3 mA4 mA5 mA6 mA7 mA8 mA9 mA10 mA11 mA12 mA15 mA16 mA17 mA20 mL mAt kz dn mAb mBe mCl mtd bi mo x y (by first | assumption | omega) (by first | assumption | omega) (by first | assumption | omega) (by first | assumption | omega) (by first | assumption | omega)) hP (ci := 8) (q0 := 0) rfl rfl kc_X10_aged kl_X10_117 kn_X10 ki_X10_aged ke_X10_aged nk_X10_aged (rm_lt (by decide) (by decide)) hl rfl (Nat.le_of_ble_eq_true rfl) dX10_become_3 (fun r_1 hr_2 => ?_)
  subst hr_2
  have hf_3 := ag_bd (bi) (mo) (x) (y) (by omega)
  refine lv_iload_n C.1 C.2.1 dX10_become_6 rfl (lv_at hl 3 rfl) ?_
  refine ro_callS (As := [nV (ag bi mo x y), nV w]) (rest := []) C hK (c_X10_bitten l g (ag bi mo x y) w (by first | assumption | omega) (by first | assumption | omega)) (hP.sub (ws' := []) [] rfl) kc_X10_bitten kl_X10_121 kn_X10 ks_X10_bitten nk_X10_bitten (rm_lt (by decide) (by decide)) hl rfl (Nat.le_of_ble_eq_true rfl) dX10_become_7 (fun r_4 hr_5 => ?_)
  subst hr_5
  have hf_6 := bts_bd ((ag bi mo x y)) (by omega) (w)
  exact ret dX10_become_10 (rfl)
set_option maxHeartbeats 4000000 in
set_option maxRecDepth 100000 in
theorem c_X10_read (l : Launch) (g : GG) (mo0 : Nat) (mA1 : Nat) (mA3 : Nat) (mA4 : Nat) (mA5 : Nat) (mA6 : Nat) (mA7 : Nat) (mA8 : Nat) (mA9 : Nat) (mA10 : Nat) (mA11 : Nat) (mA12 : Nat) (mA15 : Nat) (mA16 : Nat) (mA17 : Nat) (mA20 : Nat) (mL : Nat) (mAt : Nat) (kz : Nat) (dn : Nat) (mAb : Nat) (mBe : Nat) (mCl : Int) (mws : Nat → Nat) (mwd : Nat → Nat) (sg : Nat → Nat) (k : Nat) (x : Nat) (hk0 : mws 0 = k) (hk : k ≤ 8) (hsg : ∀ j, sg j < 72) (hwd : ∀ j, j < k → mwd (2 * j) = sg j) (hx : x < 2147483648) : ROi g l yX10_read cX10_read 3 (some .int) 1 [(mo0, .inr (8, [nV mL, .ref mA1, nV mAt, .ref mA3, .ref mA4, .ref mA5, .ref mA6, .ref mA7, .ref mA8, .ref mA9, .ref mA10, .ref mA11, .ref mA12, nV kz, nV dn, .ref mA15, .ref mA16, .ref mA17, mV mAb, mV mBe, .ref mA20, zV mCl])), (mA4, cN g 2 mws), (mA5, cN g 32 mwd)] [.ref mo0, nV x] (fun r => r = iI (rd sg k x)) := by
  refine ro_startI (by decide +kernel) (Nat.le_of_ble_eq_true rfl) ?_
  intro p e s m args below meth c Q ls C hK hP ret hl
  have C : CT p s m args meth c cX10_read RX10 3 := C
  have hl : lv_has ls 3 [(0, .ref mo0), (1, nV x)] := hl
  refine r_iconst 0 C dX10_read_0 rfl ?_
  refine lv_istore_n (lv' := [(2, nV 0), (0, .ref mo0), (1, nV x)]) C.1 C.2.1 dX10_read_1 rfl hl (by decide) rfl (fun ls hl => ?_)
  have L2 : ∀ (n_2 : Nat) (i : Nat) (ls : Array Slot) (hi : i ≤ k) (hno : ∀ j, j < i → sg j ≠ x) (hm : k - i < n_2) (hl : lv_has ls 3 [(2, nV i), (0, .ref mo0), (1, nV x)]), W p l e (rD 1) s m args below meth c s.heap [] 0 0 Q (F0 m 2 ls []) := by
    intro n_2
    induction n_2 with
    | zero => intro i ls hi hno hm hl; exact absurd hm (Nat.not_lt_zero _)
    | succ n_2 ih_2 =>
      intro i ls hi hno hm hl
      refine lv_iload_n C.1 C.2.1 dX10_read_2 rfl (lv_at hl 0 rfl) ?_
      refine lv_aload_n C.1 C.2.1 dX10_read_3 rfl (lv_at hl 1 rfl) ?_
      refine r_get C hK hP kw_X10 (ci := 8) rfl 0 4 (by decide) kf_X10_17 rfl rfl dX10_read_4 ?_
      refine r_iconst 0 C dX10_read_7 rfl ?_
      refine r_aldN C hK hP 1 rfl ⟨by omega, by omega⟩ dX10_read_8 ?_
      refine r_top (v' := nV k) (by rw [hk0]) ?_
      refine r_cge 32 C dX10_read_9 rfl ⟨rgN (by omega), rgN (by omega)⟩ (fun h_1 => ?_) (fun h_1 => ?_)
      · skip
        refine r_bipushZ C dX10_read_32 (by decide) ?_
        exact ret dX10_read_34 (iI_cast (rd_no (fun j hj => hno j (by omega))).symm)
      refine lv_aload_n C.1 C.2.1 dX10_read_12 rfl (lv_at hl 1 rfl) ?_
      refine r_get C hK hP kw_X10 (ci := 8) rfl 0 5 (by decide) kf_X10_20 rfl rfl dX10_read_13 ?_
      refine r_iconst 2 C dX10_read_16 rfl ?_
      refine lv_iload_n C.1 C.2.1 dX10_read_17 rfl (lv_at hl 0 rfl) ?_
      refine r_mulN C dX10_read_18 ?_
      refine r_aldN C hK hP 2 rfl ⟨by omega, by omega⟩ dX10_read_19 ?_
      refine r_top (v' := nV (sg i)) (by rw [hwd i (by omega)]) ?_
      have hf_2 := hsg i
      refine lv_iload_n C.1 C.2.1 dX10_read_20 rfl (lv_at hl 2 rfl) ?_
      refine r_cne 26 C dX10_read_21 rfl ⟨rgN (by omega), rgN (by omega)⟩ (fun h_3 => ?_) (fun h_3 => ?_)
      · skip
        refine r_incN (k := 0) (n := 1) [(2, nV (i + 1)), (0, .ref mo0), (1, nV x)] C dX10_read_26 hl rfl rfl (by decide) rfl (fun ls hl => ?_)
        refine r_goto 2 C dX10_read_29 rfl ?_
        exact ih_2 (i + 1) _ (by first | assumption | omega) (fun j hj => by by_cases q : j = i; (subst q; omega); exact hno j (by omega)) (by omega) (lv_sub hl [0, 1, 2] rfl)
      refine lv_iload_n C.1 C.2.1 dX10_read_24 rfl (lv_at hl 0 rfl) ?_
      exact ret dX10_read_25 (iI_cast (rd_of (by omega) (by omega) hno).symm)
  exact L2 (k - 0 + 1) 0 _ (by first | assumption | omega) (fun j hj => by omega) (Nat.lt_succ_self _) (lv_sub hl [0, 1, 2] rfl)
set_option maxHeartbeats 4000000 in
set_option maxRecDepth 100000 in
theorem c_X10_baked (l : Launch) (g : GG) (mo0 : Nat) (mA1 : Nat) (mA3 : Nat) (mA4 : Nat) (mA5 : Nat) (mA6 : Nat) (mA7 : Nat) (mA8 : Nat) (mA9 : Nat) (mA10 : Nat) (mA11 : Nat) (mA12 : Nat) (mA15 : Nat) (mA16 : Nat) (mA17 : Nat) (mA20 : Nat) (mL : Nat) (mAt : Nat) (kz : Nat) (dn : Nat) (mAb : Nat) (mBe : Nat) (mCl : Int) (mws : Nat → Nat) (mwd : Nat → Nat) (sg : Nat → Nat) (k : Nat) (x : Nat) (y : Nat) (hk0 : mws 0 = k) (hk : k ≤ 8) (hsg : ∀ j, sg j < 72) (hwd : ∀ j, j < k → mwd (2 * j) = sg j) (hx : x < k) (hy : y < 4) : ROi g l yX10_baked cX10_baked 3 (some .int) 1 [(mo0, .inr (8, [nV mL, .ref mA1, nV mAt, .ref mA3, .ref mA4, .ref mA5, .ref mA6, .ref mA7, .ref mA8, .ref mA9, .ref mA10, .ref mA11, .ref mA12, nV kz, nV dn, .ref mA15, .ref mA16, .ref mA17, mV mAb, mV mBe, .ref mA20, zV mCl])), (mA4, cN g 2 mws), (mA5, cN g 32 mwd)] [.ref mo0, nV x, nV y] (fun r => r = iI ((bkd sg k x y : Nat) : Int)) := by
  refine ro_startI (by decide +kernel) (Nat.le_of_ble_eq_true rfl) ?_
  intro p e s m args below meth c Q ls C hK hP ret hl
  have C : CT p s m args meth c cX10_baked RX10 3 := C
  have hl : lv_has ls 3 [(0, .ref mo0), (1, nV x), (2, nV y)] := hl
  refine lv_aload_n C.1 C.2.1 dX10_baked_0 rfl (lv_at hl 0 rfl) ?_
  refine r_get C hK hP kw_X10 (ci := 8) rfl 0 5 (by decide) kf_X10_20 rfl rfl dX10_baked_1 ?_
  refine r_iconst 2 C dX10_baked_4 rfl ?_
  refine lv_iload_n C.1 C.2.1 dX10_baked_5 rfl (lv_at hl 2 rfl) ?_
  refine r_iconst 3 C dX10_baked_6 rfl ?_
  refine r_cne 23 C dX10_baked_7 rfl ⟨rgN (by omega), rgN (by decide)⟩ (fun h_1 => ?_) (fun h_1 => ?_)
  · skip
    refine lv_iload_n C.1 C.2.1 dX10_baked_23 rfl (lv_at hl 1 rfl) ?_
    refine r_mulN C dX10_baked_24 ?_
    refine r_aldN C hK hP 2 rfl ⟨by omega, by omega⟩ dX10_baked_25 ?_
    refine r_top (v' := nV (sg x)) (by rw [hwd x (by omega)]) ?_
    have hf_2 := hsg x
    exact ret dX10_baked_26 (by unfold bkd; first | rw [if_pos (by omega)] | rw [if_neg (by omega)])
  refine lv_iload_n C.1 C.2.1 dX10_baked_10 rfl (lv_at hl 1 rfl) ?_
  refine r_iconst 1 C dX10_baked_11 rfl ?_
  refine r_addN C dX10_baked_12 ?_
  refine lv_aload_n C.1 C.2.1 dX10_baked_13 rfl (lv_at hl 0 rfl) ?_
  refine r_get C hK hP kw_X10 (ci := 8) rfl 0 4 (by decide) kf_X10_17 rfl rfl dX10_baked_14 ?_
  refine r_iconst 0 C dX10_baked_17 rfl ?_
  refine r_aldN C hK hP 1 rfl ⟨by omega, by omega⟩ dX10_baked_18 ?_
  refine r_top (v' := nV k) (by rw [hk0]) ?_
  refine r_remN C dX10_baked_19 (by omega) (by omega) ?_
  have hq_3 : (x + 1) % k < k := Nat.mod_lt _ (by omega)
  refine r_goto 24 C dX10_baked_20 rfl ?_
  refine r_mulN C dX10_baked_24 ?_
  refine r_aldN C hK hP 2 rfl ⟨by omega, by omega⟩ dX10_baked_25 ?_
  refine r_top (v' := nV (sg ((x + 1) % k))) (by rw [hwd ((x + 1) % k) (by omega)]) ?_
  have hf_4 := hsg ((x + 1) % k)
  exact ret dX10_baked_26 (by unfold bkd; first | rw [if_pos (by omega)] | rw [if_neg (by omega)])
set_option maxHeartbeats 4000000 in
set_option maxRecDepth 100000 in
theorem c_X10_used (l : Launch) (g : GG) (mo0 : Nat) (mA1 : Nat) (mA3 : Nat) (mA4 : Nat) (mA5 : Nat) (mA6 : Nat) (mA7 : Nat) (mA8 : Nat) (mA9 : Nat) (mA10 : Nat) (mA11 : Nat) (mA12 : Nat) (mA15 : Nat) (mA16 : Nat) (mA17 : Nat) (mA20 : Nat) (mL : Nat) (mAt : Nat) (kz : Nat) (dn : Nat) (mAb : Nat) (mBe : Nat) (mCl : Int) (mws : Nat → Nat) (mwd : Nat → Nat) (sg : Nat → Nat) (k : Nat) (x : Nat) (y : Nat) (hk0 : mws 0 = k) (hk : k ≤ 8) (hsg : ∀ j, sg j < 72) (hwd : ∀ j, j < k → mwd (2 * j) = sg j) (hx : x < k) (hy : y < 4) : ROi g l yX10_used cX10_used 4 (some .int) 2 [(mo0, .inr (8, [nV mL, .ref mA1, nV mAt, .ref mA3, .ref mA4, .ref mA5, .ref mA6, .ref mA7, .ref mA8, .ref mA9, .ref mA10, .ref mA11, .ref mA12, nV kz, nV dn, .ref mA15, .ref mA16, .ref mA17, mV mAb, mV mBe, .ref mA20, zV mCl])), (mA4, cN g 2 mws), (mA5, cN g 32 mwd)] [.ref mo0, nV x, nV y] (fun r => r = iI ((flk (bkd sg k x y) y : Nat) : Int)) := by
  refine ro_startI (by decide +kernel) (Nat.le_of_ble_eq_true rfl) ?_
  intro p e s m args below meth c Q ls C hK hP ret hl
  have C : CT p s m args meth c cX10_used RX10 4 := C
  have hl : lv_has ls 4 [(0, .ref mo0), (1, nV x), (2, nV y)] := hl
  refine lv_aload_n C.1 C.2.1 dX10_used_0 rfl (lv_at hl 0 rfl) ?_
  refine lv_iload_n C.1 C.2.1 dX10_used_1 rfl (lv_at hl 1 rfl) ?_
  refine lv_iload_n C.1 C.2.1 dX10_used_2 rfl (lv_at hl 2 rfl) ?_
  refine ro_callV (As := [nV x, nV y]) (rest := []) C hK (c_X10_baked l g mo0 mA1 mA3 mA4 mA5 mA6 mA7 mA8 mA9 mA10 mA11 mA12 mA15 mA16 mA17 mA20 mL mAt kz dn mAb mBe mCl mws mwd sg k x y (by first | assumption | omega) (by first | assumption | omega) (by first | assumption | omega) (by first | assumption | omega) (by first | assumption | omega) (by first | assumption | omega)) hP (ci := 8) (q0 := 0) rfl rfl kc_X10_baked kl_X10_124 kn_X10 ki_X10_baked ke_X10_baked nk_X10_baked (rm_lt (by decide) (by decide)) hl rfl (Nat.le_of_ble_eq_true rfl) dX10_used_3 (fun r_1 hr_2 => ?_)
  subst hr_2
  have hf_3 := hsg (if (y) = 3 then ((x) + 1) % k else x)
  refine r_nameN (fun q1 hq1 => ?_)
  have hq2 : q1 < 72 := by rw [hq1]; exact hsg _
  refine ro_callS (As := [nV q1]) (rest := []) C hK (c_X10_flourOf l g q1 (by first | assumption | omega)) (hP.sub (ws' := []) [] rfl) kc_X10_flourOf kl_X10_114 kn_X10 ks_X10_flourOf nk_X10_flourOf (rm_lt (by decide) (by decide)) hl rfl (Nat.le_of_ble_eq_true rfl) dX10_used_6 (fun r_4 hr_5 => ?_)
  subst hr_5
  refine lv_istore_n (lv' := [(3, nV (fl q1)), (0, .ref mo0), (1, nV x), (2, nV y)]) C.1 C.2.1 dX10_used_9 rfl hl (by decide) rfl (fun ls hl => ?_)
  refine lv_iload_n C.1 C.2.1 dX10_used_10 rfl (lv_at hl 3 rfl) ?_
  refine r_iconst 1 C dX10_used_11 rfl ?_
  refine r_cne 21 C dX10_used_12 rfl ⟨rgN (by omega), rgN (by decide)⟩ (fun h_6 => ?_) (fun h_6 => ?_)
  · skip
    refine lv_iload_n C.1 C.2.1 dX10_used_21 rfl (lv_at hl 3 rfl) ?_
    refine r_iconst 2 C dX10_used_22 rfl ?_
    refine r_cne 32 C dX10_used_23 rfl ⟨rgN (by omega), rgN (by decide)⟩ (fun h_7 => ?_) (fun h_7 => ?_)
    · skip
      refine lv_iload_n C.1 C.2.1 dX10_used_32 rfl (lv_at hl 0 rfl) ?_
      exact ret dX10_used_33 (by rw [← hq1]; unfold flk; exact iI_cast (by first | (rw [if_pos (by omega)]; done) | (rw [if_neg (by omega), if_pos (by omega)]; done) | (rw [if_neg (by omega), if_neg (by omega)]; done)))
    refine lv_iload_n C.1 C.2.1 dX10_used_26 rfl (lv_at hl 0 rfl) ?_
    refine r_iconst 2 C dX10_used_27 rfl ?_
    refine r_addN C dX10_used_28 ?_
    refine r_goto 33 C dX10_used_29 rfl ?_
    exact ret dX10_used_33 (by rw [← hq1]; unfold flk; exact iI_cast (by first | (rw [if_pos (by omega)]; done) | (rw [if_neg (by omega), if_pos (by omega)]; done) | (rw [if_neg (by omega), if_neg (by omega)]; done)))
  refine r_iconst 2 C dX10_used_15 rfl ?_
  refine lv_iload_n C.1 C.2.1 dX10_used_16 rfl (lv_at hl 0 rfl) ?_
  refine r_mulN C dX10_used_17 ?_
  refine r_goto 33 C dX10_used_18 rfl ?_
  exact ret dX10_used_33 (by rw [← hq1]; unfold flk; exact iI_cast (by first | (rw [if_pos (by omega)]; done) | (rw [if_neg (by omega), if_pos (by omega)]; done) | (rw [if_neg (by omega), if_neg (by omega)]; done)))
set_option maxHeartbeats 4000000 in
set_option maxRecDepth 100000 in
theorem c_X10_hasNow (l : Launch) (g : GG) (mo0 : Nat) (mA1 : Nat) (mA3 : Nat) (mA4 : Nat) (mA5 : Nat) (mA6 : Nat) (mA7 : Nat) (mA8 : Nat) (mA9 : Nat) (mA10 : Nat) (mA11 : Nat) (mA12 : Nat) (mA15 : Nat) (mA16 : Nat) (mA17 : Nat) (mA20 : Nat) (mL : Nat) (mAt : Nat) (kz : Nat) (dn : Nat) (mAb : Nat) (mBe : Nat) (mCl : Int) (mtd : Nat → Nat) (mws : Nat → Nat) (mwd : Nat → Nat) (mlv : Nat → Nat) (mlf : Nat → Nat) (sg : Nat → Nat) (k : Nat) (bi : Nat) (mo : Nat) (ce : Nat → Nat) (x : Nat) (hk0 : mws 0 = k) (hk : k ≤ 8) (hsg : ∀ j, sg j < 72) (hwd : ∀ j, j < k → mwd (2 * j) = sg j) (hb0 : mtd 0 = bi) (hb1 : mtd 1 = mo) (hbm : (1 ≤ bi ∧ bi ≤ 9) ∧ (1 ≤ mo ∧ mo ≤ 9)) (hl0 : mlv 0 = ce 40) (hlo : LOK ce) (hlf : ∀ i p, i < ce 40 → p < 4 → mlf (4 * i + p) = ce (i * 5 + p)) (hbk : ∀ i, i < ce 40 → ce (i * 5 + 4) = bkd sg k (ce (i * 5 + 0)) (ce (i * 5 + 1)) ∧ ce (i * 5 + 0) < k) (hx : x < ce 40) : ROi g l yX10_hasNow cX10_hasNow 4 (some .int) 3 [(mo0, .inr (8, [nV mL, .ref mA1, nV mAt, .ref mA3, .ref mA4, .ref mA5, .ref mA6, .ref mA7, .ref mA8, .ref mA9, .ref mA10, .ref mA11, .ref mA12, nV kz, nV dn, .ref mA15, .ref mA16, .ref mA17, mV mAb, mV mBe, .ref mA20, zV mCl])), (mA3, cN g 4 mtd), (mA4, cN g 2 mws), (mA5, cN g 32 mwd), (mA10, cN g 3 mlv), (mA11, cN g 96 mlf)] [.ref mo0, nV x] (fun r => r = iI ((sNow bi mo ce x : Nat) : Int)) := by
  refine ro_startI (by decide +kernel) (Nat.le_of_ble_eq_true rfl) ?_
  intro p e s m args below meth c Q ls C hK hP ret hl
  have C : CT p s m args meth c cX10_hasNow RX10 4 := C
  have hl : lv_has ls 4 [(0, .ref mo0), (1, nV x)] := hl
  have hpt := hlo.2 x hx
  have hkk := hbk x hx
  have h40 := hlo.1
  refine lv_aload_n C.1 C.2.1 dX10_hasNow_0 rfl (lv_at hl 0 rfl) ?_
  refine r_get C hK hP kw_X10 (ci := 8) rfl 0 11 (by decide) kf_X10_38 rfl rfl dX10_hasNow_1 ?_
  refine r_iconst 4 C dX10_hasNow_4 rfl ?_
  refine lv_iload_n C.1 C.2.1 dX10_hasNow_5 rfl (lv_at hl 1 rfl) ?_
  refine r_mulN C dX10_hasNow_6 ?_
  refine r_iconst 1 C dX10_hasNow_7 rfl ?_
  refine r_addN C dX10_hasNow_8 ?_
  refine r_aldN C hK hP 5 rfl ⟨by omega, by omega⟩ dX10_hasNow_9 ?_
  refine r_top (v' := nV (ce (x * 5 + 1))) (by rw [hlf x 1 (by omega) (by decide)]) ?_
  have hf_1 := hlo.2 x (by omega)
  refine lv_istore_n (lv' := [(2, nV (ce (x * 5 + 1))), (0, .ref mo0), (1, nV x)]) C.1 C.2.1 dX10_hasNow_10 rfl hl (by decide) rfl (fun ls hl => ?_)
  refine lv_iload_n C.1 C.2.1 dX10_hasNow_11 rfl (lv_at hl 0 rfl) ?_
  refine r_iconst 1 C dX10_hasNow_12 rfl ?_
  refine r_cne 31 C dX10_hasNow_13 rfl ⟨rgN (by omega), rgN (by decide)⟩ (fun g1 => ?_) (fun g1 => ?_)
  · skip
    refine lv_aload_n C.1 C.2.1 dX10_hasNow_31 rfl (lv_at hl 1 rfl) ?_
    refine r_get C hK hP kw_X10 (ci := 8) rfl 0 11 (by decide) kf_X10_38 rfl rfl dX10_hasNow_32 ?_
    refine r_iconst 4 C dX10_hasNow_35 rfl ?_
    refine lv_iload_n C.1 C.2.1 dX10_hasNow_36 rfl (lv_at hl 2 rfl) ?_
    refine r_mulN C dX10_hasNow_37 ?_
    refine r_iconst 2 C dX10_hasNow_38 rfl ?_
    refine r_addN C dX10_hasNow_39 ?_
    refine r_aldN C hK hP 5 rfl ⟨by omega, by omega⟩ dX10_hasNow_40 ?_
    refine r_top (v' := nV (ce (x * 5 + 2))) (by rw [hlf x 2 (by omega) (by decide)]) ?_
    have hf_2 := hlo.2 x (by omega)
    refine lv_istore_n (lv' := [(3, nV (ce (x * 5 + 2))), (2, nV (ce (x * 5 + 1))), (0, .ref mo0), (1, nV x)]) C.1 C.2.1 dX10_hasNow_41 rfl hl (by decide) rfl (fun ls hl => ?_)
    refine lv_aload_n C.1 C.2.1 dX10_hasNow_42 rfl (lv_at hl 2 rfl) ?_
    refine lv_aload_n C.1 C.2.1 dX10_hasNow_43 rfl (lv_at hl 2 rfl) ?_
    refine lv_aload_n C.1 C.2.1 dX10_hasNow_44 rfl (lv_at hl 2 rfl) ?_
    refine r_get C hK hP kw_X10 (ci := 8) rfl 0 11 (by decide) kf_X10_38 rfl rfl dX10_hasNow_45 ?_
    refine r_iconst 4 C dX10_hasNow_48 rfl ?_
    refine lv_iload_n C.1 C.2.1 dX10_hasNow_49 rfl (lv_at hl 3 rfl) ?_
    refine r_mulN C dX10_hasNow_50 ?_
    refine r_aldN C hK hP 5 rfl ⟨by omega, by omega⟩ dX10_hasNow_51 ?_
    refine r_top (v' := nV (ce (x * 5 + 0))) (by rw [show 4 * x = 4 * x + 0 from rfl, hlf x 0 (by omega) (by decide)]) ?_
    have hf_3 := hlo.2 x (by omega)
    refine lv_iload_n C.1 C.2.1 dX10_hasNow_52 rfl (lv_at hl 1 rfl) ?_
    refine ro_callV (As := [nV (ce (x * 5 + 0)), nV (ce (x * 5 + 1))]) (rest := [.ref mo0]) C hK (c_X10_baked l g mo0 mA1 mA3 mA4 mA5 mA6 mA7 mA8 mA9 mA10 mA11 mA12 mA15 mA16 mA17 mA20 mL mAt kz dn mAb mBe mCl mws mwd sg k (ce (x * 5 + 0)) (ce (x * 5 + 1)) (by first | assumption | omega) (by first | assumption | omega) (by first | assumption | omega) (by first | assumption | omega) (by first | assumption | omega) (by first | assumption | omega)) (hP.sub (ws' := [(mo0, .inr (8, [nV mL, .ref mA1, nV mAt, .ref mA3, .ref mA4, .ref mA5, .ref mA6, .ref mA7, .ref mA8, .ref mA9, .ref mA10, .ref mA11, .ref mA12, nV kz, nV dn, .ref mA15, .ref mA16, .ref mA17, mV mAb, mV mBe, .ref mA20, zV mCl])), (mA4, cN g 2 mws), (mA5, cN g 32 mwd)]) [0, 2, 3] rfl) (ci := 8) (q0 := 0) rfl rfl kc_X10_baked kl_X10_124 kn_X10 ki_X10_baked ke_X10_baked nk_X10_baked (rm_lt (by decide) (by decide)) hl rfl (Nat.le_of_ble_eq_true rfl) dX10_hasNow_53 (fun r_4 hr_5 => ?_)
    subst hr_5
    have hf_6 := hsg (if ((ce (x * 5 + 1))) = 3 then (((ce (x * 5 + 0))) + 1) % k else (ce (x * 5 + 0)))
    refine r_top (v' := nV (ce (x * 5 + 4))) (by rw [hkk.1]) ?_
    refine lv_iload_n C.1 C.2.1 dX10_hasNow_56 rfl (lv_at hl 0 rfl) ?_
    refine lv_iload_n C.1 C.2.1 dX10_hasNow_57 rfl (lv_at hl 1 rfl) ?_
    refine r_iconst 2 C dX10_hasNow_58 rfl ?_
    refine r_cne 66 C dX10_hasNow_59 rfl ⟨rgN (by omega), rgN (by decide)⟩ (fun g2 => ?_) (fun g2 => ?_)
    · skip
      refine lv_aload_n C.1 C.2.1 dX10_hasNow_66 rfl (lv_at hl 2 rfl) ?_
      refine r_get C hK hP kw_X10 (ci := 8) rfl 0 11 (by decide) kf_X10_38 rfl rfl dX10_hasNow_67 ?_
      refine r_iconst 4 C dX10_hasNow_70 rfl ?_
      refine lv_iload_n C.1 C.2.1 dX10_hasNow_71 rfl (lv_at hl 3 rfl) ?_
      refine r_mulN C dX10_hasNow_72 ?_
      refine r_iconst 3 C dX10_hasNow_73 rfl ?_
      refine r_addN C dX10_hasNow_74 ?_
      refine r_aldN C hK hP 5 rfl ⟨by omega, by omega⟩ dX10_hasNow_75 ?_
      refine r_top (v' := nV (ce (x * 5 + 3))) (by rw [hlf x 3 (by omega) (by decide)]) ?_
      have hf_7 := hlo.2 x (by omega)
      refine ro_callV (As := [nV (ce (x * 5 + 4)), nV (ce (x * 5 + 2)), nV (ce (x * 5 + 3))]) (rest := []) C hK (c_X10_become l g mo0 mA1 mA3 mA4 mA5 mA6 mA7 mA8 mA9 mA10 mA11 mA12 mA15 mA16 mA17 mA20 mL mAt kz dn mAb mBe mCl mtd bi mo (ce (x * 5 + 4)) (ce (x * 5 + 2)) (ce (x * 5 + 3)) (by first | assumption | omega) (by first | assumption | omega) (by first | assumption | omega) (by first | assumption | omega) (by first | assumption | omega) (by first | assumption | omega)) (hP.sub (ws' := [(mo0, .inr (8, [nV mL, .ref mA1, nV mAt, .ref mA3, .ref mA4, .ref mA5, .ref mA6, .ref mA7, .ref mA8, .ref mA9, .ref mA10, .ref mA11, .ref mA12, nV kz, nV dn, .ref mA15, .ref mA16, .ref mA17, mV mAb, mV mBe, .ref mA20, zV mCl])), (mA3, cN g 4 mtd)]) [0, 1] rfl) (ci := 8) (q0 := 0) rfl rfl kc_X10_become kl_X10_127 kn_X10 ki_X10_become ke_X10_become nk_X10_become (rm_lt (by decide) (by decide)) hl rfl (Nat.le_of_ble_eq_true rfl) dX10_hasNow_76 (fun r_8 hr_9 => ?_)
      subst hr_9
      have hf_10 := tn_bd (bi) (mo) ((ce (x * 5 + 4))) ((ce (x * 5 + 2))) ((ce (x * 5 + 3))) (by omega)
      exact ret dX10_hasNow_79 (by unfold sNow; first | rw [if_pos (by omega), if_pos (by omega)] | rw [if_pos (by omega), if_neg (by omega)] | rw [if_neg (by omega), if_pos (by omega)] | rw [if_neg (by omega), if_neg (by omega)])
    refine r_iconst 0 C dX10_hasNow_62 rfl ?_
    refine r_goto 76 C dX10_hasNow_63 rfl ?_
    refine ro_callV (As := [nV (ce (x * 5 + 4)), nV (ce (x * 5 + 2)), nV 0]) (rest := []) C hK (c_X10_become l g mo0 mA1 mA3 mA4 mA5 mA6 mA7 mA8 mA9 mA10 mA11 mA12 mA15 mA16 mA17 mA20 mL mAt kz dn mAb mBe mCl mtd bi mo (ce (x * 5 + 4)) (ce (x * 5 + 2)) 0 (by first | assumption | omega) (by first | assumption | omega) (by first | assumption | omega) (by first | assumption | omega) (by first | assumption | omega) (by first | assumption | omega)) (hP.sub (ws' := [(mo0, .inr (8, [nV mL, .ref mA1, nV mAt, .ref mA3, .ref mA4, .ref mA5, .ref mA6, .ref mA7, .ref mA8, .ref mA9, .ref mA10, .ref mA11, .ref mA12, nV kz, nV dn, .ref mA15, .ref mA16, .ref mA17, mV mAb, mV mBe, .ref mA20, zV mCl])), (mA3, cN g 4 mtd)]) [0, 1] rfl) (ci := 8) (q0 := 0) rfl rfl kc_X10_become kl_X10_127 kn_X10 ki_X10_become ke_X10_become nk_X10_become (rm_lt (by decide) (by decide)) hl rfl (Nat.le_of_ble_eq_true rfl) dX10_hasNow_76 (fun r_11 hr_12 => ?_)
    subst hr_12
    have hf_13 := tn_bd (bi) (mo) ((ce (x * 5 + 4))) ((ce (x * 5 + 2))) (0) (by omega)
    exact ret dX10_hasNow_79 (by unfold sNow; first | rw [if_pos (by omega), if_pos (by omega)] | rw [if_pos (by omega), if_neg (by omega)] | rw [if_neg (by omega), if_pos (by omega)] | rw [if_neg (by omega), if_neg (by omega)])
  refine lv_aload_n C.1 C.2.1 dX10_hasNow_16 rfl (lv_at hl 1 rfl) ?_
  refine r_get C hK hP kw_X10 (ci := 8) rfl 0 11 (by decide) kf_X10_38 rfl rfl dX10_hasNow_17 ?_
  refine r_iconst 4 C dX10_hasNow_20 rfl ?_
  refine lv_iload_n C.1 C.2.1 dX10_hasNow_21 rfl (lv_at hl 2 rfl) ?_
  refine r_mulN C dX10_hasNow_22 ?_
  refine r_iconst 2 C dX10_hasNow_23 rfl ?_
  refine r_addN C dX10_hasNow_24 ?_
  refine r_aldN C hK hP 5 rfl ⟨by omega, by omega⟩ dX10_hasNow_25 ?_
  refine r_top (v' := nV (ce (x * 5 + 2))) (by rw [hlf x 2 (by omega) (by decide)]) ?_
  have hf_14 := hlo.2 x (by omega)
  refine r_iconst 2 C dX10_hasNow_26 rfl ?_
  refine r_divN C dX10_hasNow_27 (by omega) (by decide) ?_
  refine r_goto 41 C dX10_hasNow_28 rfl ?_
  refine lv_istore_n (lv' := [(3, nV ((ce (x * 5 + 2)) / 2)), (2, nV (ce (x * 5 + 1))), (0, .ref mo0), (1, nV x)]) C.1 C.2.1 dX10_hasNow_41 rfl hl (by decide) rfl (fun ls hl => ?_)
  refine lv_aload_n C.1 C.2.1 dX10_hasNow_42 rfl (lv_at hl 2 rfl) ?_
  refine lv_aload_n C.1 C.2.1 dX10_hasNow_43 rfl (lv_at hl 2 rfl) ?_
  refine lv_aload_n C.1 C.2.1 dX10_hasNow_44 rfl (lv_at hl 2 rfl) ?_
  refine r_get C hK hP kw_X10 (ci := 8) rfl 0 11 (by decide) kf_X10_38 rfl rfl dX10_hasNow_45 ?_
  refine r_iconst 4 C dX10_hasNow_48 rfl ?_
  refine lv_iload_n C.1 C.2.1 dX10_hasNow_49 rfl (lv_at hl 3 rfl) ?_
  refine r_mulN C dX10_hasNow_50 ?_
  refine r_aldN C hK hP 5 rfl ⟨by omega, by omega⟩ dX10_hasNow_51 ?_
  refine r_top (v' := nV (ce (x * 5 + 0))) (by rw [show 4 * x = 4 * x + 0 from rfl, hlf x 0 (by omega) (by decide)]) ?_
  have hf_15 := hlo.2 x (by omega)
  refine lv_iload_n C.1 C.2.1 dX10_hasNow_52 rfl (lv_at hl 1 rfl) ?_
  refine ro_callV (As := [nV (ce (x * 5 + 0)), nV (ce (x * 5 + 1))]) (rest := [.ref mo0]) C hK (c_X10_baked l g mo0 mA1 mA3 mA4 mA5 mA6 mA7 mA8 mA9 mA10 mA11 mA12 mA15 mA16 mA17 mA20 mL mAt kz dn mAb mBe mCl mws mwd sg k (ce (x * 5 + 0)) (ce (x * 5 + 1)) (by first | assumption | omega) (by first | assumption | omega) (by first | assumption | omega) (by first | assumption | omega) (by first | assumption | omega) (by first | assumption | omega)) (hP.sub (ws' := [(mo0, .inr (8, [nV mL, .ref mA1, nV mAt, .ref mA3, .ref mA4, .ref mA5, .ref mA6, .ref mA7, .ref mA8, .ref mA9, .ref mA10, .ref mA11, .ref mA12, nV kz, nV dn, .ref mA15, .ref mA16, .ref mA17, mV mAb, mV mBe, .ref mA20, zV mCl])), (mA4, cN g 2 mws), (mA5, cN g 32 mwd)]) [0, 2, 3] rfl) (ci := 8) (q0 := 0) rfl rfl kc_X10_baked kl_X10_124 kn_X10 ki_X10_baked ke_X10_baked nk_X10_baked (rm_lt (by decide) (by decide)) hl rfl (Nat.le_of_ble_eq_true rfl) dX10_hasNow_53 (fun r_16 hr_17 => ?_)
  subst hr_17
  have hf_18 := hsg (if ((ce (x * 5 + 1))) = 3 then (((ce (x * 5 + 0))) + 1) % k else (ce (x * 5 + 0)))
  refine r_top (v' := nV (ce (x * 5 + 4))) (by rw [hkk.1]) ?_
  refine lv_iload_n C.1 C.2.1 dX10_hasNow_56 rfl (lv_at hl 0 rfl) ?_
  refine lv_iload_n C.1 C.2.1 dX10_hasNow_57 rfl (lv_at hl 1 rfl) ?_
  refine r_iconst 2 C dX10_hasNow_58 rfl ?_
  refine r_cne 66 C dX10_hasNow_59 rfl ⟨rgN (by omega), rgN (by decide)⟩ (fun g2 => ?_) (fun g2 => ?_)
  · skip
    refine lv_aload_n C.1 C.2.1 dX10_hasNow_66 rfl (lv_at hl 2 rfl) ?_
    refine r_get C hK hP kw_X10 (ci := 8) rfl 0 11 (by decide) kf_X10_38 rfl rfl dX10_hasNow_67 ?_
    refine r_iconst 4 C dX10_hasNow_70 rfl ?_
    refine lv_iload_n C.1 C.2.1 dX10_hasNow_71 rfl (lv_at hl 3 rfl) ?_
    refine r_mulN C dX10_hasNow_72 ?_
    refine r_iconst 3 C dX10_hasNow_73 rfl ?_
    refine r_addN C dX10_hasNow_74 ?_
    refine r_aldN C hK hP 5 rfl ⟨by omega, by omega⟩ dX10_hasNow_75 ?_
    refine r_top (v' := nV (ce (x * 5 + 3))) (by rw [hlf x 3 (by omega) (by decide)]) ?_
    have hf_19 := hlo.2 x (by omega)
    refine ro_callV (As := [nV (ce (x * 5 + 4)), nV ((ce (x * 5 + 2)) / 2), nV (ce (x * 5 + 3))]) (rest := []) C hK (c_X10_become l g mo0 mA1 mA3 mA4 mA5 mA6 mA7 mA8 mA9 mA10 mA11 mA12 mA15 mA16 mA17 mA20 mL mAt kz dn mAb mBe mCl mtd bi mo (ce (x * 5 + 4)) ((ce (x * 5 + 2)) / 2) (ce (x * 5 + 3)) (by first | assumption | omega) (by first | assumption | omega) (by first | assumption | omega) (by first | assumption | omega) (by first | assumption | omega) (by first | assumption | omega)) (hP.sub (ws' := [(mo0, .inr (8, [nV mL, .ref mA1, nV mAt, .ref mA3, .ref mA4, .ref mA5, .ref mA6, .ref mA7, .ref mA8, .ref mA9, .ref mA10, .ref mA11, .ref mA12, nV kz, nV dn, .ref mA15, .ref mA16, .ref mA17, mV mAb, mV mBe, .ref mA20, zV mCl])), (mA3, cN g 4 mtd)]) [0, 1] rfl) (ci := 8) (q0 := 0) rfl rfl kc_X10_become kl_X10_127 kn_X10 ki_X10_become ke_X10_become nk_X10_become (rm_lt (by decide) (by decide)) hl rfl (Nat.le_of_ble_eq_true rfl) dX10_hasNow_76 (fun r_20 hr_21 => ?_)
    subst hr_21
    have hf_22 := tn_bd (bi) (mo) ((ce (x * 5 + 4))) (((ce (x * 5 + 2)) / 2)) ((ce (x * 5 + 3))) (by omega)
    exact ret dX10_hasNow_79 (by unfold sNow; first | rw [if_pos (by omega), if_pos (by omega)] | rw [if_pos (by omega), if_neg (by omega)] | rw [if_neg (by omega), if_pos (by omega)] | rw [if_neg (by omega), if_neg (by omega)])
  refine r_iconst 0 C dX10_hasNow_62 rfl ?_
  refine r_goto 76 C dX10_hasNow_63 rfl ?_
  refine ro_callV (As := [nV (ce (x * 5 + 4)), nV ((ce (x * 5 + 2)) / 2), nV 0]) (rest := []) C hK (c_X10_become l g mo0 mA1 mA3 mA4 mA5 mA6 mA7 mA8 mA9 mA10 mA11 mA12 mA15 mA16 mA17 mA20 mL mAt kz dn mAb mBe mCl mtd bi mo (ce (x * 5 + 4)) ((ce (x * 5 + 2)) / 2) 0 (by first | assumption | omega) (by first | assumption | omega) (by first | assumption | omega) (by first | assumption | omega) (by first | assumption | omega) (by first | assumption | omega)) (hP.sub (ws' := [(mo0, .inr (8, [nV mL, .ref mA1, nV mAt, .ref mA3, .ref mA4, .ref mA5, .ref mA6, .ref mA7, .ref mA8, .ref mA9, .ref mA10, .ref mA11, .ref mA12, nV kz, nV dn, .ref mA15, .ref mA16, .ref mA17, mV mAb, mV mBe, .ref mA20, zV mCl])), (mA3, cN g 4 mtd)]) [0, 1] rfl) (ci := 8) (q0 := 0) rfl rfl kc_X10_become kl_X10_127 kn_X10 ki_X10_become ke_X10_become nk_X10_become (rm_lt (by decide) (by decide)) hl rfl (Nat.le_of_ble_eq_true rfl) dX10_hasNow_76 (fun r_23 hr_24 => ?_)
  subst hr_24
  have hf_25 := tn_bd (bi) (mo) ((ce (x * 5 + 4))) (((ce (x * 5 + 2)) / 2)) (0) (by omega)
  exact ret dX10_hasNow_79 (by unfold sNow; first | rw [if_pos (by omega), if_pos (by omega)] | rw [if_pos (by omega), if_neg (by omega)] | rw [if_neg (by omega), if_pos (by omega)] | rw [if_neg (by omega), if_neg (by omega)])
set_option maxHeartbeats 4000000 in
set_option maxRecDepth 100000 in
theorem c_X10_loaf (l : Launch) (g : GG) (mo0 : Nat) (mA1 : Nat) (mA3 : Nat) (mA4 : Nat) (mA5 : Nat) (mA6 : Nat) (mA7 : Nat) (mA8 : Nat) (mA9 : Nat) (mA10 : Nat) (mA11 : Nat) (mA12 : Nat) (mA15 : Nat) (mA16 : Nat) (mA17 : Nat) (mA20 : Nat) (mL : Nat) (mAt : Nat) (kz : Nat) (dn : Nat) (mAb : Nat) (mBe : Nat) (mCl : Int) (mtd : Nat → Nat) (mws : Nat → Nat) (mwd : Nat → Nat) (mlv : Nat → Nat) (mlf : Nat → Nat) (sg : Nat → Nat) (k : Nat) (bi : Nat) (mo : Nat) (ce : Nat → Nat) (x : Int) (y : Int) (hk0 : mws 0 = k) (hk : k ≤ 8) (hsg : ∀ j, sg j < 72) (hwd : ∀ j, j < k → mwd (2 * j) = sg j) (hb0 : mtd 0 = bi) (hb1 : mtd 1 = mo) (hbm : (1 ≤ bi ∧ bi ≤ 9) ∧ (1 ≤ mo ∧ mo ≤ 9)) (hl0 : mlv 0 = ce 40) (hlo : LOK ce) (hlf : ∀ i p, i < ce 40 → p < 4 → mlf (4 * i + p) = ce (i * 5 + p)) (hbk : ∀ i, i < ce 40 → ce (i * 5 + 4) = bkd sg k (ce (i * 5 + 0)) (ce (i * 5 + 1)) ∧ ce (i * 5 + 0) < k) (hx : rg x) (hy : rg y) : ROi g l yX10_loaf cX10_loaf 3 (some .int) 4 [(mo0, .inr (8, [nV mL, .ref mA1, nV mAt, .ref mA3, .ref mA4, .ref mA5, .ref mA6, .ref mA7, .ref mA8, .ref mA9, .ref mA10, .ref mA11, .ref mA12, nV kz, nV dn, .ref mA15, .ref mA16, .ref mA17, mV mAb, mV mBe, .ref mA20, zV mCl])), (mA3, cN g 4 mtd), (mA4, cN g 2 mws), (mA5, cN g 32 mwd), (mA10, cN g 3 mlv), (mA11, cN g 96 mlf)] [.ref mo0, zV x, zV y] (fun r => r = iI (sLoaf sg k bi mo ce x y)) := by
  refine ro_startI (by decide +kernel) (Nat.le_of_ble_eq_true rfl) ?_
  intro p e s m args below meth c Q ls C hK hP ret hl
  have C : CT p s m args meth c cX10_loaf RX10 3 := C
  have hl : lv_has ls 3 [(0, .ref mo0), (1, zV x), (2, zV y)] := hl
  have h40 := hlo.1
  refine lv_aload_n C.1 C.2.1 dX10_loaf_0 rfl (lv_at hl 0 rfl) ?_
  refine lv_iload_n C.1 C.2.1 dX10_loaf_1 rfl (lv_at hl 1 rfl) ?_
  refine ro_callV (As := [zV x]) (rest := []) C hK (c_X10_isLoaf l g mo0 mA1 mA3 mA4 mA5 mA6 mA7 mA8 mA9 mA10 mA11 mA12 mA15 mA16 mA17 mA20 mL mAt kz dn mAb mBe mCl mlv ce x (by first | assumption | omega) (by first | assumption | omega) (by first | assumption | exact ⟨by omega, by omega⟩)) (hP.sub (ws' := [(mo0, .inr (8, [nV mL, .ref mA1, nV mAt, .ref mA3, .ref mA4, .ref mA5, .ref mA6, .ref mA7, .ref mA8, .ref mA9, .ref mA10, .ref mA11, .ref mA12, nV kz, nV dn, .ref mA15, .ref mA16, .ref mA17, mV mAb, mV mBe, .ref mA20, zV mCl])), (mA10, cN g 3 mlv)]) [0, 4] rfl) (ci := 8) (q0 := 0) rfl rfl kc_X10_isLoaf kl_X10_150 kn_X10 ki_X10_isLoaf ke_X10_isLoaf nk_X10_isLoaf (rm_lt (by decide) (by decide)) hl rfl (Nat.le_of_ble_eq_true rfl) dX10_loaf_2 (fun r_1 hr_2 => ?_)
  subst hr_2
  refine r_beq 20 C dX10_loaf_5 rfl (fun h_3 => ?_) (fun h_3 => ?_)
  · skip
    refine r_iconstZ C dX10_loaf_20 ?_
    refine r_goto 64 C dX10_loaf_21 rfl ?_
    exact ret dX10_loaf_64 (by unfold sLoaf; rw [if_neg (by omega)])
  refine lv_iload_n C.1 C.2.1 dX10_loaf_8 rfl (lv_at hl 2 rfl) ?_
  refine r_i2l C dX10_loaf_9 (⟨by omega, by omega⟩) ?_
  refine r_lconst 0 C dX10_loaf_10 rfl ?_
  refine r_ldc2N 5 C kv_X10_153 dX10_loaf_11 rfl ?_
  refine ro_callS (As := [jV y, mV 0, mV 5]) (rest := []) C hK (c_X10_in l g y ((0 : Nat) : Int) ((5 : Nat) : Int) (by first | assumption | exact ⟨by omega, by omega⟩) (by first | assumption | exact ⟨by omega, by omega⟩) (by first | assumption | exact ⟨by omega, by omega⟩)) (hP.sub (ws' := []) [] rfl) kc_X10_in kl_X10_65 kn_X10 ks_X10_in nk_X10_in (rm_lt (by decide) (by decide)) hl rfl (Nat.le_of_ble_eq_true rfl) dX10_loaf_14 (fun r_4 hr_5 => ?_)
  subst hr_5
  refine r_bne 24 C dX10_loaf_17 rfl (fun h_6 => ?_) (fun h_6 => ?_)
  · skip
    obtain ⟨xn, rfl⟩ : ∃ n : Nat, x = (n : Int) := ⟨x.toNat, by omega⟩
    obtain ⟨yn, rfl⟩ : ∃ n : Nat, y = (n : Int) := ⟨y.toNat, by omega⟩
    have hl : lv_has ls 3 [(0, .ref mo0), (1, nV xn), (2, nV yn)] := hl
    refine lv_iload_n C.1 C.2.1 dX10_loaf_24 rfl (lv_at hl 2 rfl) ?_
    refine r_iconst 4 C dX10_loaf_25 rfl ?_
    refine r_cge 42 C dX10_loaf_26 rfl ⟨rgN (by omega), rgN (by decide)⟩ (fun h_7 => ?_) (fun h_7 => ?_)
    · skip
      refine lv_iload_n C.1 C.2.1 dX10_loaf_42 rfl (lv_at hl 2 rfl) ?_
      refine r_iconst 4 C dX10_loaf_43 rfl ?_
      refine r_cne 55 C dX10_loaf_44 rfl ⟨rgN (by omega), rgN (by decide)⟩ (fun h_8 => ?_) (fun h_8 => ?_)
      · skip
        refine lv_aload_n C.1 C.2.1 dX10_loaf_55 rfl (lv_at hl 0 rfl) ?_
        refine lv_aload_n C.1 C.2.1 dX10_loaf_56 rfl (lv_at hl 0 rfl) ?_
        refine lv_iload_n C.1 C.2.1 dX10_loaf_57 rfl (lv_at hl 1 rfl) ?_
        refine ro_callV (As := [nV xn]) (rest := [.ref mo0]) C hK (c_X10_hasNow l g mo0 mA1 mA3 mA4 mA5 mA6 mA7 mA8 mA9 mA10 mA11 mA12 mA15 mA16 mA17 mA20 mL mAt kz dn mAb mBe mCl mtd mws mwd mlv mlf sg k bi mo ce xn (by first | assumption | omega) (by first | assumption | omega) (by first | assumption | omega) (by first | assumption | omega) (by first | assumption | omega) (by first | assumption | omega) (by first | assumption | omega) (by first | assumption | omega) (by first | assumption | omega) (by first | assumption | omega) (by first | assumption | omega) (by first | assumption | omega)) hP (ci := 8) (q0 := 0) rfl rfl kc_X10_hasNow kl_X10_144 kn_X10 ki_X10_hasNow ke_X10_hasNow nk_X10_hasNow (rm_lt (by decide) (by decide)) hl rfl (Nat.le_of_ble_eq_true rfl) dX10_loaf_58 (fun r_9 hr_10 => ?_)
        subst hr_10
        have hf_11 := sNow_bd (bi := bi) (mo := mo) hlo (show xn < ce 40 by omega)
        refine ro_callV (As := [nV (sNow bi mo ce xn)]) (rest := []) C hK (c_X10_read l g mo0 mA1 mA3 mA4 mA5 mA6 mA7 mA8 mA9 mA10 mA11 mA12 mA15 mA16 mA17 mA20 mL mAt kz dn mAb mBe mCl mws mwd sg k (sNow bi mo ce xn) (by first | assumption | omega) (by first | assumption | omega) (by first | assumption | omega) (by first | assumption | omega) (by first | assumption | omega)) (hP.sub (ws' := [(mo0, .inr (8, [nV mL, .ref mA1, nV mAt, .ref mA3, .ref mA4, .ref mA5, .ref mA6, .ref mA7, .ref mA8, .ref mA9, .ref mA10, .ref mA11, .ref mA12, nV kz, nV dn, .ref mA15, .ref mA16, .ref mA17, mV mAb, mV mBe, .ref mA20, zV mCl])), (mA4, cN g 2 mws), (mA5, cN g 32 mwd)]) [0, 2, 3] rfl) (ci := 8) (q0 := 0) rfl rfl kc_X10_read kl_X10_147 kn_X10 ki_X10_read ke_X10_read nk_X10_read (rm_lt (by decide) (by decide)) hl rfl (Nat.le_of_ble_eq_true rfl) dX10_loaf_61 (fun r_12 hr_13 => ?_)
        subst hr_13
        have hf_14 := rd_bd sg (k) ((sNow bi mo ce xn))
        exact ret dX10_loaf_64 (by unfold sLoaf; rw [if_pos (by omega), if_neg (by omega), if_neg (by omega)]; rfl)
      refine lv_aload_n C.1 C.2.1 dX10_loaf_47 rfl (lv_at hl 0 rfl) ?_
      refine lv_iload_n C.1 C.2.1 dX10_loaf_48 rfl (lv_at hl 1 rfl) ?_
      refine ro_callV (As := [nV xn]) (rest := []) C hK (c_X10_hasNow l g mo0 mA1 mA3 mA4 mA5 mA6 mA7 mA8 mA9 mA10 mA11 mA12 mA15 mA16 mA17 mA20 mL mAt kz dn mAb mBe mCl mtd mws mwd mlv mlf sg k bi mo ce xn (by first | assumption | omega) (by first | assumption | omega) (by first | assumption | omega) (by first | assumption | omega) (by first | assumption | omega) (by first | assumption | omega) (by first | assumption | omega) (by first | assumption | omega) (by first | assumption | omega) (by first | assumption | omega) (by first | assumption | omega) (by first | assumption | omega)) hP (ci := 8) (q0 := 0) rfl rfl kc_X10_hasNow kl_X10_144 kn_X10 ki_X10_hasNow ke_X10_hasNow nk_X10_hasNow (rm_lt (by decide) (by decide)) hl rfl (Nat.le_of_ble_eq_true rfl) dX10_loaf_49 (fun r_15 hr_16 => ?_)
      subst hr_16
      have hf_17 := sNow_bd (bi := bi) (mo := mo) hlo (show xn < ce 40 by omega)
      refine r_goto 64 C dX10_loaf_52 rfl ?_
      exact ret dX10_loaf_64 (by unfold sLoaf; rw [if_pos (by omega), if_neg (by omega), if_pos (by omega)]; rfl)
    refine lv_aload_n C.1 C.2.1 dX10_loaf_29 rfl (lv_at hl 0 rfl) ?_
    refine r_get C hK hP kw_X10 (ci := 8) rfl 0 11 (by decide) kf_X10_38 rfl rfl dX10_loaf_30 ?_
    refine r_iconst 4 C dX10_loaf_33 rfl ?_
    refine lv_iload_n C.1 C.2.1 dX10_loaf_34 rfl (lv_at hl 1 rfl) ?_
    refine r_mulN C dX10_loaf_35 ?_
    refine lv_iload_n C.1 C.2.1 dX10_loaf_36 rfl (lv_at hl 2 rfl) ?_
    refine r_addN C dX10_loaf_37 ?_
    refine r_aldN C hK hP 5 rfl ⟨by omega, by omega⟩ dX10_loaf_38 ?_
    refine r_top (v' := nV (ce (xn * 5 + yn))) (by rw [hlf xn yn (by omega) (by omega)]) ?_
    refine r_goto 64 C dX10_loaf_39 rfl ?_
    exact ret dX10_loaf_64 (by unfold sLoaf; rw [if_pos (by omega), if_pos (by omega)]; rfl)
  refine r_iconstZ C dX10_loaf_20 ?_
  refine r_goto 64 C dX10_loaf_21 rfl ?_
  exact ret dX10_loaf_64 (by unfold sLoaf; rw [if_neg (by omega)])
set_option maxHeartbeats 4000000 in
set_option maxRecDepth 100000 in
theorem c_X10_becomes (l : Launch) (g : GG) (mo0 : Nat) (mA1 : Nat) (mA3 : Nat) (mA4 : Nat) (mA5 : Nat) (mA6 : Nat) (mA7 : Nat) (mA8 : Nat) (mA9 : Nat) (mA10 : Nat) (mA11 : Nat) (mA12 : Nat) (mA15 : Nat) (mA16 : Nat) (mA17 : Nat) (mA20 : Nat) (mL : Nat) (mAt : Nat) (kz : Nat) (dn : Nat) (mAb : Nat) (mBe : Nat) (mCl : Int) (mtd : Nat → Nat) (bi : Nat) (mo : Nat) (x : Int) (y : Int) (w : Int) (hb0 : mtd 0 = bi) (hb1 : mtd 1 = mo) (hbm : (1 ≤ bi ∧ bi ≤ 9) ∧ (1 ≤ mo ∧ mo ≤ 9)) (hx : rg x) (hy : rg y) (hw : rg w) : ROi g l yX10_becomes cX10_becomes 4 (some .int) 3 [(mo0, .inr (8, [nV mL, .ref mA1, nV mAt, .ref mA3, .ref mA4, .ref mA5, .ref mA6, .ref mA7, .ref mA8, .ref mA9, .ref mA10, .ref mA11, .ref mA12, nV kz, nV dn, .ref mA15, .ref mA16, .ref mA17, mV mAb, mV mBe, .ref mA20, zV mCl])), (mA3, cN g 4 mtd)] [.ref mo0, zV x, zV y, zV w] (fun r => r = iI (sBec bi mo x y w)) := by
  refine ro_startI (by decide +kernel) (Nat.le_of_ble_eq_true rfl) ?_
  intro p e s m args below meth c Q ls C hK hP ret hl
  have C : CT p s m args meth c cX10_becomes RX10 4 := C
  have hl : lv_has ls 4 [(0, .ref mo0), (1, zV x), (2, zV y), (3, zV w)] := hl
  refine lv_iload_n C.1 C.2.1 dX10_becomes_0 rfl (lv_at hl 1 rfl) ?_
  refine ro_callS (As := [zV x]) (rest := []) C hK (c_X10_isSign l g x (by first | assumption | exact ⟨by omega, by omega⟩)) (hP.sub (ws' := []) [] rfl) kc_X10_isSign kl_X10_159 kn_X10 ks_X10_isSign nk_X10_isSign (rm_lt (by decide) (by decide)) hl rfl (Nat.le_of_ble_eq_true rfl) dX10_becomes_1 (fun r_1 hr_2 => ?_)
  subst hr_2
  refine r_beq 25 C dX10_becomes_4 rfl (fun h_3 => ?_) (fun h_3 => ?_)
  · skip
    refine r_iconstZ C dX10_becomes_25 ?_
    exact ret dX10_becomes_26 (by unfold sBec; rw [if_neg (by omega)])
  refine lv_iload_n C.1 C.2.1 dX10_becomes_7 rfl (lv_at hl 2 rfl) ?_
  refine lv_iload_n C.1 C.2.1 dX10_becomes_8 rfl (lv_at hl 3 rfl) ?_
  refine ro_callS (As := [zV y, zV w]) (rest := []) C hK (c_X10_isSpan l g y w (by first | assumption | exact ⟨by omega, by omega⟩) (by first | assumption | exact ⟨by omega, by omega⟩)) (hP.sub (ws' := []) [] rfl) kc_X10_isSpan kl_X10_162 kn_X10 ks_X10_isSpan nk_X10_isSpan (rm_lt (by decide) (by decide)) hl rfl (Nat.le_of_ble_eq_true rfl) dX10_becomes_9 (fun r_4 hr_5 => ?_)
  subst hr_5
  refine r_beq 25 C dX10_becomes_12 rfl (fun h_6 => ?_) (fun h_6 => ?_)
  · skip
    refine r_iconstZ C dX10_becomes_25 ?_
    exact ret dX10_becomes_26 (by unfold sBec; rw [if_neg (by omega)])
  obtain ⟨xn, rfl⟩ : ∃ n : Nat, x = (n : Int) := ⟨x.toNat, by omega⟩
  obtain ⟨yn, rfl⟩ : ∃ n : Nat, y = (n : Int) := ⟨y.toNat, by omega⟩
  obtain ⟨wn, rfl⟩ : ∃ n : Nat, w = (n : Int) := ⟨w.toNat, by omega⟩
  have hl : lv_has ls 4 [(0, .ref mo0), (1, nV xn), (2, nV yn), (3, nV wn)] := hl
  refine lv_aload_n C.1 C.2.1 dX10_becomes_15 rfl (lv_at hl 0 rfl) ?_
  refine lv_iload_n C.1 C.2.1 dX10_becomes_16 rfl (lv_at hl 1 rfl) ?_
  refine lv_iload_n C.1 C.2.1 dX10_becomes_17 rfl (lv_at hl 2 rfl) ?_
  refine lv_iload_n C.1 C.2.1 dX10_becomes_18 rfl (lv_at hl 3 rfl) ?_
  refine ro_callV (As := [nV xn, nV yn, nV wn]) (rest := []) C hK (c_X10_become l g mo0 mA1 mA3 mA4 mA5 mA6 mA7 mA8 mA9 mA10 mA11 mA12 mA15 mA16 mA17 mA20 mL mAt kz dn mAb mBe mCl mtd bi mo xn yn wn (by first | assumption | omega) (by first | assumption | omega) (by first | assumption | omega) (by first | assumption | omega) (by first | assumption | omega) (by first | assumption | omega)) hP (ci := 8) (q0 := 0) rfl rfl kc_X10_become kl_X10_127 kn_X10 ki_X10_become ke_X10_become nk_X10_become (rm_lt (by decide) (by decide)) hl rfl (Nat.le_of_ble_eq_true rfl) dX10_becomes_19 (fun r_7 hr_8 => ?_)
  subst hr_8
  have hf_9 := tn_bd (bi) (mo) (xn) (yn) (wn) (by omega)
  refine r_goto 26 C dX10_becomes_22 rfl ?_
  exact ret dX10_becomes_26 (by unfold sBec; rw [if_pos (by omega)]; rfl)
set_option maxHeartbeats 4000000 in
set_option maxRecDepth 100000 in
theorem c_X10_isAble (l : Launch) (g : GG) (mo0 : Nat) (mA1 : Nat) (mA3 : Nat) (mA4 : Nat) (mA5 : Nat) (mA6 : Nat) (mA7 : Nat) (mA8 : Nat) (mA9 : Nat) (mA10 : Nat) (mA11 : Nat) (mA12 : Nat) (mA15 : Nat) (mA16 : Nat) (mA17 : Nat) (mA20 : Nat) (mL : Nat) (mAt : Nat) (kz : Nat) (dn : Nat) (mAb : Nat) (mBe : Nat) (mCl : Int) (mtd : Nat → Nat) (bi : Nat) (mo : Nat) (x : Nat) (w : Nat) (d : Nat) (b : Nat) (hb0 : mtd 0 = bi) (hb1 : mtd 1 = mo) (hbm : (1 ≤ bi ∧ bi ≤ 9) ∧ (1 ≤ mo ∧ mo ≤ 9)) (hx : x < 72) (hw : w < 72) (hd : d < 1000) (hb : b < 1000) : ROi g l yX10_isAble cX10_isAble 7 (some .boolean) 3 [(mo0, .inr (8, [nV mL, .ref mA1, nV mAt, .ref mA3, .ref mA4, .ref mA5, .ref mA6, .ref mA7, .ref mA8, .ref mA9, .ref mA10, .ref mA11, .ref mA12, nV kz, nV dn, .ref mA15, .ref mA16, .ref mA17, mV mAb, mV mBe, .ref mA20, zV mCl])), (mA3, cN g 4 mtd)] [.ref mo0, nV x, nV w, nV d, nV b] (fun r => r = bI (rc bi mo x b w (d + 1) = true)) := by
  refine ro_startZ (by decide +kernel) (Nat.le_of_ble_eq_true rfl) ?_
  intro p e s m args below meth c Q ls C hK hP ret hl
  have C : CT p s m args meth c cX10_isAble RX10 7 := C
  have hl : lv_has ls 7 [(0, .ref mo0), (1, nV x), (2, nV w), (3, nV d), (4, nV b)] := hl
  refine r_iconst 0 C dX10_isAble_0 rfl ?_
  refine lv_istore (lv' := [(5, nV 0), (0, .ref mo0), (1, nV x), (2, nV w), (3, nV d), (4, nV b)]) C.1 C.2.1 dX10_isAble_1 hl (by decide) rfl (fun ls hl => ?_)
  have L3 : ∀ (n_3 : Nat) (i : Nat) (ls : Array Slot) (hi : i ≤ d + 1) (hr : rc bi mo x b w i = false) (hm : d + 1 - i < n_3) (hl : lv_has ls 7 [(5, nV i), (0, .ref mo0), (1, nV x), (2, nV w), (3, nV d), (4, nV b)]), W p l e (rD 3) s m args below meth c s.heap [] 0 0 Q (F0 m 3 ls []) := by
    intro n_3
    induction n_3 with
    | zero => intro i ls hi hr hm hl; exact absurd hm (Nat.not_lt_zero _)
    | succ n_3 ih_3 =>
      intro i ls hi hr hm hl
      refine lv_iload C.1 C.2.1 dX10_isAble_3 (lv_at hl 0 rfl) ?_
      refine lv_iload_n C.1 C.2.1 dX10_isAble_5 rfl (lv_at hl 4 rfl) ?_
      refine r_cgt 46 C dX10_isAble_6 rfl ⟨rgN (by omega), rgN (by omega)⟩ (fun h_1 => ?_) (fun h_1 => ?_)
      · skip
        refine r_iconst 0 C dX10_isAble_46 rfl ?_
        exact ret dX10_isAble_47 (by decide) (bI_z (by rw [show d + 1 = i by omega, hr]; decide))
      refine r_iconst 0 C dX10_isAble_9 rfl ?_
      refine lv_istore (lv' := [(6, nV 0), (5, nV i), (0, .ref mo0), (1, nV x), (2, nV w), (3, nV d), (4, nV b)]) C.1 C.2.1 dX10_isAble_10 hl (by decide) rfl (fun ls hl => ?_)
      have L12 : ∀ (n_12 : Nat) (j : Nat) (ls : Array Slot) (hj : j ≤ b + 1) (hj2 : rj (ag bi mo x i) w j = false) (hm : b + 1 - j < n_12) (hl : lv_has ls 7 [(6, nV j), (5, nV i), (0, .ref mo0), (1, nV x), (2, nV w), (3, nV d), (4, nV b)]), W p l e (rD 3) s m args below meth c s.heap [] 0 0 Q (F0 m 12 ls []) := by
        intro n_12
        induction n_12 with
        | zero => intro j ls hj hj2 hm hl; exact absurd hm (Nat.not_lt_zero _)
        | succ n_12 ih_12 =>
          intro j ls hj hj2 hm hl
          refine lv_iload C.1 C.2.1 dX10_isAble_12 (lv_at hl 0 rfl) ?_
          refine lv_iload C.1 C.2.1 dX10_isAble_14 (lv_at hl 6 rfl) ?_
          refine r_cgt 40 C dX10_isAble_16 rfl ⟨rgN (by omega), rgN (by omega)⟩ (fun h_2 => ?_) (fun h_2 => ?_)
          · skip
            refine r_incN (k := 1) (n := 1) [(5, nV (i + 1)), (6, nV j), (0, .ref mo0), (1, nV x), (2, nV w), (3, nV d), (4, nV b)] C dX10_isAble_40 hl rfl rfl (by decide) rfl (fun ls hl => ?_)
            refine r_goto 3 C dX10_isAble_43 rfl ?_
            exact ih_3 (i + 1) _ (by first | assumption | omega) (by unfold rc; rw [hr, show b + 1 = j by omega, hj2]; rfl) (by omega) (lv_sub hl [0, 2, 3, 4, 5, 6] rfl)
          refine lv_aload_n C.1 C.2.1 dX10_isAble_19 rfl (lv_at hl 2 rfl) ?_
          refine lv_iload_n C.1 C.2.1 dX10_isAble_20 rfl (lv_at hl 3 rfl) ?_
          refine lv_iload C.1 C.2.1 dX10_isAble_21 (lv_at hl 1 rfl) ?_
          refine lv_iload C.1 C.2.1 dX10_isAble_23 (lv_at hl 0 rfl) ?_
          refine ro_callV (As := [nV x, nV i, nV j]) (rest := []) C hK (c_X10_become l g mo0 mA1 mA3 mA4 mA5 mA6 mA7 mA8 mA9 mA10 mA11 mA12 mA15 mA16 mA17 mA20 mL mAt kz dn mAb mBe mCl mtd bi mo x i j (by first | assumption | omega) (by first | assumption | omega) (by first | assumption | omega) (by first | assumption | omega) (by first | assumption | omega) (by first | assumption | omega)) hP (ci := 8) (q0 := 0) rfl rfl kc_X10_become kl_X10_127 kn_X10 ki_X10_become ke_X10_become nk_X10_become (rm_lt (by decide) (by decide)) hl rfl (Nat.le_of_ble_eq_true rfl) dX10_isAble_25 (fun r_3 hr_4 => ?_)
          subst hr_4
          have hf_5 := tn_bd (bi) (mo) (x) (i) (j) (by omega)
          refine lv_iload_n C.1 C.2.1 dX10_isAble_28 rfl (lv_at hl 4 rfl) ?_
          refine r_cne 34 C dX10_isAble_29 rfl ⟨rgN (by omega), rgN (by omega)⟩ (fun g1 => ?_) (fun g1 => ?_)
          · skip
            refine r_incN (k := 0) (n := 1) [(6, nV (j + 1)), (5, nV i), (0, .ref mo0), (1, nV x), (2, nV w), (3, nV d), (4, nV b)] C dX10_isAble_34 hl rfl rfl (by decide) rfl (fun ls hl => ?_)
            refine r_goto 12 C dX10_isAble_37 rfl ?_
            exact ih_12 (j + 1) _ (by first | assumption | omega) (by unfold rj; rw [hj2, decide_eq_false (fun q => g1 (by show ((tn bi mo x i j : Nat) : Int) = _; unfold tn; omega))]; rfl) (by omega) (lv_sub hl [0, 1, 2, 3, 4, 5, 6] rfl)
          refine r_iconst 1 C dX10_isAble_32 rfl ?_
          exact ret dX10_isAble_33 (by decide) (bI_1 (rc_true (i := i) (j := j) (by omega) (by omega) (by omega)))
      exact L12 (b + 1 - 0 + 1) 0 _ (by first | assumption | omega) (rfl) (Nat.lt_succ_self _) (lv_sub hl [0, 1, 2, 3, 4, 5, 6] rfl)
  exact L3 (d + 1 - 0 + 1) 0 _ (by first | assumption | omega) (rfl) (Nat.lt_succ_self _) (lv_sub hl [0, 1, 2, 3, 4, 5] rfl)
set_option maxHeartbeats 4000000 in
set_option maxRecDepth 100000 in
theorem c_X10_mayBe (l : Launch) (g : GG) (mo0 : Nat) (mA1 : Nat) (mA3 : Nat) (mA4 : Nat) (mA5 : Nat) (mA6 : Nat) (mA7 : Nat) (mA8 : Nat) (mA9 : Nat) (mA10 : Nat) (mA11 : Nat) (mA12 : Nat) (mA15 : Nat) (mA16 : Nat) (mA17 : Nat) (mA20 : Nat) (mL : Nat) (mAt : Nat) (kz : Nat) (dn : Nat) (mAb : Nat) (mBe : Nat) (mCl : Int) (mtd : Nat → Nat) (bi : Nat) (mo : Nat) (x : Int) (y : Int) (w : Int) (hb0 : mtd 0 = bi) (hb1 : mtd 1 = mo) (hbm : (1 ≤ bi ∧ bi ≤ 9) ∧ (1 ≤ mo ∧ mo ≤ 9)) (hx : rg x) (hy : rg y) (hw : rg w) : ROi g l yX10_mayBe cX10_mayBe 6 (some .int) 4 [(mo0, .inr (8, [nV mL, .ref mA1, nV mAt, .ref mA3, .ref mA4, .ref mA5, .ref mA6, .ref mA7, .ref mA8, .ref mA9, .ref mA10, .ref mA11, .ref mA12, nV kz, nV dn, .ref mA15, .ref mA16, .ref mA17, mV mAb, mV mBe, .ref mA20, zV mCl])), (mA3, cN g 4 mtd)] [.ref mo0, zV x, zV y, zV w] (fun r => r = iI (sMay bi mo x y w)) := by
  refine ro_startI (by decide +kernel) (Nat.le_of_ble_eq_true rfl) ?_
  intro p e s m args below meth c Q ls C hK hP ret hl
  have C : CT p s m args meth c cX10_mayBe RX10 6 := C
  have hl : lv_has ls 6 [(0, .ref mo0), (1, zV x), (2, zV y), (3, zV w)] := hl
  refine lv_iload_n C.1 C.2.1 dX10_mayBe_0 rfl (lv_at hl 1 rfl) ?_
  refine ro_callS (As := [zV x]) (rest := []) C hK (c_X10_isSign l g x (by first | assumption | exact ⟨by omega, by omega⟩)) (hP.sub (ws' := []) [] rfl) kc_X10_isSign kl_X10_159 kn_X10 ks_X10_isSign nk_X10_isSign (rm_lt (by decide) (by decide)) hl rfl (Nat.le_of_ble_eq_true rfl) dX10_mayBe_1 (fun r_1 hr_2 => ?_)
  subst hr_2
  refine r_beq 15 C dX10_mayBe_4 rfl (fun h_3 => ?_) (fun h_3 => ?_)
  · skip
    refine r_iconstZ C dX10_mayBe_15 ?_
    exact ret dX10_mayBe_16 (by unfold sMay; rw [if_neg (by omega)])
  refine lv_iload_n C.1 C.2.1 dX10_mayBe_7 rfl (lv_at hl 2 rfl) ?_
  refine lv_iload_n C.1 C.2.1 dX10_mayBe_8 rfl (lv_at hl 3 rfl) ?_
  refine ro_callS (As := [zV y, zV w]) (rest := []) C hK (c_X10_isSpan l g y w (by first | assumption | exact ⟨by omega, by omega⟩) (by first | assumption | exact ⟨by omega, by omega⟩)) (hP.sub (ws' := []) [] rfl) kc_X10_isSpan kl_X10_162 kn_X10 ks_X10_isSpan nk_X10_isSpan (rm_lt (by decide) (by decide)) hl rfl (Nat.le_of_ble_eq_true rfl) dX10_mayBe_9 (fun r_4 hr_5 => ?_)
  subst hr_5
  refine r_bne 17 C dX10_mayBe_12 rfl (fun h_6 => ?_) (fun h_6 => ?_)
  · skip
    obtain ⟨xn, rfl⟩ : ∃ n : Nat, x = (n : Int) := ⟨x.toNat, by omega⟩
    obtain ⟨yn, rfl⟩ : ∃ n : Nat, y = (n : Int) := ⟨y.toNat, by omega⟩
    obtain ⟨wn, rfl⟩ : ∃ n : Nat, w = (n : Int) := ⟨w.toNat, by omega⟩
    have hl : lv_has ls 6 [(0, .ref mo0), (1, nV xn), (2, nV yn), (3, nV wn)] := hl
    refine r_iconst 0 C dX10_mayBe_17 rfl ?_
    refine lv_istore (lv' := [(4, nV 0), (0, .ref mo0), (1, nV xn), (2, nV yn), (3, nV wn)]) C.1 C.2.1 dX10_mayBe_18 hl (by decide) rfl (fun ls hl => ?_)
    refine r_iconst 0 C dX10_mayBe_20 rfl ?_
    refine lv_istore (lv' := [(5, nV 0), (4, nV 0), (0, .ref mo0), (1, nV xn), (2, nV yn), (3, nV wn)]) C.1 C.2.1 dX10_mayBe_21 hl (by decide) rfl (fun ls hl => ?_)
    have L23 : ∀ (n_23 : Nat) (i : Nat) (f : Nat) (ls : Array Slot) (hi : i ≤ 72) (hf : f = ct (fun t => rc bi mo xn wn t (yn + 1)) i) (hm : 72 - i < n_23) (hl : lv_has ls 6 [(5, nV i), (4, nV f), (0, .ref mo0), (1, nV xn), (2, nV yn), (3, nV wn)]), W p l e (rD 4) s m args below meth c s.heap [] 0 0 Q (F0 m 23 ls []) := by
      intro n_23
      induction n_23 with
      | zero => intro i f ls hi hf hm hl; exact absurd hm (Nat.not_lt_zero _)
      | succ n_23 ih_23 =>
        intro i f ls hi hf hm hl
        refine lv_iload C.1 C.2.1 dX10_mayBe_23 (lv_at hl 0 rfl) ?_
        refine r_bipush 72 C dX10_mayBe_25 (by decide) ?_
        refine r_cge 58 C dX10_mayBe_27 rfl ⟨rgN (by omega), rgN (by decide)⟩ (fun h_7 => ?_) (fun h_7 => ?_)
        · skip
          refine lv_iload C.1 C.2.1 dX10_mayBe_58 (lv_at hl 1 rfl) ?_
          exact ret dX10_mayBe_60 (by unfold sMay; rw [if_pos (by omega)]; exact iI_cast (by rw [hf, show i = 72 by omega]; rfl))
        refine lv_iload C.1 C.2.1 dX10_mayBe_30 (lv_at hl 1 rfl) ?_
        refine lv_aload_n C.1 C.2.1 dX10_mayBe_32 rfl (lv_at hl 2 rfl) ?_
        refine lv_iload_n C.1 C.2.1 dX10_mayBe_33 rfl (lv_at hl 3 rfl) ?_
        refine lv_iload C.1 C.2.1 dX10_mayBe_34 (lv_at hl 0 rfl) ?_
        refine lv_iload_n C.1 C.2.1 dX10_mayBe_36 rfl (lv_at hl 4 rfl) ?_
        refine lv_iload_n C.1 C.2.1 dX10_mayBe_37 rfl (lv_at hl 5 rfl) ?_
        refine ro_callV (As := [nV xn, nV i, nV yn, nV wn]) (rest := [nV f]) C hK (c_X10_isAble l g mo0 mA1 mA3 mA4 mA5 mA6 mA7 mA8 mA9 mA10 mA11 mA12 mA15 mA16 mA17 mA20 mL mAt kz dn mAb mBe mCl mtd bi mo xn i yn wn (by first | assumption | omega) (by first | assumption | omega) (by first | assumption | omega) (by first | assumption | omega) (by first | assumption | omega) (by first | assumption | omega) (by first | assumption | omega)) hP (ci := 8) (q0 := 0) rfl rfl kc_X10_isAble kl_X10_166 kn_X10 ki_X10_isAble ke_X10_isAble nk_X10_isAble (rm_lt (by decide) (by decide)) hl rfl (Nat.le_of_ble_eq_true rfl) dX10_mayBe_38 (fun r_8 hr_9 => ?_)
        subst hr_9
        refine r_beq 48 C dX10_mayBe_41 rfl (fun g1 => ?_) (fun g1 => ?_)
        · skip
          refine r_iconst 0 C dX10_mayBe_48 rfl ?_
          refine r_addN C dX10_mayBe_49 ?_
          refine lv_istore (lv' := [(4, nV (f + 0)), (5, nV i), (0, .ref mo0), (1, nV xn), (2, nV yn), (3, nV wn)]) C.1 C.2.1 dX10_mayBe_50 hl (by decide) rfl (fun ls hl => ?_)
          refine r_incN (k := 1) (n := 1) [(5, nV (i + 1)), (4, nV (f + 0)), (0, .ref mo0), (1, nV xn), (2, nV yn), (3, nV wn)] C dX10_mayBe_52 hl rfl rfl (by decide) rfl (fun ls hl => ?_)
          refine r_goto 23 C dX10_mayBe_55 rfl ?_
          exact ih_23 (i + 1) (f + 0) _ (by first | assumption | omega) (by rw [hf]; show _ = ct (fun t => rc bi mo xn wn t (yn + 1)) i + (if rc bi mo xn wn i (yn + 1) = true then 1 else 0); rw [if_neg g1]) (by omega) (lv_sub hl [0, 1, 2, 3, 4, 5] rfl)
        refine r_iconst 1 C dX10_mayBe_44 rfl ?_
        refine r_goto 49 C dX10_mayBe_45 rfl ?_
        refine r_addN C dX10_mayBe_49 ?_
        refine lv_istore (lv' := [(4, nV (f + 1)), (5, nV i), (0, .ref mo0), (1, nV xn), (2, nV yn), (3, nV wn)]) C.1 C.2.1 dX10_mayBe_50 hl (by decide) rfl (fun ls hl => ?_)
        refine r_incN (k := 1) (n := 1) [(5, nV (i + 1)), (4, nV (f + 1)), (0, .ref mo0), (1, nV xn), (2, nV yn), (3, nV wn)] C dX10_mayBe_52 hl rfl rfl (by decide) rfl (fun ls hl => ?_)
        refine r_goto 23 C dX10_mayBe_55 rfl ?_
        exact ih_23 (i + 1) (f + 1) _ (by first | assumption | omega) (by rw [hf]; show _ = ct (fun t => rc bi mo xn wn t (yn + 1)) i + (if rc bi mo xn wn i (yn + 1) = true then 1 else 0); rw [if_pos g1]) (by omega) (lv_sub hl [0, 1, 2, 3, 4, 5] rfl)
    exact L23 (72 - 0 + 1) 0 0 _ (by first | assumption | omega) (rfl) (Nat.lt_succ_self _) (lv_sub hl [0, 1, 2, 3, 4, 5] rfl)
  refine r_iconstZ C dX10_mayBe_15 ?_
  exact ret dX10_mayBe_16 (by unfold sMay; rw [if_neg (by omega)])
set_option maxHeartbeats 4000000 in
set_option maxRecDepth 100000 in
theorem c_X10_can (l : Launch) (g : GG) (mo0 : Nat) (mA1 : Nat) (mA3 : Nat) (mA4 : Nat) (mA5 : Nat) (mA6 : Nat) (mA7 : Nat) (mA8 : Nat) (mA9 : Nat) (mA10 : Nat) (mA11 : Nat) (mA12 : Nat) (mA15 : Nat) (mA16 : Nat) (mA17 : Nat) (mA20 : Nat) (mL : Nat) (mAt : Nat) (kz : Nat) (dn : Nat) (mAb : Nat) (mBe : Nat) (mCl : Int) (mtd : Nat → Nat) (bi : Nat) (mo : Nat) (x : Int) (z : Int) (y : Int) (w : Int) (hb0 : mtd 0 = bi) (hb1 : mtd 1 = mo) (hbm : (1 ≤ bi ∧ bi ≤ 9) ∧ (1 ≤ mo ∧ mo ≤ 9)) (hx : rg x) (hz : rg z) (hy : rg y) (hw : rg w) : ROi g l yX10_can cX10_can 5 (some .int) 4 [(mo0, .inr (8, [nV mL, .ref mA1, nV mAt, .ref mA3, .ref mA4, .ref mA5, .ref mA6, .ref mA7, .ref mA8, .ref mA9, .ref mA10, .ref mA11, .ref mA12, nV kz, nV dn, .ref mA15, .ref mA16, .ref mA17, mV mAb, mV mBe, .ref mA20, zV mCl])), (mA3, cN g 4 mtd)] [.ref mo0, zV x, zV z, zV y, zV w] (fun r => r = iI (sCan bi mo x z y w)) := by
  refine ro_startI (by decide +kernel) (Nat.le_of_ble_eq_true rfl) ?_
  intro p e s m args below meth c Q ls C hK hP ret hl
  have C : CT p s m args meth c cX10_can RX10 5 := C
  have hl : lv_has ls 5 [(0, .ref mo0), (1, zV x), (2, zV z), (3, zV y), (4, zV w)] := hl
  refine lv_iload_n C.1 C.2.1 dX10_can_0 rfl (lv_at hl 1 rfl) ?_
  refine ro_callS (As := [zV x]) (rest := []) C hK (c_X10_isSign l g x (by first | assumption | exact ⟨by omega, by omega⟩)) (hP.sub (ws' := []) [] rfl) kc_X10_isSign kl_X10_159 kn_X10 ks_X10_isSign nk_X10_isSign (rm_lt (by decide) (by decide)) hl rfl (Nat.le_of_ble_eq_true rfl) dX10_can_1 (fun r_1 hr_2 => ?_)
  subst hr_2
  refine r_beq 23 C dX10_can_4 rfl (fun h_3 => ?_) (fun h_3 => ?_)
  · skip
    refine r_iconstZ C dX10_can_23 ?_
    refine r_goto 44 C dX10_can_24 rfl ?_
    exact ret dX10_can_44 (by unfold sCan; rw [if_neg (by omega)])
  refine lv_iload_n C.1 C.2.1 dX10_can_7 rfl (lv_at hl 2 rfl) ?_
  refine ro_callS (As := [zV z]) (rest := []) C hK (c_X10_isSign l g z (by first | assumption | exact ⟨by omega, by omega⟩)) (hP.sub (ws' := []) [] rfl) kc_X10_isSign kl_X10_159 kn_X10 ks_X10_isSign nk_X10_isSign (rm_lt (by decide) (by decide)) hl rfl (Nat.le_of_ble_eq_true rfl) dX10_can_8 (fun r_4 hr_5 => ?_)
  subst hr_5
  refine r_beq 23 C dX10_can_11 rfl (fun h_6 => ?_) (fun h_6 => ?_)
  · skip
    refine r_iconstZ C dX10_can_23 ?_
    refine r_goto 44 C dX10_can_24 rfl ?_
    exact ret dX10_can_44 (by unfold sCan; rw [if_neg (by omega)])
  refine lv_iload_n C.1 C.2.1 dX10_can_14 rfl (lv_at hl 3 rfl) ?_
  refine lv_iload C.1 C.2.1 dX10_can_15 (lv_at hl 4 rfl) ?_
  refine ro_callS (As := [zV y, zV w]) (rest := []) C hK (c_X10_isSpan l g y w (by first | assumption | exact ⟨by omega, by omega⟩) (by first | assumption | exact ⟨by omega, by omega⟩)) (hP.sub (ws' := []) [] rfl) kc_X10_isSpan kl_X10_162 kn_X10 ks_X10_isSpan nk_X10_isSpan (rm_lt (by decide) (by decide)) hl rfl (Nat.le_of_ble_eq_true rfl) dX10_can_17 (fun r_7 hr_8 => ?_)
  subst hr_8
  refine r_bne 27 C dX10_can_20 rfl (fun h_9 => ?_) (fun h_9 => ?_)
  · skip
    obtain ⟨xn, rfl⟩ : ∃ n : Nat, x = (n : Int) := ⟨x.toNat, by omega⟩
    obtain ⟨zn, rfl⟩ : ∃ n : Nat, z = (n : Int) := ⟨z.toNat, by omega⟩
    obtain ⟨yn, rfl⟩ : ∃ n : Nat, y = (n : Int) := ⟨y.toNat, by omega⟩
    obtain ⟨wn, rfl⟩ : ∃ n : Nat, w = (n : Int) := ⟨w.toNat, by omega⟩
    have hl : lv_has ls 5 [(0, .ref mo0), (1, nV xn), (2, nV zn), (3, nV yn), (4, nV wn)] := hl
    refine lv_aload_n C.1 C.2.1 dX10_can_27 rfl (lv_at hl 0 rfl) ?_
    refine lv_iload_n C.1 C.2.1 dX10_can_28 rfl (lv_at hl 1 rfl) ?_
    refine lv_iload_n C.1 C.2.1 dX10_can_29 rfl (lv_at hl 2 rfl) ?_
    refine lv_iload_n C.1 C.2.1 dX10_can_30 rfl (lv_at hl 3 rfl) ?_
    refine lv_iload C.1 C.2.1 dX10_can_31 (lv_at hl 4 rfl) ?_
    refine ro_callV (As := [nV xn, nV zn, nV yn, nV wn]) (rest := []) C hK (c_X10_isAble l g mo0 mA1 mA3 mA4 mA5 mA6 mA7 mA8 mA9 mA10 mA11 mA12 mA15 mA16 mA17 mA20 mL mAt kz dn mAb mBe mCl mtd bi mo xn zn yn wn (by first | assumption | omega) (by first | assumption | omega) (by first | assumption | omega) (by first | assumption | omega) (by first | assumption | omega) (by first | assumption | omega) (by first | assumption | omega)) hP (ci := 8) (q0 := 0) rfl rfl kc_X10_isAble kl_X10_166 kn_X10 ki_X10_isAble ke_X10_isAble nk_X10_isAble (rm_lt (by decide) (by decide)) hl rfl (Nat.le_of_ble_eq_true rfl) dX10_can_33 (fun r_10 hr_11 => ?_)
    subst hr_11
    refine r_beq 43 C dX10_can_36 rfl (fun g1 => ?_) (fun g1 => ?_)
    · skip
      refine r_iconst 0 C dX10_can_43 rfl ?_
      exact ret dX10_can_44 (by unfold sCan; rw [if_pos (by omega)]; exact iI_cast (by show _ = (if rc bi mo xn wn zn (yn + 1) = true then (1 : Int) else 0); first | (rw [if_pos g1]; rfl) | (rw [if_neg g1]; rfl)))
    refine r_iconst 1 C dX10_can_39 rfl ?_
    refine r_goto 44 C dX10_can_40 rfl ?_
    exact ret dX10_can_44 (by unfold sCan; rw [if_pos (by omega)]; exact iI_cast (by show _ = (if rc bi mo xn wn zn (yn + 1) = true then (1 : Int) else 0); first | (rw [if_pos g1]; rfl) | (rw [if_neg g1]; rfl)))
  refine r_iconstZ C dX10_can_23 ?_
  refine r_goto 44 C dX10_can_24 rfl ?_
  exact ret dX10_can_44 (by unfold sCan; rw [if_neg (by omega)])
set_option maxHeartbeats 4000000 in
set_option maxRecDepth 100000 in
theorem c_X10_was (l : Launch) (g : GG) (mo0 : Nat) (mA1 : Nat) (mA3 : Nat) (mA4 : Nat) (mA5 : Nat) (mA6 : Nat) (mA7 : Nat) (mA8 : Nat) (mA9 : Nat) (mA10 : Nat) (mA11 : Nat) (mA12 : Nat) (mA15 : Nat) (mA16 : Nat) (mA17 : Nat) (mA20 : Nat) (mL : Nat) (mAt : Nat) (kz : Nat) (dn : Nat) (mAb : Nat) (mBe : Nat) (mCl : Int) (mtd : Nat → Nat) (mws : Nat → Nat) (mwd : Nat → Nat) (sg : Nat → Nat) (k : Nat) (bi : Nat) (mo : Nat) (x : Int) (y : Int) (w : Int) (hk0 : mws 0 = k) (hk : k ≤ 8) (hsg : ∀ j, sg j < 72) (hwd : ∀ j, j < k → mwd (2 * j) = sg j) (hb0 : mtd 0 = bi) (hb1 : mtd 1 = mo) (hbm : (1 ≤ bi ∧ bi ≤ 9) ∧ (1 ≤ mo ∧ mo ≤ 9)) (hx : rg x) (hy : rg y) (hw : rg w) : ROi g l yX10_was cX10_was 6 (some .int) 4 [(mo0, .inr (8, [nV mL, .ref mA1, nV mAt, .ref mA3, .ref mA4, .ref mA5, .ref mA6, .ref mA7, .ref mA8, .ref mA9, .ref mA10, .ref mA11, .ref mA12, nV kz, nV dn, .ref mA15, .ref mA16, .ref mA17, mV mAb, mV mBe, .ref mA20, zV mCl])), (mA3, cN g 4 mtd), (mA4, cN g 2 mws), (mA5, cN g 32 mwd)] [.ref mo0, zV x, zV y, zV w] (fun r => r = sWas sg k bi mo x y w) := by
  refine ro_startI (by decide +kernel) (Nat.le_of_ble_eq_true rfl) ?_
  intro p e s m args below meth c Q ls C hK hP ret hl
  have C : CT p s m args meth c cX10_was RX10 6 := C
  have hl : lv_has ls 6 [(0, .ref mo0), (1, zV x), (2, zV y), (3, zV w)] := hl
  refine lv_iload_n C.1 C.2.1 dX10_was_0 rfl (lv_at hl 1 rfl) ?_
  refine ro_callS (As := [zV x]) (rest := []) C hK (c_X10_isSign l g x (by first | assumption | exact ⟨by omega, by omega⟩)) (hP.sub (ws' := []) [] rfl) kc_X10_isSign kl_X10_159 kn_X10 ks_X10_isSign nk_X10_isSign (rm_lt (by decide) (by decide)) hl rfl (Nat.le_of_ble_eq_true rfl) dX10_was_1 (fun r_1 hr_2 => ?_)
  subst hr_2
  refine r_beq 15 C dX10_was_4 rfl (fun h_3 => ?_) (fun h_3 => ?_)
  · skip
    refine r_iconstZ C dX10_was_15 ?_
    exact ret dX10_was_16 (by unfold sWas; rw [if_neg (by omega)])
  refine lv_iload_n C.1 C.2.1 dX10_was_7 rfl (lv_at hl 2 rfl) ?_
  refine lv_iload_n C.1 C.2.1 dX10_was_8 rfl (lv_at hl 3 rfl) ?_
  refine ro_callS (As := [zV y, zV w]) (rest := []) C hK (c_X10_isSpan l g y w (by first | assumption | exact ⟨by omega, by omega⟩) (by first | assumption | exact ⟨by omega, by omega⟩)) (hP.sub (ws' := []) [] rfl) kc_X10_isSpan kl_X10_162 kn_X10 ks_X10_isSpan nk_X10_isSpan (rm_lt (by decide) (by decide)) hl rfl (Nat.le_of_ble_eq_true rfl) dX10_was_9 (fun r_4 hr_5 => ?_)
  subst hr_5
  refine r_bne 17 C dX10_was_12 rfl (fun h_6 => ?_) (fun h_6 => ?_)
  · skip
    obtain ⟨xn, rfl⟩ : ∃ n : Nat, x = (n : Int) := ⟨x.toNat, by omega⟩
    obtain ⟨yn, rfl⟩ : ∃ n : Nat, y = (n : Int) := ⟨y.toNat, by omega⟩
    obtain ⟨wn, rfl⟩ : ∃ n : Nat, w = (n : Int) := ⟨w.toNat, by omega⟩
    have hl : lv_has ls 6 [(0, .ref mo0), (1, nV xn), (2, nV yn), (3, nV wn)] := hl
    refine r_iconst 0 C dX10_was_17 rfl ?_
    refine lv_istore (lv' := [(4, nV 0), (0, .ref mo0), (1, nV xn), (2, nV yn), (3, nV wn)]) C.1 C.2.1 dX10_was_18 hl (by decide) rfl (fun ls hl => ?_)
    refine r_iconst 0 C dX10_was_20 rfl ?_
    refine lv_istore (lv' := [(5, nV 0), (4, nV 0), (0, .ref mo0), (1, nV xn), (2, nV yn), (3, nV wn)]) C.1 C.2.1 dX10_was_21 hl (by decide) rfl (fun ls hl => ?_)
    have L23 : ∀ (n_23 : Nat) (i : Nat) (tt : Int32) (ls : Array Slot) (hi : i ≤ k) (ht : tt = bset (fun w => rc bi mo (sg w) wn xn (yn + 1)) i) (hm : k - i < n_23) (hl : lv_has ls 6 [(5, nV i), (4, .int tt), (0, .ref mo0), (1, nV xn), (2, nV yn), (3, nV wn)]), W p l e (rD 4) s m args below meth c s.heap [] 0 0 Q (F0 m 23 ls []) := by
      intro n_23
      induction n_23 with
      | zero => intro i tt ls hi ht hm hl; exact absurd hm (Nat.not_lt_zero _)
      | succ n_23 ih_23 =>
        intro i tt ls hi ht hm hl
        refine lv_iload C.1 C.2.1 dX10_was_23 (lv_at hl 0 rfl) ?_
        refine lv_aload_n C.1 C.2.1 dX10_was_25 rfl (lv_at hl 2 rfl) ?_
        refine r_get C hK hP kw_X10 (ci := 8) rfl 0 4 (by decide) kf_X10_17 rfl rfl dX10_was_26 ?_
        refine r_iconst 0 C dX10_was_29 rfl ?_
        refine r_aldN C hK hP 2 rfl ⟨by omega, by omega⟩ dX10_was_30 ?_
        refine r_top (v' := nV k) (by rw [hk0]) ?_
        refine r_cge 72 C dX10_was_31 rfl ⟨rgN (by omega), rgN (by omega)⟩ (fun h_7 => ?_) (fun h_7 => ?_)
        · skip
          refine lv_iload C.1 C.2.1 dX10_was_72 (lv_at hl 1 rfl) ?_
          exact ret dX10_was_74 (by unfold sWas; rw [if_pos (by omega), ht, show i = k by omega]; rfl)
        refine lv_iload C.1 C.2.1 dX10_was_34 (lv_at hl 1 rfl) ?_
        refine lv_aload_n C.1 C.2.1 dX10_was_36 rfl (lv_at hl 2 rfl) ?_
        refine lv_aload_n C.1 C.2.1 dX10_was_37 rfl (lv_at hl 2 rfl) ?_
        refine r_get C hK hP kw_X10 (ci := 8) rfl 0 5 (by decide) kf_X10_20 rfl rfl dX10_was_38 ?_
        refine r_iconst 2 C dX10_was_41 rfl ?_
        refine lv_iload C.1 C.2.1 dX10_was_42 (lv_at hl 0 rfl) ?_
        refine r_mulN C dX10_was_44 ?_
        refine r_aldN C hK hP 3 rfl ⟨by omega, by omega⟩ dX10_was_45 ?_
        refine r_top (v' := nV (sg i)) (by rw [hwd i (by omega)]) ?_
        have hf_8 := hsg i
        refine lv_iload_n C.1 C.2.1 dX10_was_46 rfl (lv_at hl 3 rfl) ?_
        refine lv_iload_n C.1 C.2.1 dX10_was_47 rfl (lv_at hl 4 rfl) ?_
        refine lv_iload_n C.1 C.2.1 dX10_was_48 rfl (lv_at hl 5 rfl) ?_
        refine ro_callV (As := [nV (sg i), nV xn, nV yn, nV wn]) (rest := [.int tt]) C hK (c_X10_isAble l g mo0 mA1 mA3 mA4 mA5 mA6 mA7 mA8 mA9 mA10 mA11 mA12 mA15 mA16 mA17 mA20 mL mAt kz dn mAb mBe mCl mtd bi mo (sg i) xn yn wn (by first | assumption | omega) (by first | assumption | omega) (by first | assumption | omega) (by first | assumption | omega) (by first | assumption | omega) (by first | assumption | omega) (by first | assumption | omega)) (hP.sub (ws' := [(mo0, .inr (8, [nV mL, .ref mA1, nV mAt, .ref mA3, .ref mA4, .ref mA5, .ref mA6, .ref mA7, .ref mA8, .ref mA9, .ref mA10, .ref mA11, .ref mA12, nV kz, nV dn, .ref mA15, .ref mA16, .ref mA17, mV mAb, mV mBe, .ref mA20, zV mCl])), (mA3, cN g 4 mtd)]) [0, 1] rfl) (ci := 8) (q0 := 0) rfl rfl kc_X10_isAble kl_X10_166 kn_X10 ki_X10_isAble ke_X10_isAble nk_X10_isAble (rm_lt (by decide) (by decide)) hl rfl (Nat.le_of_ble_eq_true rfl) dX10_was_49 (fun r_9 hr_10 => ?_)
        subst hr_10
        refine r_beq 62 C dX10_was_52 rfl (fun g1 => ?_) (fun g1 => ?_)
        · skip
          refine r_iconst 0 C dX10_was_62 rfl ?_
          refine lv_ior C.1 C.2.1 dX10_was_63 ?_
          refine lv_istore (lv' := [(4, .int (tt ||| (iI ((0 : Nat) : Int)))), (5, nV i), (0, .ref mo0), (1, nV xn), (2, nV yn), (3, nV wn)]) C.1 C.2.1 dX10_was_64 hl (by decide) rfl (fun ls hl => ?_)
          refine r_incN (k := 1) (n := 1) [(5, nV (i + 1)), (4, .int (tt ||| (iI ((0 : Nat) : Int)))), (0, .ref mo0), (1, nV xn), (2, nV yn), (3, nV wn)] C dX10_was_66 hl rfl rfl (by decide) rfl (fun ls hl => ?_)
          refine r_goto 23 C dX10_was_69 rfl ?_
          exact ih_23 (i + 1) (tt ||| (iI ((0 : Nat) : Int))) _ (by first | assumption | omega) (by rw [ht]; show _ = (if rc bi mo (sg i) wn xn (yn + 1) = true then _ else _); first | (rw [if_pos g1]; done) | (rw [if_neg g1]; exact or_0 _)) (by omega) (lv_sub hl [0, 1, 2, 3, 4, 5] rfl)
        refine r_iconst 1 C dX10_was_55 rfl ?_
        refine lv_iload C.1 C.2.1 dX10_was_56 (lv_at hl 0 rfl) ?_
        refine lv_ishl C.1 C.2.1 dX10_was_58 ?_
        refine r_goto 63 C dX10_was_59 rfl ?_
        refine lv_ior C.1 C.2.1 dX10_was_63 ?_
        refine lv_istore (lv' := [(4, .int (tt ||| ((iI ((1 : Nat) : Int)) <<< ((iI ((i : Nat) : Int)) &&& 31)))), (5, nV i), (0, .ref mo0), (1, nV xn), (2, nV yn), (3, nV wn)]) C.1 C.2.1 dX10_was_64 hl (by decide) rfl (fun ls hl => ?_)
        refine r_incN (k := 1) (n := 1) [(5, nV (i + 1)), (4, .int (tt ||| ((iI ((1 : Nat) : Int)) <<< ((iI ((i : Nat) : Int)) &&& 31)))), (0, .ref mo0), (1, nV xn), (2, nV yn), (3, nV wn)] C dX10_was_66 hl rfl rfl (by decide) rfl (fun ls hl => ?_)
        refine r_goto 23 C dX10_was_69 rfl ?_
        exact ih_23 (i + 1) (tt ||| ((iI ((1 : Nat) : Int)) <<< ((iI ((i : Nat) : Int)) &&& 31))) _ (by first | assumption | omega) (by rw [ht]; show _ = (if rc bi mo (sg i) wn xn (yn + 1) = true then _ else _); first | (rw [if_pos g1]; done) | (rw [if_neg g1]; exact or_0 _)) (by omega) (lv_sub hl [0, 1, 2, 3, 4, 5] rfl)
    exact L23 (k - 0 + 1) 0 (iI ((0 : Nat) : Int)) _ (by first | assumption | omega) (rfl) (Nat.lt_succ_self _) (lv_sub hl [0, 1, 2, 3, 4, 5] rfl)
  refine r_iconstZ C dX10_was_15 ?_
  exact ret dX10_was_16 (by unfold sWas; rw [if_neg (by omega)])
set_option maxHeartbeats 4000000 in
set_option maxRecDepth 100000 in
theorem c_X10_half (l : Launch) (g : GG) (mo0 : Nat) (mA1 : Nat) (mA3 : Nat) (mA4 : Nat) (mA5 : Nat) (mA6 : Nat) (mA7 : Nat) (mA8 : Nat) (mA9 : Nat) (mA10 : Nat) (mA11 : Nat) (mA12 : Nat) (mA15 : Nat) (mA16 : Nat) (mA17 : Nat) (mA20 : Nat) (mL : Nat) (mAt : Nat) (kz : Nat) (dn : Nat) (mAb : Nat) (mBe : Nat) (mCl : Int) (mws : Nat → Nat) (mwd : Nat → Nat) (sg : Nat → Nat) (k : Nat) (x : Int) (y : Int) (w : Int) (hk0 : mws 0 = k) (hk : k ≤ 8) (hsg : ∀ j, sg j < 72) (hwd : ∀ j, j < k → mwd (2 * j) = sg j) (hx : rg x) (hy : rg y) (hw : rg w) : ROi g l yX10_half cX10_half 7 (some .int) 4 [(mo0, .inr (8, [nV mL, .ref mA1, nV mAt, .ref mA3, .ref mA4, .ref mA5, .ref mA6, .ref mA7, .ref mA8, .ref mA9, .ref mA10, .ref mA11, .ref mA12, nV kz, nV dn, .ref mA15, .ref mA16, .ref mA17, mV mAb, mV mBe, .ref mA20, zV mCl])), (mA4, cN g 2 mws), (mA5, cN g 32 mwd)] [.ref mo0, zV x, zV y, zV w] (fun r => r = sHalf sg k x y w) := by
  refine ro_startI (by decide +kernel) (Nat.le_of_ble_eq_true rfl) ?_
  intro p e s m args below meth c Q ls C hK hP ret hl
  have C : CT p s m args meth c cX10_half RX10 7 := C
  have hl : lv_has ls 7 [(0, .ref mo0), (1, zV x), (2, zV y), (3, zV w)] := hl
  refine lv_iload_n C.1 C.2.1 dX10_half_0 rfl (lv_at hl 1 rfl) ?_
  refine r_i2l C dX10_half_1 (⟨by omega, by omega⟩) ?_
  refine r_lconst 0 C dX10_half_2 rfl ?_
  refine r_ldc2N 5 C kv_X10_153 dX10_half_3 rfl ?_
  refine ro_callS (As := [jV x, mV 0, mV 5]) (rest := []) C hK (c_X10_in l g x ((0 : Nat) : Int) ((5 : Nat) : Int) (by first | assumption | exact ⟨by omega, by omega⟩) (by first | assumption | exact ⟨by omega, by omega⟩) (by first | assumption | exact ⟨by omega, by omega⟩)) (hP.sub (ws' := []) [] rfl) kc_X10_in kl_X10_65 kn_X10 ks_X10_in nk_X10_in (rm_lt (by decide) (by decide)) hl rfl (Nat.le_of_ble_eq_true rfl) dX10_half_6 (fun r_1 hr_2 => ?_)
  subst hr_2
  refine r_beq 36 C dX10_half_9 rfl (fun h_3 => ?_) (fun h_3 => ?_)
  · skip
    refine r_iconstZ C dX10_half_36 ?_
    exact ret dX10_half_37 (by unfold sHalf; rw [if_neg (by omega)])
  refine lv_iload_n C.1 C.2.1 dX10_half_12 rfl (lv_at hl 2 rfl) ?_
  refine r_i2l C dX10_half_13 (⟨by omega, by omega⟩) ?_
  refine r_lconst 0 C dX10_half_14 rfl ?_
  refine r_ldc2N 3 C kv_X10_131 dX10_half_15 rfl ?_
  refine ro_callS (As := [jV y, mV 0, mV 3]) (rest := []) C hK (c_X10_in l g y ((0 : Nat) : Int) ((3 : Nat) : Int) (by first | assumption | exact ⟨by omega, by omega⟩) (by first | assumption | exact ⟨by omega, by omega⟩) (by first | assumption | exact ⟨by omega, by omega⟩)) (hP.sub (ws' := []) [] rfl) kc_X10_in kl_X10_65 kn_X10 ks_X10_in nk_X10_in (rm_lt (by decide) (by decide)) hl rfl (Nat.le_of_ble_eq_true rfl) dX10_half_18 (fun r_4 hr_5 => ?_)
  subst hr_5
  refine r_beq 36 C dX10_half_21 rfl (fun h_6 => ?_) (fun h_6 => ?_)
  · skip
    refine r_iconstZ C dX10_half_36 ?_
    exact ret dX10_half_37 (by unfold sHalf; rw [if_neg (by omega)])
  refine lv_iload_n C.1 C.2.1 dX10_half_24 rfl (lv_at hl 3 rfl) ?_
  refine r_i2l C dX10_half_25 (⟨by omega, by omega⟩) ?_
  refine r_lconst 0 C dX10_half_26 rfl ?_
  refine r_ldc2N 2 C kv_X10_80 dX10_half_27 rfl ?_
  refine ro_callS (As := [jV w, mV 0, mV 2]) (rest := []) C hK (c_X10_in l g w ((0 : Nat) : Int) ((2 : Nat) : Int) (by first | assumption | exact ⟨by omega, by omega⟩) (by first | assumption | exact ⟨by omega, by omega⟩) (by first | assumption | exact ⟨by omega, by omega⟩)) (hP.sub (ws' := []) [] rfl) kc_X10_in kl_X10_65 kn_X10 ks_X10_in nk_X10_in (rm_lt (by decide) (by decide)) hl rfl (Nat.le_of_ble_eq_true rfl) dX10_half_30 (fun r_7 hr_8 => ?_)
  subst hr_8
  refine r_bne 38 C dX10_half_33 rfl (fun h_9 => ?_) (fun h_9 => ?_)
  · skip
    obtain ⟨xn, rfl⟩ : ∃ n : Nat, x = (n : Int) := ⟨x.toNat, by omega⟩
    obtain ⟨yn, rfl⟩ : ∃ n : Nat, y = (n : Int) := ⟨y.toNat, by omega⟩
    obtain ⟨wn, rfl⟩ : ∃ n : Nat, w = (n : Int) := ⟨w.toNat, by omega⟩
    have hl : lv_has ls 7 [(0, .ref mo0), (1, nV xn), (2, nV yn), (3, nV wn)] := hl
    refine r_iconst 0 C dX10_half_38 rfl ?_
    refine lv_istore (lv' := [(4, nV 0), (0, .ref mo0), (1, nV xn), (2, nV yn), (3, nV wn)]) C.1 C.2.1 dX10_half_39 hl (by decide) rfl (fun ls hl => ?_)
    refine r_iconst 0 C dX10_half_41 rfl ?_
    refine lv_istore (lv' := [(5, nV 0), (4, nV 0), (0, .ref mo0), (1, nV xn), (2, nV yn), (3, nV wn)]) C.1 C.2.1 dX10_half_42 hl (by decide) rfl (fun ls hl => ?_)
    have L44 : ∀ (n_44 : Nat) (i : Nat) (t : Int32) (ls : Array Slot) (hi : i ≤ k) (ht : t = bset (fun w => decide (xn ≤ sg w % 6 ∧ yn ≤ sg w / 6 % 4 ∧ sg w / 24 = wn)) i) (hm : k - i < n_44) (hl : lv_has ls 7 [(5, nV i), (4, .int t), (0, .ref mo0), (1, nV xn), (2, nV yn), (3, nV wn)]), W p l e (rD 4) s m args below meth c s.heap [] 0 0 Q (F0 m 44 ls []) := by
      intro n_44
      induction n_44 with
      | zero => intro i t ls hi ht hm hl; exact absurd hm (Nat.not_lt_zero _)
      | succ n_44 ih_44 =>
        intro i t ls hi ht hm hl
        refine lv_iload C.1 C.2.1 dX10_half_44 (lv_at hl 0 rfl) ?_
        refine lv_aload_n C.1 C.2.1 dX10_half_46 rfl (lv_at hl 2 rfl) ?_
        refine r_get C hK hP kw_X10 (ci := 8) rfl 0 4 (by decide) kf_X10_17 rfl rfl dX10_half_47 ?_
        refine r_iconst 0 C dX10_half_50 rfl ?_
        refine r_aldN C hK hP 1 rfl ⟨by omega, by omega⟩ dX10_half_51 ?_
        refine r_top (v' := nV k) (by rw [hk0]) ?_
        refine r_cge 114 C dX10_half_52 rfl ⟨rgN (by omega), rgN (by omega)⟩ (fun h_10 => ?_) (fun h_10 => ?_)
        · skip
          refine lv_iload C.1 C.2.1 dX10_half_114 (lv_at hl 1 rfl) ?_
          exact ret dX10_half_116 (by unfold sHalf; rw [if_pos (by omega), ht, show i = k by omega]; rfl)
        refine lv_aload_n C.1 C.2.1 dX10_half_55 rfl (lv_at hl 2 rfl) ?_
        refine r_get C hK hP kw_X10 (ci := 8) rfl 0 5 (by decide) kf_X10_20 rfl rfl dX10_half_56 ?_
        refine r_iconst 2 C dX10_half_59 rfl ?_
        refine lv_iload C.1 C.2.1 dX10_half_60 (lv_at hl 0 rfl) ?_
        refine r_mulN C dX10_half_62 ?_
        refine r_aldN C hK hP 2 rfl ⟨by omega, by omega⟩ dX10_half_63 ?_
        refine r_top (v' := nV (sg i)) (by rw [hwd i (by omega)]) ?_
        have hf_11 := hsg i
        refine lv_istore (lv' := [(6, nV (sg i)), (5, nV i), (4, .int t), (0, .ref mo0), (1, nV xn), (2, nV yn), (3, nV wn)]) C.1 C.2.1 dX10_half_64 hl (by decide) rfl (fun ls hl => ?_)
        refine lv_iload C.1 C.2.1 dX10_half_66 (lv_at hl 2 rfl) ?_
        refine lv_iload C.1 C.2.1 dX10_half_68 (lv_at hl 0 rfl) ?_
        refine r_bipush 6 C dX10_half_70 (by decide) ?_
        refine r_remN C dX10_half_72 (by omega) (by decide) ?_
        refine lv_iload_n C.1 C.2.1 dX10_half_73 rfl (lv_at hl 4 rfl) ?_
        refine r_clt 104 C dX10_half_74 rfl ⟨rgN (by omega), rgN (by omega)⟩ (fun h_12 => ?_) (fun h_12 => ?_)
        · skip
          refine r_iconst 0 C dX10_half_104 rfl ?_
          refine lv_ior C.1 C.2.1 dX10_half_105 ?_
          refine lv_istore (lv' := [(4, .int (t ||| (iI ((0 : Nat) : Int)))), (6, nV (sg i)), (5, nV i), (0, .ref mo0), (1, nV xn), (2, nV yn), (3, nV wn)]) C.1 C.2.1 dX10_half_106 hl (by decide) rfl (fun ls hl => ?_)
          refine r_incN (k := 2) (n := 1) [(5, nV (i + 1)), (4, .int (t ||| (iI ((0 : Nat) : Int)))), (6, nV (sg i)), (0, .ref mo0), (1, nV xn), (2, nV yn), (3, nV wn)] C dX10_half_108 hl rfl rfl (by decide) rfl (fun ls hl => ?_)
          refine r_goto 44 C dX10_half_111 rfl ?_
          exact ih_44 (i + 1) (t ||| (iI ((0 : Nat) : Int))) _ (by first | assumption | omega) (by rw [ht]; show _ = (if decide (xn ≤ sg i % 6 ∧ yn ≤ sg i / 6 % 4 ∧ sg i / 24 = wn) = true then _ else _); first | (rw [if_pos (decide_eq_true ⟨by omega, by omega, by omega⟩)]; done) | (rw [if_neg (by simp; omega)]; exact or_0 _)) (by omega) (lv_sub hl [0, 1, 3, 4, 5, 6] rfl)
        refine lv_iload C.1 C.2.1 dX10_half_77 (lv_at hl 0 rfl) ?_
        refine r_bipush 6 C dX10_half_79 (by decide) ?_
        refine r_divN C dX10_half_81 (by omega) (by decide) ?_
        refine r_iconst 4 C dX10_half_82 rfl ?_
        refine r_remN C dX10_half_83 (by omega) (by decide) ?_
        refine lv_iload_n C.1 C.2.1 dX10_half_84 rfl (lv_at hl 5 rfl) ?_
        refine r_clt 104 C dX10_half_85 rfl ⟨rgN (by omega), rgN (by omega)⟩ (fun h_13 => ?_) (fun h_13 => ?_)
        · skip
          refine r_iconst 0 C dX10_half_104 rfl ?_
          refine lv_ior C.1 C.2.1 dX10_half_105 ?_
          refine lv_istore (lv' := [(4, .int (t ||| (iI ((0 : Nat) : Int)))), (6, nV (sg i)), (5, nV i), (0, .ref mo0), (1, nV xn), (2, nV yn), (3, nV wn)]) C.1 C.2.1 dX10_half_106 hl (by decide) rfl (fun ls hl => ?_)
          refine r_incN (k := 2) (n := 1) [(5, nV (i + 1)), (4, .int (t ||| (iI ((0 : Nat) : Int)))), (6, nV (sg i)), (0, .ref mo0), (1, nV xn), (2, nV yn), (3, nV wn)] C dX10_half_108 hl rfl rfl (by decide) rfl (fun ls hl => ?_)
          refine r_goto 44 C dX10_half_111 rfl ?_
          exact ih_44 (i + 1) (t ||| (iI ((0 : Nat) : Int))) _ (by first | assumption | omega) (by rw [ht]; show _ = (if decide (xn ≤ sg i % 6 ∧ yn ≤ sg i / 6 % 4 ∧ sg i / 24 = wn) = true then _ else _); first | (rw [if_pos (decide_eq_true ⟨by omega, by omega, by omega⟩)]; done) | (rw [if_neg (by simp; omega)]; exact or_0 _)) (by omega) (lv_sub hl [0, 1, 3, 4, 5, 6] rfl)
        refine lv_iload C.1 C.2.1 dX10_half_88 (lv_at hl 0 rfl) ?_
        refine r_bipush 24 C dX10_half_90 (by decide) ?_
        refine r_divN C dX10_half_92 (by omega) (by decide) ?_
        refine lv_iload_n C.1 C.2.1 dX10_half_93 rfl (lv_at hl 6 rfl) ?_
        refine r_cne 104 C dX10_half_94 rfl ⟨rgN (by omega), rgN (by omega)⟩ (fun h_14 => ?_) (fun h_14 => ?_)
        · skip
          refine r_iconst 0 C dX10_half_104 rfl ?_
          refine lv_ior C.1 C.2.1 dX10_half_105 ?_
          refine lv_istore (lv' := [(4, .int (t ||| (iI ((0 : Nat) : Int)))), (6, nV (sg i)), (5, nV i), (0, .ref mo0), (1, nV xn), (2, nV yn), (3, nV wn)]) C.1 C.2.1 dX10_half_106 hl (by decide) rfl (fun ls hl => ?_)
          refine r_incN (k := 2) (n := 1) [(5, nV (i + 1)), (4, .int (t ||| (iI ((0 : Nat) : Int)))), (6, nV (sg i)), (0, .ref mo0), (1, nV xn), (2, nV yn), (3, nV wn)] C dX10_half_108 hl rfl rfl (by decide) rfl (fun ls hl => ?_)
          refine r_goto 44 C dX10_half_111 rfl ?_
          exact ih_44 (i + 1) (t ||| (iI ((0 : Nat) : Int))) _ (by first | assumption | omega) (by rw [ht]; show _ = (if decide (xn ≤ sg i % 6 ∧ yn ≤ sg i / 6 % 4 ∧ sg i / 24 = wn) = true then _ else _); first | (rw [if_pos (decide_eq_true ⟨by omega, by omega, by omega⟩)]; done) | (rw [if_neg (by simp; omega)]; exact or_0 _)) (by omega) (lv_sub hl [0, 1, 3, 4, 5, 6] rfl)
        refine r_iconst 1 C dX10_half_97 rfl ?_
        refine lv_iload C.1 C.2.1 dX10_half_98 (lv_at hl 1 rfl) ?_
        refine lv_ishl C.1 C.2.1 dX10_half_100 ?_
        refine r_goto 105 C dX10_half_101 rfl ?_
        refine lv_ior C.1 C.2.1 dX10_half_105 ?_
        refine lv_istore (lv' := [(4, .int (t ||| ((iI ((1 : Nat) : Int)) <<< ((iI ((i : Nat) : Int)) &&& 31)))), (6, nV (sg i)), (5, nV i), (0, .ref mo0), (1, nV xn), (2, nV yn), (3, nV wn)]) C.1 C.2.1 dX10_half_106 hl (by decide) rfl (fun ls hl => ?_)
        refine r_incN (k := 2) (n := 1) [(5, nV (i + 1)), (4, .int (t ||| ((iI ((1 : Nat) : Int)) <<< ((iI ((i : Nat) : Int)) &&& 31)))), (6, nV (sg i)), (0, .ref mo0), (1, nV xn), (2, nV yn), (3, nV wn)] C dX10_half_108 hl rfl rfl (by decide) rfl (fun ls hl => ?_)
        refine r_goto 44 C dX10_half_111 rfl ?_
        exact ih_44 (i + 1) (t ||| ((iI ((1 : Nat) : Int)) <<< ((iI ((i : Nat) : Int)) &&& 31))) _ (by first | assumption | omega) (by rw [ht]; show _ = (if decide (xn ≤ sg i % 6 ∧ yn ≤ sg i / 6 % 4 ∧ sg i / 24 = wn) = true then _ else _); first | (rw [if_pos (decide_eq_true ⟨by omega, by omega, by omega⟩)]; done) | (rw [if_neg (by simp; omega)]; exact or_0 _)) (by omega) (lv_sub hl [0, 1, 3, 4, 5, 6] rfl)
    exact L44 (k - 0 + 1) 0 (iI ((0 : Nat) : Int)) _ (by first | assumption | omega) (rfl) (Nat.lt_succ_self _) (lv_sub hl [0, 1, 2, 3, 4, 5] rfl)
  refine r_iconstZ C dX10_half_36 ?_
  exact ret dX10_half_37 (by unfold sHalf; rw [if_neg (by omega)])
set_option maxHeartbeats 4000000 in
set_option maxRecDepth 100000 in
theorem c_X10_power (l : Launch) (g : GG) (x : Nat) (y : Nat) (hy : y < 2147483648) : ROl g l yX10_power cX10_power 6 (some .long) 1 [] [mV x, nV y] (fun r => r = lI ((x ^ y : Nat) : Int)) := by
  refine ro_startL (by decide +kernel) (Nat.le_of_ble_eq_true rfl) ?_
  intro p e s m args below meth c Q ls C hK hP ret hl
  have C : CT p s m args meth c cX10_power RX10 6 := C
  have hl : lv_has ls 6 [(0, mV x), (2, nV y)] := hl
  refine r_lconst 1 C dX10_power_0 rfl ?_
  refine lv_lstore_n (lv' := [(3, mV 1), (0, mV x), (2, nV y)]) C.1 C.2.1 dX10_power_1 rfl hl (by decide) rfl (fun ls hl => ?_)
  refine r_iconst 0 C dX10_power_2 rfl ?_
  refine lv_istore (lv' := [(5, nV 0), (3, mV 1), (0, mV x), (2, nV y)]) C.1 C.2.1 dX10_power_3 hl (by decide) rfl (fun ls hl => ?_)
  have L5 : ∀ (n_5 : Nat) (i : Nat) (t : Nat) (ls : Array Slot) (hi : i ≤ y) (ht : t = x ^ i) (hm : y - i < n_5) (hl : lv_has ls 6 [(5, nV i), (3, mV t), (0, mV x), (2, nV y)]), W p l e (rD 1) s m args below meth c s.heap [] 0 0 Q (F0 m 5 ls []) := by
    intro n_5
    induction n_5 with
    | zero => intro i t ls hi ht hm hl; exact absurd hm (Nat.not_lt_zero _)
    | succ n_5 ih_5 =>
      intro i t ls hi ht hm hl
      refine lv_iload C.1 C.2.1 dX10_power_5 (lv_at hl 0 rfl) ?_
      refine lv_iload_n C.1 C.2.1 dX10_power_7 rfl (lv_at hl 3 rfl) ?_
      refine r_cge 21 C dX10_power_8 rfl ⟨rgN (by omega), rgN (by omega)⟩ (fun h_1 => ?_) (fun h_1 => ?_)
      · skip
        refine lv_lload_n C.1 C.2.1 dX10_power_21 rfl (lv_at hl 1 rfl) ?_
        exact ret dX10_power_22 (congrArg (fun q : Nat => lI (q : Int)) (by rw [ht, show i = y by omega]))
      refine lv_lload_n C.1 C.2.1 dX10_power_11 rfl (lv_at hl 1 rfl) ?_
      refine lv_lload_n C.1 C.2.1 dX10_power_12 rfl (lv_at hl 2 rfl) ?_
      refine r_lmulN C dX10_power_13 ?_
      refine lv_lstore_n (lv' := [(3, mV (t * x)), (5, nV i), (0, mV x), (2, nV y)]) C.1 C.2.1 dX10_power_14 rfl hl (by decide) rfl (fun ls hl => ?_)
      refine r_incN (k := 1) (n := 1) [(5, nV (i + 1)), (3, mV (t * x)), (0, mV x), (2, nV y)] C dX10_power_15 hl rfl rfl (by decide) rfl (fun ls hl => ?_)
      refine r_goto 5 C dX10_power_18 rfl ?_
      exact ih_5 (i + 1) (t * x) _ (by first | assumption | omega) (by rw [ht]; rfl) (by omega) (lv_sub hl [0, 1, 2, 3] rfl)
  exact L5 (y - 0 + 1) 0 1 _ (by first | assumption | omega) (rfl) (Nat.lt_succ_self _) (lv_sub hl [0, 1, 2, 3] rfl)
set_option maxHeartbeats 4000000 in
set_option maxRecDepth 100000 in
theorem c_X10_tens (l : Launch) (g : GG) (mo0 : Nat) (mA1 : Nat) (mA3 : Nat) (mA4 : Nat) (mA5 : Nat) (mA6 : Nat) (mA7 : Nat) (mA8 : Nat) (mA9 : Nat) (mA10 : Nat) (mA11 : Nat) (mA12 : Nat) (mA15 : Nat) (mA16 : Nat) (mA17 : Nat) (mA20 : Nat) (mL : Nat) (mAt : Nat) (kz : Nat) (dn : Nat) (mAb : Nat) (mBe : Nat) (mCl : Int) (mcs : Nat → Nat) (mca : Nat → Nat) (hu : Nat → Nat) (mi : Nat → Nat) (nc : Nat) (x : Nat) (hc0 : mcs 0 = nc) (hnc : nc ≤ 5) (hhu : ∀ j, hu j < 10) (hmi : ∀ j, mi j ≤ 6) (hch : ∀ j, j < nc → mca (2 * j) = hu j) (hcm : ∀ j, j < nc → mca (2 * j + 1) = mi j) (hx : x < nc) : ROl g l yX10_tens cX10_tens 2 (some .long) 2 [(mo0, .inr (8, [nV mL, .ref mA1, nV mAt, .ref mA3, .ref mA4, .ref mA5, .ref mA6, .ref mA7, .ref mA8, .ref mA9, .ref mA10, .ref mA11, .ref mA12, nV kz, nV dn, .ref mA15, .ref mA16, .ref mA17, mV mAb, mV mBe, .ref mA20, zV mCl])), (mA6, cN g 2 mcs), (mA7, cN g 20 mca)] [.ref mo0, nV x] (fun r => r = lI ((10 ^ mi x : Nat) : Int)) := by
  refine ro_startL (by decide +kernel) (Nat.le_of_ble_eq_true rfl) ?_
  intro p e s m args below meth c Q ls C hK hP ret hl
  have C : CT p s m args meth c cX10_tens RX10 2 := C
  have hl : lv_has ls 2 [(0, .ref mo0), (1, nV x)] := hl
  refine r_ldc2N 10 C kv_X10_186 dX10_tens_0 rfl ?_
  refine lv_aload_n C.1 C.2.1 dX10_tens_3 rfl (lv_at hl 0 rfl) ?_
  refine r_get C hK hP kw_X10 (ci := 8) rfl 0 7 (by decide) kf_X10_26 rfl rfl dX10_tens_4 ?_
  refine r_iconst 2 C dX10_tens_7 rfl ?_
  refine lv_iload_n C.1 C.2.1 dX10_tens_8 rfl (lv_at hl 1 rfl) ?_
  refine r_mulN C dX10_tens_9 ?_
  refine r_iconst 1 C dX10_tens_10 rfl ?_
  refine r_addN C dX10_tens_11 ?_
  refine r_aldN C hK hP 2 rfl ⟨by omega, by omega⟩ dX10_tens_12 ?_
  refine r_top (v' := nV (mi x)) (by rw [hcm x (by omega)]) ?_
  have hf_1 := hmi x
  refine ro_callSL (As := [mV 10, nV (mi x)]) (rest := []) C hK (c_X10_power l g 10 (mi x) (by first | assumption | omega)) (hP.sub (ws' := []) [] rfl) kc_X10_power kl_X10_182 kn_X10 ks_X10_power nk_X10_power (rm_lt (by decide) (by decide)) hl rfl (Nat.le_of_ble_eq_true rfl) dX10_tens_13 (fun r_2 hr_3 => ?_)
  subst hr_3
  exact ret dX10_tens_16 (by first | rfl | exact iI_cast (by omega) | exact congrArg lI (by omega) | omega)
set_option maxHeartbeats 4000000 in
set_option maxRecDepth 100000 in
theorem c_X10_reads (l : Launch) (g : GG) (mo0 : Nat) (mA1 : Nat) (mA3 : Nat) (mA4 : Nat) (mA5 : Nat) (mA6 : Nat) (mA7 : Nat) (mA8 : Nat) (mA9 : Nat) (mA10 : Nat) (mA11 : Nat) (mA12 : Nat) (mA15 : Nat) (mA16 : Nat) (mA17 : Nat) (mA20 : Nat) (mL : Nat) (mAt : Nat) (kz : Nat) (dn : Nat) (mAb : Nat) (mBe : Nat) (mCl : Int) (mtd : Nat → Nat) (mws : Nat → Nat) (mwd : Nat → Nat) (mcs : Nat → Nat) (mca : Nat → Nat) (sg : Nat → Nat) (k : Nat) (bi : Nat) (mo : Nat) (hu : Nat → Nat) (mi : Nat → Nat) (nc : Nat) (x : Nat) (y : Nat) (w : Nat) (hk0 : mws 0 = k) (hk : k ≤ 8) (hsg : ∀ j, sg j < 72) (hwd : ∀ j, j < k → mwd (2 * j) = sg j) (hb0 : mtd 0 = bi) (hb1 : mtd 1 = mo) (hbm : (1 ≤ bi ∧ bi ≤ 9) ∧ (1 ≤ mo ∧ mo ≤ 9)) (hc0 : mcs 0 = nc) (hnc : nc ≤ 5) (hhu : ∀ j, hu j < 10) (hmi : ∀ j, mi j ≤ 6) (hch : ∀ j, j < nc → mca (2 * j) = hu j) (hcm : ∀ j, j < nc → mca (2 * j + 1) = mi j) (hx : x < k) (hy : y < nc) (hw : w < 1000) : ROl g l yX10_reads cX10_reads 11 (some .long) 3 [(mo0, .inr (8, [nV mL, .ref mA1, nV mAt, .ref mA3, .ref mA4, .ref mA5, .ref mA6, .ref mA7, .ref mA8, .ref mA9, .ref mA10, .ref mA11, .ref mA12, nV kz, nV dn, .ref mA15, .ref mA16, .ref mA17, mV mAb, mV mBe, .ref mA20, zV mCl])), (mA3, cN g 4 mtd), (mA4, cN g 2 mws), (mA5, cN g 32 mwd), (mA6, cN g 2 mcs), (mA7, cN g 20 mca)] [.ref mo0, nV x, nV y, nV w] (fun r => r = lI ((wy bi mo (sg x) w (hu y) (mi y) (mi y + 1) : Nat) : Int)) := by
  refine ro_startL (by decide +kernel) (Nat.le_of_ble_eq_true rfl) ?_
  intro p e s m args below meth c Q ls C hK hP ret hl
  have C : CT p s m args meth c cX10_reads RX10 11 := C
  have hl : lv_has ls 11 [(0, .ref mo0), (1, nV x), (2, nV y), (3, nV w)] := hl
  refine lv_aload_n C.1 C.2.1 dX10_reads_0 rfl (lv_at hl 0 rfl) ?_
  refine r_get C hK hP kw_X10 (ci := 8) rfl 0 7 (by decide) kf_X10_26 rfl rfl dX10_reads_1 ?_
  refine r_iconst 2 C dX10_reads_4 rfl ?_
  refine lv_iload_n C.1 C.2.1 dX10_reads_5 rfl (lv_at hl 2 rfl) ?_
  refine r_mulN C dX10_reads_6 ?_
  refine r_aldN C hK hP 5 rfl ⟨by omega, by omega⟩ dX10_reads_7 ?_
  refine r_top (v' := nV (hu y)) (by rw [hch y (by omega)]) ?_
  have hf_1 := hhu y
  refine r_nameN (fun q1 hq1 => ?_)
  refine lv_istore (lv' := [(4, nV q1), (0, .ref mo0), (1, nV x), (2, nV y), (3, nV w)]) C.1 C.2.1 dX10_reads_8 hl (by decide) rfl (fun ls hl => ?_)
  refine lv_aload_n C.1 C.2.1 dX10_reads_10 rfl (lv_at hl 1 rfl) ?_
  refine r_get C hK hP kw_X10 (ci := 8) rfl 0 7 (by decide) kf_X10_26 rfl rfl dX10_reads_11 ?_
  refine r_iconst 2 C dX10_reads_14 rfl ?_
  refine lv_iload_n C.1 C.2.1 dX10_reads_15 rfl (lv_at hl 3 rfl) ?_
  refine r_mulN C dX10_reads_16 ?_
  refine r_iconst 1 C dX10_reads_17 rfl ?_
  refine r_addN C dX10_reads_18 ?_
  refine r_aldN C hK hP 5 rfl ⟨by omega, by omega⟩ dX10_reads_19 ?_
  refine r_top (v' := nV (mi y)) (by rw [hcm y (by omega)]) ?_
  have hf_2 := hmi y
  refine r_nameN (fun L1 hL1 => ?_)
  refine lv_istore (lv' := [(5, nV L1), (4, nV q1), (0, .ref mo0), (1, nV x), (2, nV y), (3, nV w)]) C.1 C.2.1 dX10_reads_20 hl (by decide) rfl (fun ls hl => ?_)
  refine r_lconst 0 C dX10_reads_22 rfl ?_
  refine lv_lstore (lv' := [(6, mV 0), (5, nV L1), (4, nV q1), (0, .ref mo0), (1, nV x), (2, nV y), (3, nV w)]) C.1 C.2.1 dX10_reads_23 hl (by decide) rfl (fun ls hl => ?_)
  refine r_lconst 1 C dX10_reads_25 rfl ?_
  refine lv_lstore (lv' := [(8, mV 1), (6, mV 0), (5, nV L1), (4, nV q1), (0, .ref mo0), (1, nV x), (2, nV y), (3, nV w)]) C.1 C.2.1 dX10_reads_26 hl (by decide) rfl (fun ls hl => ?_)
  refine r_iconst 0 C dX10_reads_28 rfl ?_
  refine lv_istore (lv' := [(10, nV 0), (8, mV 1), (6, mV 0), (5, nV L1), (4, nV q1), (0, .ref mo0), (1, nV x), (2, nV y), (3, nV w)]) C.1 C.2.1 dX10_reads_29 hl (by decide) rfl (fun ls hl => ?_)
  have L31 : ∀ (n_31 : Nat) (i : Nat) (t : Nat) (c2 : Nat) (ls : Array Slot) (hi : i ≤ L1 + 1) (ht : t = wy bi mo (sg x) w q1 L1 i) (hc2 : c2 = ch L1 i) (hm : L1 + 1 - i < n_31) (hl : lv_has ls 11 [(10, nV i), (8, mV c2), (6, mV t), (5, nV L1), (4, nV q1), (0, .ref mo0), (1, nV x), (2, nV y), (3, nV w)]), W p l e (rD 3) s m args below meth c s.heap [] 0 0 Q (F0 m 31 ls []) := by
    intro n_31
    induction n_31 with
    | zero => intro i t c2 ls hi ht hc2 hm hl; exact absurd hm (Nat.not_lt_zero _)
    | succ n_31 ih_31 =>
      intro i t c2 ls hi ht hc2 hm hl
      refine lv_iload C.1 C.2.1 dX10_reads_31 (lv_at hl 0 rfl) ?_
      refine lv_iload C.1 C.2.1 dX10_reads_33 (lv_at hl 3 rfl) ?_
      refine r_cgt 123 C dX10_reads_35 rfl ⟨rgN (by omega), rgN (by omega)⟩ (fun h_3 => ?_) (fun h_3 => ?_)
      · skip
        refine lv_lload C.1 C.2.1 dX10_reads_123 (lv_at hl 2 rfl) ?_
        exact ret dX10_reads_125 (by rw [ht, show i = L1 + 1 by omega, hL1, hq1])
      refine lv_lload C.1 C.2.1 dX10_reads_38 (lv_at hl 2 rfl) ?_
      refine lv_aload_n C.1 C.2.1 dX10_reads_40 rfl (lv_at hl 5 rfl) ?_
      refine lv_aload_n C.1 C.2.1 dX10_reads_41 rfl (lv_at hl 5 rfl) ?_
      refine r_get C hK hP kw_X10 (ci := 8) rfl 0 5 (by decide) kf_X10_20 rfl rfl dX10_reads_42 ?_
      refine r_iconst 2 C dX10_reads_45 rfl ?_
      refine lv_iload_n C.1 C.2.1 dX10_reads_46 rfl (lv_at hl 6 rfl) ?_
      refine r_mulN C dX10_reads_47 ?_
      refine r_aldN C hK hP 3 rfl ⟨by omega, by omega⟩ dX10_reads_48 ?_
      refine r_top (v' := nV (sg x)) (by rw [hwd x (by omega)]) ?_
      have hf_4 := hsg x
      refine lv_iload_n C.1 C.2.1 dX10_reads_49 rfl (lv_at hl 8 rfl) ?_
      refine lv_iload C.1 C.2.1 dX10_reads_50 (lv_at hl 0 rfl) ?_
      refine ro_callV (As := [nV (sg x), nV w, nV i]) (rest := [mV t]) C hK (c_X10_become l g mo0 mA1 mA3 mA4 mA5 mA6 mA7 mA8 mA9 mA10 mA11 mA12 mA15 mA16 mA17 mA20 mL mAt kz dn mAb mBe mCl mtd bi mo (sg x) w i (by first | assumption | omega) (by first | assumption | omega) (by first | assumption | omega) (by first | assumption | omega) (by first | assumption | omega) (by first | assumption | omega)) (hP.sub (ws' := [(mo0, .inr (8, [nV mL, .ref mA1, nV mAt, .ref mA3, .ref mA4, .ref mA5, .ref mA6, .ref mA7, .ref mA8, .ref mA9, .ref mA10, .ref mA11, .ref mA12, nV kz, nV dn, .ref mA15, .ref mA16, .ref mA17, mV mAb, mV mBe, .ref mA20, zV mCl])), (mA3, cN g 4 mtd)]) [0, 1] rfl) (ci := 8) (q0 := 0) rfl rfl kc_X10_become kl_X10_127 kn_X10 ki_X10_become ke_X10_become nk_X10_become (rm_lt (by decide) (by decide)) hl rfl (Nat.le_of_ble_eq_true rfl) dX10_reads_52 (fun r_5 hr_6 => ?_)
      subst hr_6
      have hf_7 := tn_bd (bi) (mo) ((sg x)) (w) (i) (by omega)
      refine lv_aload_n C.1 C.2.1 dX10_reads_55 rfl (lv_at hl 5 rfl) ?_
      refine r_get C hK hP kw_X10 (ci := 8) rfl 0 5 (by decide) kf_X10_20 rfl rfl dX10_reads_56 ?_
      refine r_iconst 2 C dX10_reads_59 rfl ?_
      refine lv_iload_n C.1 C.2.1 dX10_reads_60 rfl (lv_at hl 6 rfl) ?_
      refine r_mulN C dX10_reads_61 ?_
      refine r_aldN C hK hP 3 rfl ⟨by omega, by omega⟩ dX10_reads_62 ?_
      refine r_top (v' := nV (sg x)) (by rw [hwd x (by omega)]) ?_
      have hf_8 := hsg x
      refine r_cne 96 C dX10_reads_63 rfl ⟨rgN (by omega), rgN (by omega)⟩ (fun h_9 => ?_) (fun h_9 => ?_)
      · skip
        refine r_lconst 0 C dX10_reads_96 rfl ?_
        refine r_laddN C dX10_reads_97 ?_
        refine lv_lstore (lv' := [(6, mV (t + 0)), (10, nV i), (8, mV c2), (5, nV L1), (4, nV q1), (0, .ref mo0), (1, nV x), (2, nV y), (3, nV w)]) C.1 C.2.1 dX10_reads_98 hl (by decide) rfl (fun ls hl => ?_)
        refine lv_lload C.1 C.2.1 dX10_reads_100 (lv_at hl 2 rfl) ?_
        refine lv_iload C.1 C.2.1 dX10_reads_102 (lv_at hl 3 rfl) ?_
        refine lv_iload C.1 C.2.1 dX10_reads_104 (lv_at hl 1 rfl) ?_
        refine r_subN C dX10_reads_106 (by omega) ?_
        refine r_i2l C dX10_reads_107 (rgN (by omega)) ?_
        refine r_lmulN C dX10_reads_108 ?_
        refine lv_iload C.1 C.2.1 dX10_reads_109 (lv_at hl 1 rfl) ?_
        refine r_iconst 1 C dX10_reads_111 rfl ?_
        refine r_addN C dX10_reads_112 ?_
        refine r_i2l C dX10_reads_113 (rgN (by omega)) ?_
        refine r_ldivN C dX10_reads_114 (by rw [hc2]; exact Nat.lt_of_le_of_lt (ch_mul (by omega) (by omega)) (by decide)) (by omega) ?_
        refine lv_lstore (lv' := [(8, mV ((c2 * (L1 - i)) / (i + 1))), (6, mV (t + 0)), (10, nV i), (5, nV L1), (4, nV q1), (0, .ref mo0), (1, nV x), (2, nV y), (3, nV w)]) C.1 C.2.1 dX10_reads_115 hl (by decide) rfl (fun ls hl => ?_)
        refine r_incN (k := 2) (n := 1) [(10, nV (i + 1)), (8, mV ((c2 * (L1 - i)) / (i + 1))), (6, mV (t + 0)), (5, nV L1), (4, nV q1), (0, .ref mo0), (1, nV x), (2, nV y), (3, nV w)] C dX10_reads_117 hl rfl rfl (by decide) rfl (fun ls hl => ?_)
        refine r_goto 31 C dX10_reads_120 rfl ?_
        exact ih_31 (i + 1) (t + 0) ((c2 * (L1 - i)) / (i + 1)) _ (by first | assumption | omega) (by rw [ht]; show _ = wy bi mo (sg x) w q1 L1 i + _; first | (rw [if_pos (by omega), hc2]; done) | rw [if_neg (by omega), Nat.add_zero]) (by rw [hc2]; rfl) (by omega) (lv_sub hl [0, 1, 2, 3, 4, 5, 6, 7, 8] rfl)
      refine lv_lload C.1 C.2.1 dX10_reads_66 (lv_at hl 1 rfl) ?_
      refine lv_iload C.1 C.2.1 dX10_reads_68 (lv_at hl 4 rfl) ?_
      refine r_i2l C dX10_reads_70 (rgN (by omega)) ?_
      refine lv_iload C.1 C.2.1 dX10_reads_71 (lv_at hl 0 rfl) ?_
      refine ro_callSL (As := [mV q1, nV i]) (rest := [mV c2, mV t]) C hK (c_X10_power l g q1 i (by first | assumption | omega)) (hP.sub (ws' := []) [] rfl) kc_X10_power kl_X10_182 kn_X10 ks_X10_power nk_X10_power (rm_lt (by decide) (by decide)) hl rfl (Nat.le_of_ble_eq_true rfl) dX10_reads_73 (fun r_10 hr_11 => ?_)
      subst hr_11
      refine r_lmulN C dX10_reads_76 ?_
      refine r_ldc2N 10 C kv_X10_186 dX10_reads_77 rfl ?_
      refine lv_iload C.1 C.2.1 dX10_reads_80 (lv_at hl 4 rfl) ?_
      refine r_i2l C dX10_reads_82 (rgN (by omega)) ?_
      refine r_lsubN C dX10_reads_83 (by omega) ?_
      refine lv_iload C.1 C.2.1 dX10_reads_84 (lv_at hl 3 rfl) ?_
      refine lv_iload C.1 C.2.1 dX10_reads_86 (lv_at hl 0 rfl) ?_
      refine r_subN C dX10_reads_88 (by omega) ?_
      refine ro_callSL (As := [mV (10 - q1), nV (L1 - i)]) (rest := [mV (c2 * (q1 ^ i)), mV t]) C hK (c_X10_power l g (10 - q1) (L1 - i) (by first | assumption | omega)) (hP.sub (ws' := []) [] rfl) kc_X10_power kl_X10_182 kn_X10 ks_X10_power nk_X10_power (rm_lt (by decide) (by decide)) hl rfl (Nat.le_of_ble_eq_true rfl) dX10_reads_89 (fun r_12 hr_13 => ?_)
      subst hr_13
      refine r_lmulN C dX10_reads_92 ?_
      refine r_goto 97 C dX10_reads_93 rfl ?_
      refine r_laddN C dX10_reads_97 ?_
      refine lv_lstore (lv' := [(6, mV (t + ((c2 * (q1 ^ i)) * ((10 - q1) ^ (L1 - i))))), (10, nV i), (8, mV c2), (5, nV L1), (4, nV q1), (0, .ref mo0), (1, nV x), (2, nV y), (3, nV w)]) C.1 C.2.1 dX10_reads_98 hl (by decide) rfl (fun ls hl => ?_)
      refine lv_lload C.1 C.2.1 dX10_reads_100 (lv_at hl 2 rfl) ?_
      refine lv_iload C.1 C.2.1 dX10_reads_102 (lv_at hl 3 rfl) ?_
      refine lv_iload C.1 C.2.1 dX10_reads_104 (lv_at hl 1 rfl) ?_
      refine r_subN C dX10_reads_106 (by omega) ?_
      refine r_i2l C dX10_reads_107 (rgN (by omega)) ?_
      refine r_lmulN C dX10_reads_108 ?_
      refine lv_iload C.1 C.2.1 dX10_reads_109 (lv_at hl 1 rfl) ?_
      refine r_iconst 1 C dX10_reads_111 rfl ?_
      refine r_addN C dX10_reads_112 ?_
      refine r_i2l C dX10_reads_113 (rgN (by omega)) ?_
      refine r_ldivN C dX10_reads_114 (by rw [hc2]; exact Nat.lt_of_le_of_lt (ch_mul (by omega) (by omega)) (by decide)) (by omega) ?_
      refine lv_lstore (lv' := [(8, mV ((c2 * (L1 - i)) / (i + 1))), (6, mV (t + ((c2 * (q1 ^ i)) * ((10 - q1) ^ (L1 - i))))), (10, nV i), (5, nV L1), (4, nV q1), (0, .ref mo0), (1, nV x), (2, nV y), (3, nV w)]) C.1 C.2.1 dX10_reads_115 hl (by decide) rfl (fun ls hl => ?_)
      refine r_incN (k := 2) (n := 1) [(10, nV (i + 1)), (8, mV ((c2 * (L1 - i)) / (i + 1))), (6, mV (t + ((c2 * (q1 ^ i)) * ((10 - q1) ^ (L1 - i))))), (5, nV L1), (4, nV q1), (0, .ref mo0), (1, nV x), (2, nV y), (3, nV w)] C dX10_reads_117 hl rfl rfl (by decide) rfl (fun ls hl => ?_)
      refine r_goto 31 C dX10_reads_120 rfl ?_
      exact ih_31 (i + 1) (t + ((c2 * (q1 ^ i)) * ((10 - q1) ^ (L1 - i)))) ((c2 * (L1 - i)) / (i + 1)) _ (by first | assumption | omega) (by rw [ht]; show _ = wy bi mo (sg x) w q1 L1 i + _; first | (rw [if_pos (by omega), hc2]; done) | rw [if_neg (by omega), Nat.add_zero]) (by rw [hc2]; rfl) (by omega) (lv_sub hl [0, 1, 2, 3, 4, 5, 6, 7, 8] rfl)
  exact L31 (L1 + 1 - 0 + 1) 0 0 1 _ (by first | assumption | omega) (rfl) (rfl) (Nat.lt_succ_self _) (lv_sub hl [0, 1, 2, 3, 4, 5, 6, 7, 8] rfl)
set_option maxHeartbeats 4000000 in
set_option maxRecDepth 100000 in
theorem c_X10_whom (l : Launch) (g : GG) (mo0 : Nat) (mA1 : Nat) (mA3 : Nat) (mA4 : Nat) (mA5 : Nat) (mA6 : Nat) (mA7 : Nat) (mA8 : Nat) (mA9 : Nat) (mA10 : Nat) (mA11 : Nat) (mA12 : Nat) (mA15 : Nat) (mA16 : Nat) (mA17 : Nat) (mA20 : Nat) (mL : Nat) (mAt : Nat) (kz : Nat) (dn : Nat) (mAb : Nat) (mBe : Nat) (mCl : Int) (mtd : Nat → Nat) (mws : Nat → Nat) (mwd : Nat → Nat) (mcs : Nat → Nat) (mca : Nat → Nat) (sg : Nat → Nat) (k : Nat) (bi : Nat) (mo : Nat) (hu : Nat → Nat) (mi : Nat → Nat) (nc : Nat) (x : Int) (y : Int) (hk0 : mws 0 = k) (hk : k ≤ 8) (hsg : ∀ j, sg j < 72) (hwd : ∀ j, j < k → mwd (2 * j) = sg j) (hb0 : mtd 0 = bi) (hb1 : mtd 1 = mo) (hbm : (1 ≤ bi ∧ bi ≤ 9) ∧ (1 ≤ mo ∧ mo ≤ 9)) (hc0 : mcs 0 = nc) (hnc : nc ≤ 5) (hhu : ∀ j, hu j < 10) (hmi : ∀ j, mi j ≤ 6) (hch : ∀ j, j < nc → mca (2 * j) = hu j) (hcm : ∀ j, j < nc → mca (2 * j + 1) = mi j) (hx : rg x) (hy : rg y) : ROi g l yX10_whom cX10_whom 9 (some .int) 4 [(mo0, .inr (8, [nV mL, .ref mA1, nV mAt, .ref mA3, .ref mA4, .ref mA5, .ref mA6, .ref mA7, .ref mA8, .ref mA9, .ref mA10, .ref mA11, .ref mA12, nV kz, nV dn, .ref mA15, .ref mA16, .ref mA17, mV mAb, mV mBe, .ref mA20, zV mCl])), (mA3, cN g 4 mtd), (mA4, cN g 2 mws), (mA5, cN g 32 mwd), (mA6, cN g 2 mcs), (mA7, cN g 20 mca)] [.ref mo0, zV x, zV y] (fun r => r = iI (sWhom sg hu mi k nc bi mo x y)) := by
  refine ro_startI (by decide +kernel) (Nat.le_of_ble_eq_true rfl) ?_
  intro p e s m args below meth c Q ls C hK hP ret hl
  have C : CT p s m args meth c cX10_whom RX10 9 := C
  have hl : lv_has ls 9 [(0, .ref mo0), (1, zV x), (2, zV y)] := hl
  refine lv_aload_n C.1 C.2.1 dX10_whom_0 rfl (lv_at hl 0 rfl) ?_
  refine lv_iload_n C.1 C.2.1 dX10_whom_1 rfl (lv_at hl 1 rfl) ?_
  refine ro_callV (As := [zV x]) (rest := []) C hK (c_X10_isWord l g mo0 mA1 mA3 mA4 mA5 mA6 mA7 mA8 mA9 mA10 mA11 mA12 mA15 mA16 mA17 mA20 mL mAt kz dn mAb mBe mCl mws k x (by first | assumption | omega) (by first | assumption | omega) (by first | assumption | exact ⟨by omega, by omega⟩)) (hP.sub (ws' := [(mo0, .inr (8, [nV mL, .ref mA1, nV mAt, .ref mA3, .ref mA4, .ref mA5, .ref mA6, .ref mA7, .ref mA8, .ref mA9, .ref mA10, .ref mA11, .ref mA12, nV kz, nV dn, .ref mA15, .ref mA16, .ref mA17, mV mAb, mV mBe, .ref mA20, zV mCl])), (mA4, cN g 2 mws)]) [0, 2] rfl) (ci := 8) (q0 := 0) rfl rfl kc_X10_isWord kl_X10_111 kn_X10 ki_X10_isWord ke_X10_isWord nk_X10_isWord (rm_lt (by decide) (by decide)) hl rfl (Nat.le_of_ble_eq_true rfl) dX10_whom_2 (fun r_1 hr_2 => ?_)
  subst hr_2
  refine r_beq 15 C dX10_whom_5 rfl (fun h_3 => ?_) (fun h_3 => ?_)
  · skip
    refine r_iconstZ C dX10_whom_15 ?_
    exact ret dX10_whom_16 (by unfold sWhom; rw [if_neg (by omega)])
  refine lv_iload_n C.1 C.2.1 dX10_whom_8 rfl (lv_at hl 2 rfl) ?_
  refine ro_callS (As := [zV y]) (rest := []) C hK (c_X10_isAge l g y (by first | assumption | exact ⟨by omega, by omega⟩)) (hP.sub (ws' := []) [] rfl) kc_X10_isAge kl_X10_198 kn_X10 ks_X10_isAge nk_X10_isAge (rm_lt (by decide) (by decide)) hl rfl (Nat.le_of_ble_eq_true rfl) dX10_whom_9 (fun r_4 hr_5 => ?_)
  subst hr_5
  refine r_bne 17 C dX10_whom_12 rfl (fun h_6 => ?_) (fun h_6 => ?_)
  · skip
    obtain ⟨xn, rfl⟩ : ∃ n : Nat, x = (n : Int) := ⟨x.toNat, by omega⟩
    obtain ⟨yn, rfl⟩ : ∃ n : Nat, y = (n : Int) := ⟨y.toNat, by omega⟩
    have hl : lv_has ls 9 [(0, .ref mo0), (1, nV xn), (2, nV yn)] := hl
    refine r_bipushZ C dX10_whom_17 (by decide) ?_
    refine lv_istore_n (lv' := [(3, zV (-4)), (0, .ref mo0), (1, nV xn), (2, nV yn)]) C.1 C.2.1 dX10_whom_19 rfl hl (by decide) rfl (fun ls hl => ?_)
    refine r_ldc2 (-1) C kv_X10_173 dX10_whom_20 rfl ?_
    refine lv_lstore (lv' := [(4, jV (-1)), (3, zV (-4)), (0, .ref mo0), (1, nV xn), (2, nV yn)]) C.1 C.2.1 dX10_whom_23 hl (by decide) rfl (fun ls hl => ?_)
    refine r_iconst 0 C dX10_whom_25 rfl ?_
    refine lv_istore (lv' := [(6, nV 0), (4, jV (-1)), (3, zV (-4)), (0, .ref mo0), (1, nV xn), (2, nV yn)]) C.1 C.2.1 dX10_whom_26 hl (by decide) rfl (fun ls hl => ?_)
    have L28 : ∀ (n_28 : Nat) (i : Nat) (bb : Int) (mm : Int) (ls : Array Slot) (hi : i ≤ nc) (hst : whF sg hu mi bi mo xn yn i = (bb, mm)) (hm : nc - i < n_28) (hl : lv_has ls 9 [(6, nV i), (4, jV mm), (3, zV bb), (0, .ref mo0), (1, nV xn), (2, nV yn)]), W p l e (rD 4) s m args below meth c s.heap [] 0 0 Q (F0 m 28 ls []) := by
      intro n_28
      induction n_28 with
      | zero => intro i bb mm ls hi hst hm hl; exact absurd hm (Nat.not_lt_zero _)
      | succ n_28 ih_28 =>
        intro i bb mm ls hi hst hm hl
        have hwb := whF_bd (sg := sg) (bi := bi) (mo := mo) (w := xn) (a := yn) hhu hmi i
        rw [hst] at hwb
        refine lv_iload C.1 C.2.1 dX10_whom_28 (lv_at hl 0 rfl) ?_
        refine lv_aload_n C.1 C.2.1 dX10_whom_30 rfl (lv_at hl 3 rfl) ?_
        refine r_get C hK hP kw_X10 (ci := 8) rfl 0 6 (by decide) kf_X10_23 rfl rfl dX10_whom_31 ?_
        refine r_iconst 0 C dX10_whom_34 rfl ?_
        refine r_aldN C hK hP 4 rfl ⟨by omega, by omega⟩ dX10_whom_35 ?_
        refine r_top (v' := nV nc) (by rw [hc0]) ?_
        refine r_cge 108 C dX10_whom_36 rfl ⟨rgN (by omega), rgN (by omega)⟩ (fun h_7 => ?_) (fun h_7 => ?_)
        · skip
          refine lv_iload_n C.1 C.2.1 dX10_whom_108 rfl (lv_at hl 2 rfl) ?_
          exact ret dX10_whom_109 (by unfold sWhom; rw [if_pos (by omega)]; show _ = iI (whF sg hu mi bi mo xn yn nc).1; rw [show nc = i by omega, hst])
        refine lv_aload_n C.1 C.2.1 dX10_whom_39 rfl (lv_at hl 3 rfl) ?_
        refine lv_iload_n C.1 C.2.1 dX10_whom_40 rfl (lv_at hl 4 rfl) ?_
        refine lv_iload C.1 C.2.1 dX10_whom_41 (lv_at hl 0 rfl) ?_
        refine lv_iload_n C.1 C.2.1 dX10_whom_43 rfl (lv_at hl 5 rfl) ?_
        refine ro_callVL (As := [nV xn, nV i, nV yn]) (rest := []) C hK (c_X10_reads l g mo0 mA1 mA3 mA4 mA5 mA6 mA7 mA8 mA9 mA10 mA11 mA12 mA15 mA16 mA17 mA20 mL mAt kz dn mAb mBe mCl mtd mws mwd mcs mca sg k bi mo hu mi nc xn i yn (by first | assumption | omega) (by first | assumption | omega) (by first | assumption | omega) (by first | assumption | omega) (by first | assumption | omega) (by first | assumption | omega) (by first | assumption | omega) (by first | assumption | omega) (by first | assumption | omega) (by first | assumption | omega) (by first | assumption | omega) (by first | assumption | omega) (by first | assumption | omega) (by first | assumption | omega) (by first | assumption | omega) (by first | assumption | omega)) hP (ci := 8) (q0 := 0) rfl rfl kc_X10_reads kl_X10_201 kn_X10 ki_X10_reads ke_X10_reads nk_X10_reads (rm_lt (by decide) (by decide)) hl rfl (Nat.le_of_ble_eq_true rfl) dX10_whom_44 (fun r_8 hr_9 => ?_)
        subst hr_9
        have hf_10 := wy_bd bi mo (sg (xn)) (yn) (hu (i)) (mi (i)) (hhu (i)) (hmi (i))
        refine r_ldc2N 10 C kv_X10_186 dX10_whom_47 rfl ?_
        refine r_bipush 6 C dX10_whom_50 (by decide) ?_
        refine lv_aload_n C.1 C.2.1 dX10_whom_52 rfl (lv_at hl 3 rfl) ?_
        refine r_get C hK hP kw_X10 (ci := 8) rfl 0 7 (by decide) kf_X10_26 rfl rfl dX10_whom_53 ?_
        refine r_iconst 2 C dX10_whom_56 rfl ?_
        refine lv_iload C.1 C.2.1 dX10_whom_57 (lv_at hl 0 rfl) ?_
        refine r_mulN C dX10_whom_59 ?_
        refine r_iconst 1 C dX10_whom_60 rfl ?_
        refine r_addN C dX10_whom_61 ?_
        refine r_aldN C hK hP 5 rfl ⟨by omega, by omega⟩ dX10_whom_62 ?_
        refine r_top (v' := nV (mi i)) (by rw [hcm i (by omega)]) ?_
        have hf_11 := hmi i
        refine r_subN C dX10_whom_63 (by omega) ?_
        refine ro_callSL (As := [mV 10, nV (6 - (mi i))]) (rest := [mV (wy bi mo (sg xn) yn (hu i) (mi i) (mi i + 1))]) C hK (c_X10_power l g 10 (6 - (mi i)) (by first | assumption | omega)) (hP.sub (ws' := []) [] rfl) kc_X10_power kl_X10_182 kn_X10 ks_X10_power nk_X10_power (rm_lt (by decide) (by decide)) hl rfl (Nat.le_of_ble_eq_true rfl) dX10_whom_64 (fun r_12 hr_13 => ?_)
        subst hr_13
        refine r_lmulN C dX10_whom_67 ?_
        refine r_nameM (fun p9 hp9 => ?_)
        have hp8 : p9 ≤ 1000000 := by
          have h1 := wy_bd bi mo (sg xn) yn (hu i) (mi i) (hhu i) (hmi i)
          have h3 : 10 ^ mi i * 10 ^ (6 - mi i) = 1000000 := by rw [← Nat.pow_add, show mi i + (6 - mi i) = 6 by have := hmi i; omega]
          rw [hp9, ← h3]; exact Nat.mul_le_mul h1 (Nat.le_refl _)
        refine lv_lstore (lv' := [(7, mV p9), (6, nV i), (4, jV mm), (3, zV bb), (0, .ref mo0), (1, nV xn), (2, nV yn)]) C.1 C.2.1 dX10_whom_68 hl (by decide) rfl (fun ls hl => ?_)
        refine lv_lload C.1 C.2.1 dX10_whom_70 (lv_at hl 0 rfl) ?_
        refine lv_lload C.1 C.2.1 dX10_whom_72 (lv_at hl 2 rfl) ?_
        refine r_lle 83 C dX10_whom_74 dX10_whom_75 rfl ⟨rlN (by omega), ⟨by omega, by omega⟩⟩ (fun g1 => ?_) (fun g1 => ?_)
        · skip
          refine lv_iload_n C.1 C.2.1 dX10_whom_83 rfl (lv_at hl 3 rfl) ?_
          refine lv_istore_n (lv' := [(3, zV bb), (7, mV p9), (6, nV i), (4, jV mm), (0, .ref mo0), (1, nV xn), (2, nV yn)]) C.1 C.2.1 dX10_whom_84 rfl hl (by decide) rfl (fun ls hl => ?_)
          refine lv_lload C.1 C.2.1 dX10_whom_85 (lv_at hl 1 rfl) ?_
          refine lv_lload C.1 C.2.1 dX10_whom_87 (lv_at hl 3 rfl) ?_
          refine r_lle 98 C dX10_whom_89 dX10_whom_90 rfl ⟨rlN (by omega), ⟨by omega, by omega⟩⟩ (fun h_14 => ?_) (fun h_14 => ?_)
          rotate_left
          · exact absurd h_14 (by omega)
          refine lv_lload C.1 C.2.1 dX10_whom_98 (lv_at hl 3 rfl) ?_
          refine lv_lstore (lv' := [(4, jV mm), (3, zV bb), (7, mV p9), (6, nV i), (0, .ref mo0), (1, nV xn), (2, nV yn)]) C.1 C.2.1 dX10_whom_100 hl (by decide) rfl (fun ls hl => ?_)
          refine r_incN (k := 3) (n := 1) [(6, nV (i + 1)), (4, jV mm), (3, zV bb), (7, mV p9), (0, .ref mo0), (1, nV xn), (2, nV yn)] C dX10_whom_102 hl rfl rfl (by decide) rfl (fun ls hl => ?_)
          refine r_goto 28 C dX10_whom_105 rfl ?_
          exact ih_28 (i + 1) bb mm _ (by first | assumption | omega) (by show (if (whF sg hu mi bi mo xn yn i).2 < ((wy bi mo (sg xn) yn (hu i) (mi i) (mi i + 1) * 10 ^ (6 - mi i) : Nat) : Int) then _ else _) = _; rw [hst, ← hp9]; exact if_neg (by show ¬ mm < _; omega)) (by omega) (lv_sub hl [0, 1, 2, 4, 5, 6] rfl)
        refine lv_iload C.1 C.2.1 dX10_whom_78 (lv_at hl 1 rfl) ?_
        refine r_goto 84 C dX10_whom_80 rfl ?_
        refine lv_istore_n (lv' := [(3, nV i), (7, mV p9), (6, nV i), (4, jV mm), (0, .ref mo0), (1, nV xn), (2, nV yn)]) C.1 C.2.1 dX10_whom_84 rfl hl (by decide) rfl (fun ls hl => ?_)
        refine lv_lload C.1 C.2.1 dX10_whom_85 (lv_at hl 1 rfl) ?_
        refine lv_lload C.1 C.2.1 dX10_whom_87 (lv_at hl 3 rfl) ?_
        refine r_lle 98 C dX10_whom_89 dX10_whom_90 rfl ⟨rlN (by omega), ⟨by omega, by omega⟩⟩ (fun h_15 => ?_) (fun h_15 => ?_)
        · exact absurd h_15 (by omega)
        refine lv_lload C.1 C.2.1 dX10_whom_93 (lv_at hl 1 rfl) ?_
        refine r_goto 100 C dX10_whom_95 rfl ?_
        refine lv_lstore (lv' := [(4, mV p9), (3, nV i), (7, mV p9), (6, nV i), (0, .ref mo0), (1, nV xn), (2, nV yn)]) C.1 C.2.1 dX10_whom_100 hl (by decide) rfl (fun ls hl => ?_)
        refine r_incN (k := 3) (n := 1) [(6, nV (i + 1)), (4, mV p9), (3, nV i), (7, mV p9), (0, .ref mo0), (1, nV xn), (2, nV yn)] C dX10_whom_102 hl rfl rfl (by decide) rfl (fun ls hl => ?_)
        refine r_goto 28 C dX10_whom_105 rfl ?_
        exact ih_28 (i + 1) ((i : Nat) : Int) ((p9 : Nat) : Int) _ (by first | assumption | omega) (by show (if (whF sg hu mi bi mo xn yn i).2 < ((wy bi mo (sg xn) yn (hu i) (mi i) (mi i + 1) * 10 ^ (6 - mi i) : Nat) : Int) then _ else _) = _; rw [hst, ← hp9]; exact if_pos g1) (by omega) (lv_sub hl [0, 1, 2, 4, 5, 6] rfl)
    exact L28 (nc - 0 + 1) 0 (-4) (-1) _ (by first | assumption | omega) (rfl) (Nat.lt_succ_self _) (lv_sub hl [0, 1, 2, 3, 4, 5] rfl)
  refine r_iconstZ C dX10_whom_15 ?_
  exact ret dX10_whom_16 (by unfold sWhom; rw [if_neg (by omega)])
set_option maxHeartbeats 4000000 in
set_option maxRecDepth 100000 in
theorem c_X10_said (l : Launch) (g : GG) (mo0 : Nat) (mA1 : Nat) (mA3 : Nat) (mA4 : Nat) (mA5 : Nat) (mA6 : Nat) (mA7 : Nat) (mA8 : Nat) (mA9 : Nat) (mA10 : Nat) (mA11 : Nat) (mA12 : Nat) (mA15 : Nat) (mA16 : Nat) (mA17 : Nat) (mA20 : Nat) (mL : Nat) (mAt : Nat) (kz : Nat) (dn : Nat) (mAb : Nat) (mBe : Nat) (mCl : Int) (mws : Nat → Nat) (mwd : Nat → Nat) (sg : Nat → Nat) (k : Nat) (wo : Nat → Nat) (x : Int) (y : Int) (hk0 : mws 0 = k) (hk : k ≤ 8) (hsg : ∀ j, sg j < 72) (hwd : ∀ j, j < k → mwd (2 * j) = sg j) (hwv : ∀ j, j < k → mwd (2 * j + 1) = wo j) (hx : rg x) (hy : rg y) : ROi g l yX10_said cX10_said 9 (some .int) 4 [(mo0, .inr (8, [nV mL, .ref mA1, nV mAt, .ref mA3, .ref mA4, .ref mA5, .ref mA6, .ref mA7, .ref mA8, .ref mA9, .ref mA10, .ref mA11, .ref mA12, nV kz, nV dn, .ref mA15, .ref mA16, .ref mA17, mV mAb, mV mBe, .ref mA20, zV mCl])), (mA4, cN g 2 mws), (mA5, cN g 32 mwd)] [.ref mo0, zV x, zV y] (fun r => r = sSaid sg wo k x y) := by
  refine ro_startI (by decide +kernel) (Nat.le_of_ble_eq_true rfl) ?_
  intro p e s m args below meth c Q ls C hK hP ret hl
  have C : CT p s m args meth c cX10_said RX10 9 := C
  have hl : lv_has ls 9 [(0, .ref mo0), (1, zV x), (2, zV y)] := hl
  refine lv_iload_n C.1 C.2.1 dX10_said_0 rfl (lv_at hl 1 rfl) ?_
  refine r_i2l C dX10_said_1 (⟨by omega, by omega⟩) ?_
  refine r_lconst 0 C dX10_said_2 rfl ?_
  refine r_ldc2N 99 C kv_X10_213 dX10_said_3 rfl ?_
  refine ro_callS (As := [jV x, mV 0, mV 99]) (rest := []) C hK (c_X10_in l g x ((0 : Nat) : Int) ((99 : Nat) : Int) (by first | assumption | exact ⟨by omega, by omega⟩) (by first | assumption | exact ⟨by omega, by omega⟩) (by first | assumption | exact ⟨by omega, by omega⟩)) (hP.sub (ws' := []) [] rfl) kc_X10_in kl_X10_65 kn_X10 ks_X10_in nk_X10_in (rm_lt (by decide) (by decide)) hl rfl (Nat.le_of_ble_eq_true rfl) dX10_said_6 (fun r_1 hr_2 => ?_)
  subst hr_2
  refine r_beq 22 C dX10_said_9 rfl (fun h_3 => ?_) (fun h_3 => ?_)
  · skip
    refine r_iconstZ C dX10_said_22 ?_
    exact ret dX10_said_23 (by unfold sSaid; rw [if_neg (by omega)])
  refine lv_iload_n C.1 C.2.1 dX10_said_12 rfl (lv_at hl 2 rfl) ?_
  refine r_i2l C dX10_said_13 (⟨by omega, by omega⟩) ?_
  refine r_lconst 0 C dX10_said_14 rfl ?_
  refine r_lconst 1 C dX10_said_15 rfl ?_
  refine ro_callS (As := [jV y, mV 0, mV 1]) (rest := []) C hK (c_X10_in l g y ((0 : Nat) : Int) ((1 : Nat) : Int) (by first | assumption | exact ⟨by omega, by omega⟩) (by first | assumption | exact ⟨by omega, by omega⟩) (by first | assumption | exact ⟨by omega, by omega⟩)) (hP.sub (ws' := []) [] rfl) kc_X10_in kl_X10_65 kn_X10 ks_X10_in nk_X10_in (rm_lt (by decide) (by decide)) hl rfl (Nat.le_of_ble_eq_true rfl) dX10_said_16 (fun r_4 hr_5 => ?_)
  subst hr_5
  refine r_bne 24 C dX10_said_19 rfl (fun h_6 => ?_) (fun h_6 => ?_)
  · skip
    obtain ⟨xn, rfl⟩ : ∃ n : Nat, x = (n : Int) := ⟨x.toNat, by omega⟩
    have hl : lv_has ls 9 [(0, .ref mo0), (1, nV xn), (2, zV y)] := hl
    refine r_iconst 0 C dX10_said_24 rfl ?_
    refine lv_istore_n (lv' := [(3, nV 0), (0, .ref mo0), (1, nV xn), (2, zV y)]) C.1 C.2.1 dX10_said_25 rfl hl (by decide) rfl (fun ls hl => ?_)
    refine r_iconstZ C dX10_said_26 ?_
    refine lv_istore (lv' := [(4, zV (-1)), (3, nV 0), (0, .ref mo0), (1, nV xn), (2, zV y)]) C.1 C.2.1 dX10_said_27 hl (by decide) rfl (fun ls hl => ?_)
    refine r_iconst 0 C dX10_said_29 rfl ?_
    refine lv_istore (lv' := [(5, nV 0), (4, zV (-1)), (3, nV 0), (0, .ref mo0), (1, nV xn), (2, zV y)]) C.1 C.2.1 dX10_said_30 hl (by decide) rfl (fun ls hl => ?_)
    have L32 : ∀ (n_32 : Nat) (i : Nat) (bb : Nat) (mm : Int32) (ls : Array Slot) (hi : i ≤ 2 ^ k) (hst : (i = 0 ∧ bb = 0 ∧ mm = iI (-1)) ∨ (0 < i ∧ sdF sg wo k xn (i - 1) = (bb, mm))) (hm : 2 ^ k - i < n_32) (hl : lv_has ls 9 [(5, nV i), (4, .int mm), (3, nV bb), (0, .ref mo0), (1, nV xn), (2, zV y)]), W p l e (rD 4) s m args below meth c s.heap [] 0 0 Q (F0 m 32 ls []) := by
      intro n_32
      induction n_32 with
      | zero => intro i bb mm ls hi hst hm hl; exact absurd hm (Nat.not_lt_zero _)
      | succ n_32 ih_32 =>
        intro i bb mm ls hi hst hm hl
        have h2k := pw8 hk
        refine lv_iload C.1 C.2.1 dX10_said_32 (lv_at hl 0 rfl) ?_
        refine r_iconst 1 C dX10_said_34 rfl ?_
        refine lv_aload_n C.1 C.2.1 dX10_said_35 rfl (lv_at hl 3 rfl) ?_
        refine r_get C hK hP kw_X10 (ci := 8) rfl 0 4 (by decide) kf_X10_17 rfl rfl dX10_said_36 ?_
        refine r_iconst 0 C dX10_said_39 rfl ?_
        refine r_aldN C hK hP 1 rfl ⟨by omega, by omega⟩ dX10_said_40 ?_
        refine r_top (v' := nV k) (by rw [hk0]) ?_
        refine lv_ishl C.1 C.2.1 dX10_said_41 ?_
        refine r_topRN (2 ^ k) (by exact shl_1 k (by omega)) ?_
        refine r_cge 146 C dX10_said_42 rfl ⟨rgN (by omega), rgN (by omega)⟩ (fun h_7 => ?_) (fun h_7 => ?_)
        · skip
          refine lv_iload_n C.1 C.2.1 dX10_said_146 rfl (lv_at hl 5 rfl) ?_
          refine r_ine 154 C dX10_said_147 rfl (⟨by omega, by omega⟩) (fun h_8 => ?_) (fun h_8 => ?_)
          · skip
            refine lv_iload C.1 C.2.1 dX10_said_154 (lv_at hl 1 rfl) ?_
            exact ret dX10_said_156 (by have hq : sdF sg wo k xn (2 ^ k - 1) = (bb, mm) := (by rcases hst with q | q; (exfalso; omega); (rw [show 2 ^ k = i by omega]; exact q.2)); unfold sSaid; rw [if_pos (by omega), if_neg (by omega)]; show _ = (sdF sg wo k xn (2 ^ k - 1)).2; rw [hq])
          refine lv_iload_n C.1 C.2.1 dX10_said_150 rfl (lv_at hl 2 rfl) ?_
          refine r_goto 156 C dX10_said_151 rfl ?_
          exact ret dX10_said_156 (by have hq : sdF sg wo k xn (2 ^ k - 1) = (bb, mm) := (by rcases hst with q | q; (exfalso; omega); (rw [show 2 ^ k = i by omega]; exact q.2)); unfold sSaid; rw [if_pos (by omega), if_pos (by omega)]; show _ = iI (((sdF sg wo k xn (2 ^ k - 1)).1 : Nat) : Int); rw [hq])
        refine r_iconst 0 C dX10_said_45 rfl ?_
        refine lv_istore (lv' := [(6, nV 0), (5, nV i), (4, .int mm), (3, nV bb), (0, .ref mo0), (1, nV xn), (2, zV y)]) C.1 C.2.1 dX10_said_46 hl (by decide) rfl (fun ls hl => ?_)
        refine r_iconst 0 C dX10_said_48 rfl ?_
        refine lv_istore (lv' := [(7, nV 0), (6, nV 0), (5, nV i), (4, .int mm), (3, nV bb), (0, .ref mo0), (1, nV xn), (2, zV y)]) C.1 C.2.1 dX10_said_49 hl (by decide) rfl (fun ls hl => ?_)
        refine r_iconst 0 C dX10_said_51 rfl ?_
        refine lv_istore (lv' := [(8, nV 0), (7, nV 0), (6, nV 0), (5, nV i), (4, .int mm), (3, nV bb), (0, .ref mo0), (1, nV xn), (2, zV y)]) C.1 C.2.1 dX10_said_52 hl (by decide) rfl (fun ls hl => ?_)
        have L54 : ∀ (n_54 : Nat) (j : Nat) (s2 : Int32) (w2 : Int32) (ls : Array Slot) (hj : j ≤ k) (hs2 : s2 = wsum (fun j => fl (sg j)) (iI ((i : Nat) : Int)) j) (hw2 : w2 = wsum wo (iI ((i : Nat) : Int)) j) (hm : k - j < n_54) (hl : lv_has ls 9 [(8, nV j), (7, .int w2), (6, .int s2), (5, nV i), (4, .int mm), (3, nV bb), (0, .ref mo0), (1, nV xn), (2, zV y)]), W p l e (rD 4) s m args below meth c s.heap [] 0 0 Q (F0 m 54 ls []) := by
          intro n_54
          induction n_54 with
          | zero => intro j s2 w2 ls hj hs2 hw2 hm hl; exact absurd hm (Nat.not_lt_zero _)
          | succ n_54 ih_54 =>
            intro j s2 w2 ls hj hs2 hw2 hm hl
            refine lv_iload C.1 C.2.1 dX10_said_54 (lv_at hl 0 rfl) ?_
            refine lv_aload_n C.1 C.2.1 dX10_said_56 rfl (lv_at hl 6 rfl) ?_
            refine r_get C hK hP kw_X10 (ci := 8) rfl 0 4 (by decide) kf_X10_17 rfl rfl dX10_said_57 ?_
            refine r_iconst 0 C dX10_said_60 rfl ?_
            refine r_aldN C hK hP 1 rfl ⟨by omega, by omega⟩ dX10_said_61 ?_
            refine r_top (v' := nV k) (by rw [hk0]) ?_
            refine r_cge 120 C dX10_said_62 rfl ⟨rgN (by omega), rgN (by omega)⟩ (fun h_9 => ?_) (fun h_9 => ?_)
            · skip
              rw [show j = k by omega] at hs2 hw2
              refine lv_iload C.1 C.2.1 dX10_said_120 (lv_at hl 2 rfl) ?_
              refine lv_iload_n C.1 C.2.1 dX10_said_122 rfl (lv_at hl 7 rfl) ?_
              refine lv_icmp_gt (tgt := 140) C.1 C.2.1 dX10_said_123 rfl (fun g2 => ?_) (fun g2 => ?_)
              · skip
                refine r_incN (k := 3) (n := 1) [(5, nV (i + 1)), (8, nV j), (7, .int w2), (6, .int s2), (4, .int mm), (3, nV bb), (0, .ref mo0), (1, nV xn), (2, zV y)] C dX10_said_140 hl rfl rfl (by decide) rfl (fun ls hl => ?_)
                refine r_goto 32 C dX10_said_143 rfl ?_
                exact ih_32 (i + 1) bb mm _ (by first | assumption | omega) (Or.inr ⟨by omega, by rw [Nat.add_sub_cancel]; rcases hst with q | q; (exfalso; obtain ⟨rfl, -, hq⟩ := q; rw [wsum_0 wo k hk] at hw2; rw [wsum_0 _ k hk] at hs2; rw [hs2] at g2; first | exact absurd g2 (by rw [iI_lt (rgN (by omega)) (rgN (by omega))]; omega) | (rw [hw2, hq] at g1; exact absurd g1 (by decide))); (obtain ⟨i2, rfl⟩ : ∃ i2, i = i2 + 1 := ⟨i - 1, by omega⟩; have q2 := q.2; rw [Nat.add_sub_cancel] at q2; show (if (sdF sg wo k xn i2).2 < wsum wo (iI ((i2 + 1 : Nat) : Int)) k ∧ wsum (fun j => fl (sg j)) (iI ((i2 + 1 : Nat) : Int)) k ≤ iI ((xn : Nat) : Int) then _ else _) = _; rw [q2, ← hw2, ← hs2]; exact if_neg (fun q => by first | exact absurd g2 (Int32.not_lt.mpr q.2) | exact absurd g1 (Int32.not_le.mpr q.1)))⟩) (by omega) (lv_sub hl [0, 4, 5, 6, 7, 8] rfl)
              refine lv_iload C.1 C.2.1 dX10_said_126 (lv_at hl 1 rfl) ?_
              refine lv_iload C.1 C.2.1 dX10_said_128 (lv_at hl 4 rfl) ?_
              refine lv_icmp_le (tgt := 140) C.1 C.2.1 dX10_said_130 rfl (fun g1 => ?_) (fun g1 => ?_)
              · skip
                refine r_incN (k := 3) (n := 1) [(5, nV (i + 1)), (8, nV j), (7, .int w2), (6, .int s2), (4, .int mm), (3, nV bb), (0, .ref mo0), (1, nV xn), (2, zV y)] C dX10_said_140 hl rfl rfl (by decide) rfl (fun ls hl => ?_)
                refine r_goto 32 C dX10_said_143 rfl ?_
                exact ih_32 (i + 1) bb mm _ (by first | assumption | omega) (Or.inr ⟨by omega, by rw [Nat.add_sub_cancel]; rcases hst with q | q; (exfalso; obtain ⟨rfl, -, hq⟩ := q; rw [wsum_0 wo k hk] at hw2; rw [wsum_0 _ k hk] at hs2; rw [hs2] at g2; first | exact absurd g2 (by rw [iI_lt (rgN (by omega)) (rgN (by omega))]; omega) | (rw [hw2, hq] at g1; exact absurd g1 (by decide))); (obtain ⟨i2, rfl⟩ : ∃ i2, i = i2 + 1 := ⟨i - 1, by omega⟩; have q2 := q.2; rw [Nat.add_sub_cancel] at q2; show (if (sdF sg wo k xn i2).2 < wsum wo (iI ((i2 + 1 : Nat) : Int)) k ∧ wsum (fun j => fl (sg j)) (iI ((i2 + 1 : Nat) : Int)) k ≤ iI ((xn : Nat) : Int) then _ else _) = _; rw [q2, ← hw2, ← hs2]; exact if_neg (fun q => by first | exact absurd g2 (Int32.not_lt.mpr q.2) | exact absurd g1 (Int32.not_le.mpr q.1)))⟩) (by omega) (lv_sub hl [0, 4, 5, 6, 7, 8] rfl)
              refine lv_iload C.1 C.2.1 dX10_said_133 (lv_at hl 3 rfl) ?_
              refine lv_istore_n (lv' := [(3, nV i), (8, nV j), (7, .int w2), (6, .int s2), (5, nV i), (4, .int mm), (0, .ref mo0), (1, nV xn), (2, zV y)]) C.1 C.2.1 dX10_said_135 rfl hl (by decide) rfl (fun ls hl => ?_)
              refine lv_iload C.1 C.2.1 dX10_said_136 (lv_at hl 2 rfl) ?_
              refine lv_istore (lv' := [(4, .int w2), (3, nV i), (8, nV j), (7, .int w2), (6, .int s2), (5, nV i), (0, .ref mo0), (1, nV xn), (2, zV y)]) C.1 C.2.1 dX10_said_138 hl (by decide) rfl (fun ls hl => ?_)
              refine r_incN (k := 5) (n := 1) [(5, nV (i + 1)), (4, .int w2), (3, nV i), (8, nV j), (7, .int w2), (6, .int s2), (0, .ref mo0), (1, nV xn), (2, zV y)] C dX10_said_140 hl rfl rfl (by decide) rfl (fun ls hl => ?_)
              refine r_goto 32 C dX10_said_143 rfl ?_
              exact ih_32 (i + 1) i w2 _ (by first | assumption | omega) (Or.inr ⟨by omega, by rw [Nat.add_sub_cancel]; rcases hst with q | q; (obtain ⟨rfl, -, -⟩ := q; rw [hw2, wsum_0 wo k hk]; rfl); (obtain ⟨i2, rfl⟩ : ∃ i2, i = i2 + 1 := ⟨i - 1, by omega⟩; have q2 := q.2; rw [Nat.add_sub_cancel] at q2; show (if (sdF sg wo k xn i2).2 < wsum wo (iI ((i2 + 1 : Nat) : Int)) k ∧ wsum (fun j => fl (sg j)) (iI ((i2 + 1 : Nat) : Int)) k ≤ iI ((xn : Nat) : Int) then _ else _) = _; rw [q2, ← hw2, ← hs2]; exact if_pos ⟨Int32.not_le.mp g1, Int32.not_lt.mp g2⟩)⟩) (by omega) (lv_sub hl [0, 1, 2, 6, 7, 8] rfl)
            refine lv_iload C.1 C.2.1 dX10_said_65 (lv_at hl 2 rfl) ?_
            refine lv_iload C.1 C.2.1 dX10_said_67 (lv_at hl 3 rfl) ?_
            refine lv_iload C.1 C.2.1 dX10_said_69 (lv_at hl 0 rfl) ?_
            refine lv_ishr C.1 C.2.1 dX10_said_71 ?_
            refine r_iconst 1 C dX10_said_72 rfl ?_
            refine lv_iand C.1 C.2.1 dX10_said_73 ?_
            refine lv_aload_n C.1 C.2.1 dX10_said_74 rfl (lv_at hl 6 rfl) ?_
            refine r_get C hK hP kw_X10 (ci := 8) rfl 0 5 (by decide) kf_X10_20 rfl rfl dX10_said_75 ?_
            refine r_iconst 2 C dX10_said_78 rfl ?_
            refine lv_iload C.1 C.2.1 dX10_said_79 (lv_at hl 0 rfl) ?_
            refine r_mulN C dX10_said_81 ?_
            refine r_aldN C hK hP 2 rfl ⟨by omega, by omega⟩ dX10_said_82 ?_
            refine r_top (v' := nV (sg j)) (by rw [hwd j (by omega)]) ?_
            have hf_10 := hsg j
            refine ro_callS (As := [nV (sg j)]) (rest := [.int (((iI ((i : Nat) : Int)) >>> ((iI ((j : Nat) : Int)) &&& 31)) &&& (iI ((1 : Nat) : Int))), .int s2]) C hK (c_X10_flourOf l g (sg j) (by first | assumption | omega)) (hP.sub (ws' := []) [] rfl) kc_X10_flourOf kl_X10_114 kn_X10 ks_X10_flourOf nk_X10_flourOf (rm_lt (by decide) (by decide)) hl rfl (Nat.le_of_ble_eq_true rfl) dX10_said_83 (fun r_11 hr_12 => ?_)
            subst hr_12
            refine lv_imul C.1 C.2.1 dX10_said_86 ?_
            refine lv_iadd C.1 C.2.1 dX10_said_87 ?_
            refine lv_istore (lv' := [(6, .int (s2 + ((((iI ((i : Nat) : Int)) >>> ((iI ((j : Nat) : Int)) &&& 31)) &&& (iI ((1 : Nat) : Int))) * (iI ((fl (sg j) : Nat) : Int))))), (8, nV j), (7, .int w2), (5, nV i), (4, .int mm), (3, nV bb), (0, .ref mo0), (1, nV xn), (2, zV y)]) C.1 C.2.1 dX10_said_88 hl (by decide) rfl (fun ls hl => ?_)
            refine lv_iload C.1 C.2.1 dX10_said_90 (lv_at hl 2 rfl) ?_
            refine lv_iload C.1 C.2.1 dX10_said_92 (lv_at hl 3 rfl) ?_
            refine lv_iload C.1 C.2.1 dX10_said_94 (lv_at hl 1 rfl) ?_
            refine lv_ishr C.1 C.2.1 dX10_said_96 ?_
            refine r_iconst 1 C dX10_said_97 rfl ?_
            refine lv_iand C.1 C.2.1 dX10_said_98 ?_
            refine lv_aload_n C.1 C.2.1 dX10_said_99 rfl (lv_at hl 6 rfl) ?_
            refine r_get C hK hP kw_X10 (ci := 8) rfl 0 5 (by decide) kf_X10_20 rfl rfl dX10_said_100 ?_
            refine r_iconst 2 C dX10_said_103 rfl ?_
            refine lv_iload C.1 C.2.1 dX10_said_104 (lv_at hl 1 rfl) ?_
            refine r_mulN C dX10_said_106 ?_
            refine r_iconst 1 C dX10_said_107 rfl ?_
            refine r_addN C dX10_said_108 ?_
            refine r_aldN C hK hP 2 rfl ⟨by omega, by omega⟩ dX10_said_109 ?_
            refine r_top (v' := nV (wo j)) (by rw [hwv j (by omega)]) ?_
            refine lv_imul C.1 C.2.1 dX10_said_110 ?_
            refine lv_iadd C.1 C.2.1 dX10_said_111 ?_
            refine lv_istore (lv' := [(7, .int (w2 + ((((iI ((i : Nat) : Int)) >>> ((iI ((j : Nat) : Int)) &&& 31)) &&& (iI ((1 : Nat) : Int))) * (iI ((wo j : Nat) : Int))))), (6, .int (s2 + ((((iI ((i : Nat) : Int)) >>> ((iI ((j : Nat) : Int)) &&& 31)) &&& (iI ((1 : Nat) : Int))) * (iI ((fl (sg j) : Nat) : Int))))), (8, nV j), (5, nV i), (4, .int mm), (3, nV bb), (0, .ref mo0), (1, nV xn), (2, zV y)]) C.1 C.2.1 dX10_said_112 hl (by decide) rfl (fun ls hl => ?_)
            refine r_incN (k := 2) (n := 1) [(8, nV (j + 1)), (7, .int (w2 + ((((iI ((i : Nat) : Int)) >>> ((iI ((j : Nat) : Int)) &&& 31)) &&& (iI ((1 : Nat) : Int))) * (iI ((wo j : Nat) : Int))))), (6, .int (s2 + ((((iI ((i : Nat) : Int)) >>> ((iI ((j : Nat) : Int)) &&& 31)) &&& (iI ((1 : Nat) : Int))) * (iI ((fl (sg j) : Nat) : Int))))), (5, nV i), (4, .int mm), (3, nV bb), (0, .ref mo0), (1, nV xn), (2, zV y)] C dX10_said_114 hl rfl rfl (by decide) rfl (fun ls hl => ?_)
            refine r_goto 54 C dX10_said_117 rfl ?_
            exact ih_54 (j + 1) (s2 + ((((iI ((i : Nat) : Int)) >>> ((iI ((j : Nat) : Int)) &&& 31)) &&& (iI ((1 : Nat) : Int))) * (iI ((fl (sg j) : Nat) : Int)))) (w2 + ((((iI ((i : Nat) : Int)) >>> ((iI ((j : Nat) : Int)) &&& 31)) &&& (iI ((1 : Nat) : Int))) * (iI ((wo j : Nat) : Int)))) _ (by first | assumption | omega) (by rw [hs2]; rfl) (by rw [hw2]; rfl) (by omega) (lv_sub hl [0, 1, 2, 3, 4, 5, 6, 7, 8] rfl)
        exact L54 (k - 0 + 1) 0 (iI ((0 : Nat) : Int)) (iI ((0 : Nat) : Int)) _ (by first | assumption | omega) (rfl) (rfl) (Nat.lt_succ_self _) (lv_sub hl [0, 1, 2, 3, 4, 5, 6, 7, 8] rfl)
    exact L32 (2 ^ k - 0 + 1) 0 0 (iI (-1)) _ (Nat.zero_le _) (Or.inl ⟨rfl, rfl, rfl⟩) (Nat.lt_succ_self _) (lv_sub hl [0, 1, 2, 3, 4, 5] rfl)
  refine r_iconstZ C dX10_said_22 ?_
  exact ret dX10_said_23 (by unfold sSaid; rw [if_neg (by omega)])
set_option maxHeartbeats 4000000 in
set_option maxRecDepth 100000 in
theorem c_X10_told (l : Launch) (g : GG) (mo0 : Nat) (mA1 : Nat) (mA3 : Nat) (mA4 : Nat) (mA5 : Nat) (mA6 : Nat) (mA7 : Nat) (mA8 : Nat) (mA9 : Nat) (mA10 : Nat) (mA11 : Nat) (mA12 : Nat) (mA15 : Nat) (mA16 : Nat) (mA17 : Nat) (mA20 : Nat) (mL : Nat) (mAt : Nat) (kz : Nat) (dn : Nat) (mAb : Nat) (mBe : Nat) (mCl : Int) (mbs : Nat → Nat) (mba : Nat → Nat) (kn : Nat → Nat) (nb : Nat) (x : Int) (y : Int) (hn0 : mbs 0 = nb) (hnb : nb ≤ 5) (hba : ∀ j, j < nb → mba j = kn j) (hx : rg x) (hy : rg y) : ROi g l yX10_told cX10_told 7 (some .int) 4 [(mo0, .inr (8, [nV mL, .ref mA1, nV mAt, .ref mA3, .ref mA4, .ref mA5, .ref mA6, .ref mA7, .ref mA8, .ref mA9, .ref mA10, .ref mA11, .ref mA12, nV kz, nV dn, .ref mA15, .ref mA16, .ref mA17, mV mAb, mV mBe, .ref mA20, zV mCl])), (mA8, cN g 2 mbs), (mA9, cN g 10 mba)] [.ref mo0, zV x, zV y] (fun r => r = iI (sTold kn nb x y)) := by
  refine ro_startI (by decide +kernel) (Nat.le_of_ble_eq_true rfl) ?_
  intro p e s m args below meth c Q ls C hK hP ret hl
  have C : CT p s m args meth c cX10_told RX10 7 := C
  have hl : lv_has ls 7 [(0, .ref mo0), (1, zV x), (2, zV y)] := hl
  refine lv_iload_n C.1 C.2.1 dX10_told_0 rfl (lv_at hl 1 rfl) ?_
  refine r_i2l C dX10_told_1 (⟨by omega, by omega⟩) ?_
  refine r_lconst 0 C dX10_told_2 rfl ?_
  refine r_ldc2N 63 C kv_X10_215 dX10_told_3 rfl ?_
  refine ro_callS (As := [jV x, mV 0, mV 63]) (rest := []) C hK (c_X10_in l g x ((0 : Nat) : Int) ((63 : Nat) : Int) (by first | assumption | exact ⟨by omega, by omega⟩) (by first | assumption | exact ⟨by omega, by omega⟩) (by first | assumption | exact ⟨by omega, by omega⟩)) (hP.sub (ws' := []) [] rfl) kc_X10_in kl_X10_65 kn_X10 ks_X10_in nk_X10_in (rm_lt (by decide) (by decide)) hl rfl (Nat.le_of_ble_eq_true rfl) dX10_told_6 (fun r_1 hr_2 => ?_)
  subst hr_2
  refine r_beq 22 C dX10_told_9 rfl (fun h_3 => ?_) (fun h_3 => ?_)
  · skip
    refine r_iconstZ C dX10_told_22 ?_
    exact ret dX10_told_23 (by unfold sTold; rw [if_neg (by omega)])
  refine lv_iload_n C.1 C.2.1 dX10_told_12 rfl (lv_at hl 2 rfl) ?_
  refine r_i2l C dX10_told_13 (⟨by omega, by omega⟩) ?_
  refine r_lconst 0 C dX10_told_14 rfl ?_
  refine r_lconst 1 C dX10_told_15 rfl ?_
  refine ro_callS (As := [jV y, mV 0, mV 1]) (rest := []) C hK (c_X10_in l g y ((0 : Nat) : Int) ((1 : Nat) : Int) (by first | assumption | exact ⟨by omega, by omega⟩) (by first | assumption | exact ⟨by omega, by omega⟩) (by first | assumption | exact ⟨by omega, by omega⟩)) (hP.sub (ws' := []) [] rfl) kc_X10_in kl_X10_65 kn_X10 ks_X10_in nk_X10_in (rm_lt (by decide) (by decide)) hl rfl (Nat.le_of_ble_eq_true rfl) dX10_told_16 (fun r_4 hr_5 => ?_)
  subst hr_5
  refine r_bne 24 C dX10_told_19 rfl (fun h_6 => ?_) (fun h_6 => ?_)
  · skip
    obtain ⟨xn, rfl⟩ : ∃ n : Nat, x = (n : Int) := ⟨x.toNat, by omega⟩
    have hl : lv_has ls 7 [(0, .ref mo0), (1, nV xn), (2, zV y)] := hl
    refine r_iconst 0 C dX10_told_24 rfl ?_
    refine lv_istore_n (lv' := [(3, nV 0), (0, .ref mo0), (1, nV xn), (2, zV y)]) C.1 C.2.1 dX10_told_25 rfl hl (by decide) rfl (fun ls hl => ?_)
    refine r_bipushZ C dX10_told_26 (by decide) ?_
    refine lv_istore (lv' := [(4, zV (-4)), (3, nV 0), (0, .ref mo0), (1, nV xn), (2, zV y)]) C.1 C.2.1 dX10_told_28 hl (by decide) rfl (fun ls hl => ?_)
    refine r_iconst 0 C dX10_told_30 rfl ?_
    refine lv_istore (lv' := [(5, nV 0), (4, zV (-4)), (3, nV 0), (0, .ref mo0), (1, nV xn), (2, zV y)]) C.1 C.2.1 dX10_told_31 hl (by decide) rfl (fun ls hl => ?_)
    refine r_iconst 0 C dX10_told_33 rfl ?_
    refine lv_istore (lv' := [(6, nV 0), (5, nV 0), (4, zV (-4)), (3, nV 0), (0, .ref mo0), (1, nV xn), (2, zV y)]) C.1 C.2.1 dX10_told_34 hl (by decide) rfl (fun ls hl => ?_)
    have L36 : ∀ (n_36 : Nat) (i : Nat) (tt : Int32) (oo : Int) (cc : Nat) (ls : Array Slot) (hi : i ≤ nb) (ht : tt = bset (kno kn (iI ((xn : Nat) : Int))) i) (ho : oo = tone (kno kn (iI ((xn : Nat) : Int))) i) (hcc : cc = ct (kno kn (iI ((xn : Nat) : Int))) i) (hm : nb - i < n_36) (hl : lv_has ls 7 [(6, nV i), (5, nV cc), (4, zV oo), (3, .int tt), (0, .ref mo0), (1, nV xn), (2, zV y)]), W p l e (rD 4) s m args below meth c s.heap [] 0 0 Q (F0 m 36 ls []) := by
      intro n_36
      induction n_36 with
      | zero => intro i tt oo cc ls hi ht ho hcc hm hl; exact absurd hm (Nat.not_lt_zero _)
      | succ n_36 ih_36 =>
        intro i tt oo cc ls hi ht ho hcc hm hl
        have hcl := ct_le (kno kn (iI ((xn : Nat) : Int))) i
        have htl := tone_bd (kno kn (iI ((xn : Nat) : Int))) i
        refine lv_iload C.1 C.2.1 dX10_told_36 (lv_at hl 0 rfl) ?_
        refine lv_aload_n C.1 C.2.1 dX10_told_38 rfl (lv_at hl 4 rfl) ?_
        refine r_get C hK hP kw_X10 (ci := 8) rfl 0 8 (by decide) kf_X10_29 rfl rfl dX10_told_39 ?_
        refine r_iconst 0 C dX10_told_42 rfl ?_
        refine r_aldN C hK hP 1 rfl ⟨by omega, by omega⟩ dX10_told_43 ?_
        refine r_top (v' := nV nb) (by rw [hn0]) ?_
        refine r_cge 80 C dX10_told_44 rfl ⟨rgN (by omega), rgN (by omega)⟩ (fun h_7 => ?_) (fun h_7 => ?_)
        · skip
          refine lv_iload_n C.1 C.2.1 dX10_told_80 rfl (lv_at hl 6 rfl) ?_
          have hcl2 := ct_le (kno kn (iI ((xn : Nat) : Int))) nb
          obtain ⟨k1, k2⟩ := told_ok (kno kn (iI ((xn : Nat) : Int))) hnb
          rw [show i = nb by omega] at ht ho hcc
          rw [bset_N _ nb (by omega)] at ht
          refine r_ine 88 C dX10_told_81 rfl (⟨by omega, by omega⟩) (fun h_8 => ?_) (fun h_8 => ?_)
          · skip
            refine lv_iload C.1 C.2.1 dX10_told_88 (lv_at hl 1 rfl) ?_
            refine r_iconst 1 C dX10_told_90 rfl ?_
            refine r_cne 99 C dX10_told_91 rfl ⟨rgN (by omega), rgN (by decide)⟩ (fun h_9 => ?_) (fun h_9 => ?_)
            · skip
              refine r_bipushZ C dX10_told_99 (by decide) ?_
              exact ret dX10_told_101 (by unfold sTold; rw [if_pos (by omega), if_neg (by omega), k1, if_neg (by omega)])
            refine lv_iload C.1 C.2.1 dX10_told_94 (lv_at hl 2 rfl) ?_
            refine r_goto 101 C dX10_told_96 rfl ?_
            exact ret dX10_told_101 (by unfold sTold; rw [if_pos (by omega), if_neg (by omega), k1, if_pos (by omega), ho]; exact iI_cast (k2 (by omega)).symm)
          refine lv_iload_n C.1 C.2.1 dX10_told_84 rfl (lv_at hl 3 rfl) ?_
          refine r_goto 101 C dX10_told_85 rfl ?_
          exact ret dX10_told_101 (by unfold sTold; rw [if_pos (by omega), if_pos (by omega), ht])
        refine lv_aload_n C.1 C.2.1 dX10_told_47 rfl (lv_at hl 4 rfl) ?_
        refine r_get C hK hP kw_X10 (ci := 8) rfl 0 9 (by decide) kf_X10_32 rfl rfl dX10_told_48 ?_
        refine lv_iload C.1 C.2.1 dX10_told_51 (lv_at hl 0 rfl) ?_
        refine r_aldN C hK hP 2 rfl ⟨by omega, by omega⟩ dX10_told_53 ?_
        refine r_top (v' := nV (kn i)) (by rw [hba i (by omega)]) ?_
        refine lv_iload_n C.1 C.2.1 dX10_told_54 rfl (lv_at hl 5 rfl) ?_
        refine lv_iand C.1 C.2.1 dX10_told_55 ?_
        refine lv_iload_n C.1 C.2.1 dX10_told_56 rfl (lv_at hl 5 rfl) ?_
        refine lv_icmp_ne (tgt := 74) C.1 C.2.1 dX10_told_57 rfl (fun g1 => ?_) (fun g1 => ?_)
        · skip
          refine r_incN (k := 0) (n := 1) [(6, nV (i + 1)), (5, nV cc), (4, zV oo), (3, .int tt), (0, .ref mo0), (1, nV xn), (2, zV y)] C dX10_told_74 hl rfl rfl (by decide) rfl (fun ls hl => ?_)
          refine r_goto 36 C dX10_told_77 rfl ?_
          exact ih_36 (i + 1) tt oo cc _ (by first | assumption | omega) (by rw [ht]; show _ = (if kno kn (iI ((xn : Nat) : Int)) i = true then _ else _); rw [if_neg (by unfold kno; simpa using g1)]) (by show _ = (if kno kn (iI ((xn : Nat) : Int)) i = true then _ else _); rw [if_neg (by unfold kno; simpa using g1)]; exact ho) (by rw [hcc]; show _ = ct (kno kn (iI ((xn : Nat) : Int))) i + (if kno kn (iI ((xn : Nat) : Int)) i = true then 1 else 0); rw [if_neg (by unfold kno; simpa using g1), Nat.add_zero]) (by omega) (lv_sub hl [0, 1, 2, 3, 4, 5, 6] rfl)
        refine lv_iload_n C.1 C.2.1 dX10_told_60 rfl (lv_at hl 3 rfl) ?_
        refine r_iconst 1 C dX10_told_61 rfl ?_
        refine lv_iload C.1 C.2.1 dX10_told_62 (lv_at hl 0 rfl) ?_
        refine lv_ishl C.1 C.2.1 dX10_told_64 ?_
        refine lv_ior C.1 C.2.1 dX10_told_65 ?_
        refine lv_istore_n (lv' := [(3, .int (tt ||| ((iI ((1 : Nat) : Int)) <<< ((iI ((i : Nat) : Int)) &&& 31)))), (6, nV i), (5, nV cc), (4, zV oo), (0, .ref mo0), (1, nV xn), (2, zV y)]) C.1 C.2.1 dX10_told_66 rfl hl (by decide) rfl (fun ls hl => ?_)
        refine lv_iload C.1 C.2.1 dX10_told_67 (lv_at hl 1 rfl) ?_
        refine lv_istore (lv' := [(4, nV i), (3, .int (tt ||| ((iI ((1 : Nat) : Int)) <<< ((iI ((i : Nat) : Int)) &&& 31)))), (6, nV i), (5, nV cc), (0, .ref mo0), (1, nV xn), (2, zV y)]) C.1 C.2.1 dX10_told_69 hl (by decide) rfl (fun ls hl => ?_)
        refine r_incN (k := 3) (n := 1) [(5, nV (cc + 1)), (4, nV i), (3, .int (tt ||| ((iI ((1 : Nat) : Int)) <<< ((iI ((i : Nat) : Int)) &&& 31)))), (6, nV i), (0, .ref mo0), (1, nV xn), (2, zV y)] C dX10_told_71 hl rfl rfl (by decide) rfl (fun ls hl => ?_)
        refine r_incN (k := 3) (n := 1) [(6, nV (i + 1)), (5, nV (cc + 1)), (4, nV i), (3, .int (tt ||| ((iI ((1 : Nat) : Int)) <<< ((iI ((i : Nat) : Int)) &&& 31)))), (0, .ref mo0), (1, nV xn), (2, zV y)] C dX10_told_74 hl rfl rfl (by decide) rfl (fun ls hl => ?_)
        refine r_goto 36 C dX10_told_77 rfl ?_
        exact ih_36 (i + 1) (tt ||| ((iI ((1 : Nat) : Int)) <<< ((iI ((i : Nat) : Int)) &&& 31))) ((i : Nat) : Int) (cc + 1) _ (by first | assumption | omega) (by rw [ht]; show _ = (if kno kn (iI ((xn : Nat) : Int)) i = true then _ else _); rw [if_pos (show kno kn (iI ((xn : Nat) : Int)) i = true from decide_eq_true g1)]) (by show _ = (if kno kn (iI ((xn : Nat) : Int)) i = true then _ else _); rw [if_pos (show kno kn (iI ((xn : Nat) : Int)) i = true from decide_eq_true g1)]) (by rw [hcc]; show _ = ct (kno kn (iI ((xn : Nat) : Int))) i + (if kno kn (iI ((xn : Nat) : Int)) i = true then 1 else 0); rw [if_pos (show kno kn (iI ((xn : Nat) : Int)) i = true from decide_eq_true g1)]) (by omega) (lv_sub hl [0, 1, 2, 3, 4, 5, 6] rfl)
    exact L36 (nb - 0 + 1) 0 (iI ((0 : Nat) : Int)) (-4) 0 _ (by first | assumption | omega) (rfl) (rfl) (rfl) (Nat.lt_succ_self _) (lv_sub hl [0, 1, 2, 3, 4, 5, 6] rfl)
  refine r_iconstZ C dX10_told_22 ?_
  exact ret dX10_told_23 (by unfold sTold; rw [if_neg (by omega)])
set_option maxHeartbeats 4000000 in
set_option maxRecDepth 100000 in
theorem c_X10_month (l : Launch) (g : GG) (mo0 : Nat) (mA1 : Nat) (mA3 : Nat) (mA4 : Nat) (mA5 : Nat) (mA6 : Nat) (mA7 : Nat) (mA8 : Nat) (mA9 : Nat) (mA10 : Nat) (mA11 : Nat) (mA12 : Nat) (mA15 : Nat) (mA16 : Nat) (mA17 : Nat) (mA20 : Nat) (mL : Nat) (mAt : Nat) (kz : Nat) (dn : Nat) (mAb : Nat) (mBe : Nat) (mCl : Int) (mtd : Nat → Nat) (mws : Nat → Nat) (mwd : Nat → Nat) (sg : Nat → Nat) (k : Nat) (bi : Nat) (mo : Nat) (x : Int) (y : Int) (w : Int) (hk0 : mws 0 = k) (hk : k ≤ 8) (hsg : ∀ j, sg j < 72) (hwd : ∀ j, j < k → mwd (2 * j) = sg j) (hb0 : mtd 0 = bi) (hb1 : mtd 1 = mo) (hbm : (1 ≤ bi ∧ bi ≤ 9) ∧ (1 ≤ mo ∧ mo ≤ 9)) (hk1 : 1 ≤ k) (hx : rg x) (hy : rg y) (hw : rg w) : ROi g l yX10_month cX10_month 12 (some .int) 4 [(mo0, .inr (8, [nV mL, .ref mA1, nV mAt, .ref mA3, .ref mA4, .ref mA5, .ref mA6, .ref mA7, .ref mA8, .ref mA9, .ref mA10, .ref mA11, .ref mA12, nV kz, nV dn, .ref mA15, .ref mA16, .ref mA17, mV mAb, mV mBe, .ref mA20, zV mCl])), (mA3, cN g 4 mtd), (mA4, cN g 2 mws), (mA5, cN g 32 mwd)] [.ref mo0, zV x, zV y, zV w] (fun r => r = iI (sMon sg k bi mo x y w)) := by
  refine ro_startI (by decide +kernel) (Nat.le_of_ble_eq_true rfl) ?_
  intro p e s m args below meth c Q ls C hK hP ret hl
  have C : CT p s m args meth c cX10_month RX10 12 := C
  have hl : lv_has ls 12 [(0, .ref mo0), (1, zV x), (2, zV y), (3, zV w)] := hl
  refine lv_iload_n C.1 C.2.1 dX10_month_0 rfl (lv_at hl 1 rfl) ?_
  refine r_i2l C dX10_month_1 (⟨by omega, by omega⟩) ?_
  refine r_lconst 0 C dX10_month_2 rfl ?_
  refine r_ldc2N 9999 C kv_X10_217 dX10_month_3 rfl ?_
  refine ro_callS (As := [jV x, mV 0, mV 9999]) (rest := []) C hK (c_X10_in l g x ((0 : Nat) : Int) ((9999 : Nat) : Int) (by first | assumption | exact ⟨by omega, by omega⟩) (by first | assumption | exact ⟨by omega, by omega⟩) (by first | assumption | exact ⟨by omega, by omega⟩)) (hP.sub (ws' := []) [] rfl) kc_X10_in kl_X10_65 kn_X10 ks_X10_in nk_X10_in (rm_lt (by decide) (by decide)) hl rfl (Nat.le_of_ble_eq_true rfl) dX10_month_6 (fun r_1 hr_2 => ?_)
  subst hr_2
  refine r_beq 34 C dX10_month_9 rfl (fun h_3 => ?_) (fun h_3 => ?_)
  · skip
    refine r_iconstZ C dX10_month_34 ?_
    exact ret dX10_month_35 (by unfold sMon; rw [if_neg (by omega)])
  refine lv_iload_n C.1 C.2.1 dX10_month_12 rfl (lv_at hl 2 rfl) ?_
  refine r_i2l C dX10_month_13 (⟨by omega, by omega⟩) ?_
  refine r_lconst 1 C dX10_month_14 rfl ?_
  refine r_ldc2N 30 C kv_X10_219 dX10_month_15 rfl ?_
  refine ro_callS (As := [jV y, mV 1, mV 30]) (rest := []) C hK (c_X10_in l g y ((1 : Nat) : Int) ((30 : Nat) : Int) (by first | assumption | exact ⟨by omega, by omega⟩) (by first | assumption | exact ⟨by omega, by omega⟩) (by first | assumption | exact ⟨by omega, by omega⟩)) (hP.sub (ws' := []) [] rfl) kc_X10_in kl_X10_65 kn_X10 ks_X10_in nk_X10_in (rm_lt (by decide) (by decide)) hl rfl (Nat.le_of_ble_eq_true rfl) dX10_month_18 (fun r_4 hr_5 => ?_)
  subst hr_5
  refine r_beq 34 C dX10_month_21 rfl (fun h_6 => ?_) (fun h_6 => ?_)
  · skip
    refine r_iconstZ C dX10_month_34 ?_
    exact ret dX10_month_35 (by unfold sMon; rw [if_neg (by omega)])
  refine lv_iload_n C.1 C.2.1 dX10_month_24 rfl (lv_at hl 3 rfl) ?_
  refine r_i2l C dX10_month_25 (⟨by omega, by omega⟩) ?_
  refine r_lconst 0 C dX10_month_26 rfl ?_
  refine r_lconst 1 C dX10_month_27 rfl ?_
  refine ro_callS (As := [jV w, mV 0, mV 1]) (rest := []) C hK (c_X10_in l g w ((0 : Nat) : Int) ((1 : Nat) : Int) (by first | assumption | exact ⟨by omega, by omega⟩) (by first | assumption | exact ⟨by omega, by omega⟩) (by first | assumption | exact ⟨by omega, by omega⟩)) (hP.sub (ws' := []) [] rfl) kc_X10_in kl_X10_65 kn_X10 ks_X10_in nk_X10_in (rm_lt (by decide) (by decide)) hl rfl (Nat.le_of_ble_eq_true rfl) dX10_month_28 (fun r_7 hr_8 => ?_)
  subst hr_8
  refine r_bne 36 C dX10_month_31 rfl (fun h_9 => ?_) (fun h_9 => ?_)
  · skip
    obtain ⟨xn, rfl⟩ : ∃ n : Nat, x = (n : Int) := ⟨x.toNat, by omega⟩
    obtain ⟨yn, rfl⟩ : ∃ n : Nat, y = (n : Int) := ⟨y.toNat, by omega⟩
    have hl : lv_has ls 12 [(0, .ref mo0), (1, nV xn), (2, nV yn), (3, zV w)] := hl
    refine r_iconst 0 C dX10_month_36 rfl ?_
    refine lv_istore (lv' := [(4, nV 0), (0, .ref mo0), (1, nV xn), (2, nV yn), (3, zV w)]) C.1 C.2.1 dX10_month_37 hl (by decide) rfl (fun ls hl => ?_)
    refine r_iconst 0 C dX10_month_39 rfl ?_
    refine lv_istore (lv' := [(5, nV 0), (4, nV 0), (0, .ref mo0), (1, nV xn), (2, nV yn), (3, zV w)]) C.1 C.2.1 dX10_month_40 hl (by decide) rfl (fun ls hl => ?_)
    refine r_iconst 0 C dX10_month_42 rfl ?_
    refine lv_istore (lv' := [(6, nV 0), (5, nV 0), (4, nV 0), (0, .ref mo0), (1, nV xn), (2, nV yn), (3, zV w)]) C.1 C.2.1 dX10_month_43 hl (by decide) rfl (fun ls hl => ?_)
    have L45 : ∀ (n_45 : Nat) (i : Nat) (f : Nat) (f2 : Nat) (ls : Array Slot) (hi : i ≤ yn) (hf : f = mnF sg k bi mo xn true i) (hg : f2 = mnF sg k bi mo xn false i) (hm : yn - i < n_45) (hl : lv_has ls 12 [(6, nV i), (5, nV f2), (4, nV f), (0, .ref mo0), (1, nV xn), (2, nV yn), (3, zV w)]), W p l e (rD 4) s m args below meth c s.heap [] 0 0 Q (F0 m 45 ls []) := by
      intro n_45
      induction n_45 with
      | zero => intro i f f2 ls hi hf hg hm hl; exact absurd hm (Nat.not_lt_zero _)
      | succ n_45 ih_45 =>
        intro i f f2 ls hi hf hg hm hl
        refine lv_iload C.1 C.2.1 dX10_month_45 (lv_at hl 0 rfl) ?_
        refine lv_iload_n C.1 C.2.1 dX10_month_47 rfl (lv_at hl 5 rfl) ?_
        refine r_cge 172 C dX10_month_48 rfl ⟨rgN (by omega), rgN (by omega)⟩ (fun h_10 => ?_) (fun h_10 => ?_)
        · skip
          refine lv_iload_n C.1 C.2.1 dX10_month_172 rfl (lv_at hl 6 rfl) ?_
          refine r_ine 181 C dX10_month_173 rfl (⟨by omega, by omega⟩) (fun h_11 => ?_) (fun h_11 => ?_)
          · skip
            refine lv_iload C.1 C.2.1 dX10_month_181 (lv_at hl 1 rfl) ?_
            exact ret dX10_month_183 (by unfold sMon; rw [if_pos (by omega)]; exact iI_cast (by rw [hg, show i = yn by omega, decide_eq_false (by omega)]; rfl))
          refine lv_iload C.1 C.2.1 dX10_month_176 (lv_at hl 2 rfl) ?_
          refine r_goto 183 C dX10_month_178 rfl ?_
          exact ret dX10_month_183 (by unfold sMon; rw [if_pos (by omega)]; exact iI_cast (by rw [hf, show i = yn by omega, decide_eq_true (by omega)]; rfl))
        refine r_ldc2N 7919 C kv_X10_221 dX10_month_51 rfl ?_
        refine lv_iload_n C.1 C.2.1 dX10_month_54 rfl (lv_at hl 4 rfl) ?_
        refine r_i2l C dX10_month_55 (rgN (by omega)) ?_
        refine r_lmulN C dX10_month_56 ?_
        refine r_ldc2N 6151 C kv_X10_223 dX10_month_57 rfl ?_
        refine lv_iload C.1 C.2.1 dX10_month_60 (lv_at hl 0 rfl) ?_
        refine r_i2l C dX10_month_62 (rgN (by omega)) ?_
        refine r_lmulN C dX10_month_63 ?_
        refine r_laddN C dX10_month_64 ?_
        refine r_lconst 1 C dX10_month_65 rfl ?_
        refine r_laddN C dX10_month_66 ?_
        refine r_nameM (fun q1 hq1 => ?_)
        refine lv_lstore (lv' := [(7, mV q1), (6, nV i), (5, nV f2), (4, nV f), (0, .ref mo0), (1, nV xn), (2, nV yn), (3, zV w)]) C.1 C.2.1 dX10_month_67 hl (by decide) rfl (fun ls hl => ?_)
        refine lv_lload C.1 C.2.1 dX10_month_69 (lv_at hl 0 rfl) ?_
        refine lv_lload C.1 C.2.1 dX10_month_71 (lv_at hl 0 rfl) ?_
        refine r_lmulN C dX10_month_73 ?_
        refine r_ldc2N 65521 C kv_X10_225 dX10_month_74 rfl ?_
        refine r_lremN C dX10_month_77 (by have := drw_sq hq1 (by omega) (by omega); omega) (by decide) ?_
        refine r_l2i C dX10_month_78 ?_
        refine r_top (v' := nV (drw xn i)) (by rw [hq1]; rfl) ?_
        refine r_nameN (fun a1 ha1 => ?_)
        have hdb : a1 < 65521 := by rw [ha1]; exact drw_bd xn i
        refine lv_istore (lv' := [(9, nV a1), (7, mV q1), (6, nV i), (5, nV f2), (4, nV f), (0, .ref mo0), (1, nV xn), (2, nV yn), (3, zV w)]) C.1 C.2.1 dX10_month_79 hl (by decide) rfl (fun ls hl => ?_)
        refine lv_iload C.1 C.2.1 dX10_month_81 (lv_at hl 0 rfl) ?_
        refine lv_aload_n C.1 C.2.1 dX10_month_83 rfl (lv_at hl 5 rfl) ?_
        refine r_get C hK hP kw_X10 (ci := 8) rfl 0 4 (by decide) kf_X10_17 rfl rfl dX10_month_84 ?_
        refine r_iconst 0 C dX10_month_87 rfl ?_
        refine r_aldN C hK hP 2 rfl ⟨by omega, by omega⟩ dX10_month_88 ?_
        refine r_top (v' := nV k) (by rw [hk0]) ?_
        refine r_remN C dX10_month_89 (by omega) (by omega) ?_
        have hq_12 : a1 % k < k := Nat.mod_lt _ (by omega)
        refine lv_istore (lv' := [(10, nV (a1 % k)), (9, nV a1), (7, mV q1), (6, nV i), (5, nV f2), (4, nV f), (0, .ref mo0), (1, nV xn), (2, nV yn), (3, zV w)]) C.1 C.2.1 dX10_month_90 hl (by decide) rfl (fun ls hl => ?_)
        refine lv_aload_n C.1 C.2.1 dX10_month_92 rfl (lv_at hl 6 rfl) ?_
        refine lv_aload_n C.1 C.2.1 dX10_month_93 rfl (lv_at hl 6 rfl) ?_
        refine lv_aload_n C.1 C.2.1 dX10_month_94 rfl (lv_at hl 6 rfl) ?_
        refine r_get C hK hP kw_X10 (ci := 8) rfl 0 5 (by decide) kf_X10_20 rfl rfl dX10_month_95 ?_
        refine r_iconst 2 C dX10_month_98 rfl ?_
        refine lv_iload C.1 C.2.1 dX10_month_99 (lv_at hl 0 rfl) ?_
        refine r_mulN C dX10_month_101 ?_
        refine r_aldN C hK hP 3 rfl ⟨by omega, by omega⟩ dX10_month_102 ?_
        refine r_top (v' := nV (sg (a1 % k))) (by rw [hwd (a1 % k) (by omega)]) ?_
        have hf_13 := hsg (a1 % k)
        refine lv_iload C.1 C.2.1 dX10_month_103 (lv_at hl 1 rfl) ?_
        refine r_bipush 16 C dX10_month_105 (by decide) ?_
        refine r_divN C dX10_month_107 (by omega) (by decide) ?_
        refine r_bipush 7 C dX10_month_108 (by decide) ?_
        refine r_remN C dX10_month_110 (by omega) (by decide) ?_
        refine lv_iload C.1 C.2.1 dX10_month_111 (lv_at hl 1 rfl) ?_
        refine r_sipush 256 C dX10_month_113 (by decide) ?_
        refine r_divN C dX10_month_116 (by omega) (by decide) ?_
        refine r_iconst 3 C dX10_month_117 rfl ?_
        refine r_remN C dX10_month_118 (by omega) (by decide) ?_
        refine ro_callV (As := [nV (sg (a1 % k)), nV ((a1 / 16) % 7), nV ((a1 / 256) % 3)]) (rest := [.ref mo0]) C hK (c_X10_become l g mo0 mA1 mA3 mA4 mA5 mA6 mA7 mA8 mA9 mA10 mA11 mA12 mA15 mA16 mA17 mA20 mL mAt kz dn mAb mBe mCl mtd bi mo (sg (a1 % k)) ((a1 / 16) % 7) ((a1 / 256) % 3) (by first | assumption | omega) (by first | assumption | omega) (by first | assumption | omega) (by first | assumption | omega) (by first | assumption | omega) (by first | assumption | omega)) (hP.sub (ws' := [(mo0, .inr (8, [nV mL, .ref mA1, nV mAt, .ref mA3, .ref mA4, .ref mA5, .ref mA6, .ref mA7, .ref mA8, .ref mA9, .ref mA10, .ref mA11, .ref mA12, nV kz, nV dn, .ref mA15, .ref mA16, .ref mA17, mV mAb, mV mBe, .ref mA20, zV mCl])), (mA3, cN g 4 mtd)]) [0, 1] rfl) (ci := 8) (q0 := 0) rfl rfl kc_X10_become kl_X10_127 kn_X10 ki_X10_become ke_X10_become nk_X10_become (rm_lt (by decide) (by decide)) hl rfl (Nat.le_of_ble_eq_true rfl) dX10_month_119 (fun r_14 hr_15 => ?_)
        subst hr_15
        have hf_16 := tn_bd (bi) (mo) ((sg (a1 % k))) (((a1 / 16) % 7)) (((a1 / 256) % 3)) (by omega)
        refine ro_callV (As := [nV (tn bi mo (sg (a1 % k)) ((a1 / 16) % 7) ((a1 / 256) % 3))]) (rest := []) C hK (c_X10_read l g mo0 mA1 mA3 mA4 mA5 mA6 mA7 mA8 mA9 mA10 mA11 mA12 mA15 mA16 mA17 mA20 mL mAt kz dn mAb mBe mCl mws mwd sg k (tn bi mo (sg (a1 % k)) ((a1 / 16) % 7) ((a1 / 256) % 3)) (by first | assumption | omega) (by first | assumption | omega) (by first | assumption | omega) (by first | assumption | omega) (by first | assumption | omega)) (hP.sub (ws' := [(mo0, .inr (8, [nV mL, .ref mA1, nV mAt, .ref mA3, .ref mA4, .ref mA5, .ref mA6, .ref mA7, .ref mA8, .ref mA9, .ref mA10, .ref mA11, .ref mA12, nV kz, nV dn, .ref mA15, .ref mA16, .ref mA17, mV mAb, mV mBe, .ref mA20, zV mCl])), (mA4, cN g 2 mws), (mA5, cN g 32 mwd)]) [0, 2, 3] rfl) (ci := 8) (q0 := 0) rfl rfl kc_X10_read kl_X10_147 kn_X10 ki_X10_read ke_X10_read nk_X10_read (rm_lt (by decide) (by decide)) hl rfl (Nat.le_of_ble_eq_true rfl) dX10_month_122 (fun r_17 hr_18 => ?_)
        subst hr_18
        have hf_19 := rd_bd sg (k) ((tn bi mo (sg (a1 % k)) ((a1 / 16) % 7) ((a1 / 256) % 3)))
        refine r_nameZ (fun a3 ha3 => ?_)
        have hro : a3 = -4 ∨ 0 ≤ a3 := by rw [ha3]; exact rd_or _ _ _
        refine lv_istore (lv' := [(11, zV a3), (10, nV (a1 % k)), (9, nV a1), (7, mV q1), (6, nV i), (5, nV f2), (4, nV f), (0, .ref mo0), (1, nV xn), (2, nV yn), (3, zV w)]) C.1 C.2.1 dX10_month_125 hl (by decide) rfl (fun ls hl => ?_)
        refine lv_iload C.1 C.2.1 dX10_month_127 (lv_at hl 6 rfl) ?_
        refine lv_iload C.1 C.2.1 dX10_month_129 (lv_at hl 0 rfl) ?_
        refine lv_iload C.1 C.2.1 dX10_month_131 (lv_at hl 1 rfl) ?_
        refine r_cne 140 C dX10_month_133 rfl ⟨⟨by omega, by omega⟩, rgN (by omega)⟩ (fun h_20 => ?_) (fun h_20 => ?_)
        · skip
          refine r_iconst 0 C dX10_month_140 rfl ?_
          refine r_addN C dX10_month_141 ?_
          refine lv_istore (lv' := [(4, nV (f + 0)), (11, zV a3), (10, nV (a1 % k)), (9, nV a1), (7, mV q1), (6, nV i), (5, nV f2), (0, .ref mo0), (1, nV xn), (2, nV yn), (3, zV w)]) C.1 C.2.1 dX10_month_142 hl (by decide) rfl (fun ls hl => ?_)
          refine lv_iload C.1 C.2.1 dX10_month_144 (lv_at hl 6 rfl) ?_
          refine lv_iload C.1 C.2.1 dX10_month_146 (lv_at hl 1 rfl) ?_
          refine r_ilt 162 C dX10_month_148 rfl (⟨by omega, by omega⟩) (fun h_21 => ?_) (fun h_21 => ?_)
          · skip
            refine r_iconst 0 C dX10_month_162 rfl ?_
            refine r_addN C dX10_month_163 ?_
            refine lv_istore (lv' := [(5, nV (f2 + 0)), (4, nV (f + 0)), (11, zV a3), (10, nV (a1 % k)), (9, nV a1), (7, mV q1), (6, nV i), (0, .ref mo0), (1, nV xn), (2, nV yn), (3, zV w)]) C.1 C.2.1 dX10_month_164 hl (by decide) rfl (fun ls hl => ?_)
            refine r_incN (k := 6) (n := 1) [(6, nV (i + 1)), (5, nV (f2 + 0)), (4, nV (f + 0)), (11, zV a3), (10, nV (a1 % k)), (9, nV a1), (7, mV q1), (0, .ref mo0), (1, nV xn), (2, nV yn), (3, zV w)] C dX10_month_166 hl rfl rfl (by decide) rfl (fun ls hl => ?_)
            refine r_goto 45 C dX10_month_169 rfl ?_
            exact ih_45 (i + 1) (f + 0) (f2 + 0) _ (by first | assumption | omega) (by have hR : mnR sg k bi mo xn i = a3 := (by rw [ha3, ha1]; rfl); have hc : ¬ (if true = true then mnR sg k bi mo xn i = ((drw xn i % k : Nat) : Int) else mnR sg k bi mo xn i ≠ ((drw xn i % k : Nat) : Int) ∧ mnR sg k bi mo xn i ≠ -4) := (by rw [hR, ← ha1]; first | (rw [if_pos rfl]; omega) | (rw [if_neg (by decide)]; omega)); rw [hf]; show _ = mnF sg k bi mo xn true i + (if (if true = true then mnR sg k bi mo xn i = ((drw xn i % k : Nat) : Int) else mnR sg k bi mo xn i ≠ ((drw xn i % k : Nat) : Int) ∧ mnR sg k bi mo xn i ≠ -4) then 1 else 0); rw [if_neg hc]) (by have hR : mnR sg k bi mo xn i = a3 := (by rw [ha3, ha1]; rfl); have hc : ¬ (if false = true then mnR sg k bi mo xn i = ((drw xn i % k : Nat) : Int) else mnR sg k bi mo xn i ≠ ((drw xn i % k : Nat) : Int) ∧ mnR sg k bi mo xn i ≠ -4) := (by rw [hR, ← ha1]; first | (rw [if_pos rfl]; omega) | (rw [if_neg (by decide)]; omega)); rw [hg]; show _ = mnF sg k bi mo xn false i + (if (if false = true then mnR sg k bi mo xn i = ((drw xn i % k : Nat) : Int) else mnR sg k bi mo xn i ≠ ((drw xn i % k : Nat) : Int) ∧ mnR sg k bi mo xn i ≠ -4) then 1 else 0); rw [if_neg hc]) (by omega) (lv_sub hl [0, 1, 2, 7, 8, 9, 10] rfl)
          refine lv_iload C.1 C.2.1 dX10_month_151 (lv_at hl 1 rfl) ?_
          refine lv_iload C.1 C.2.1 dX10_month_153 (lv_at hl 2 rfl) ?_
          refine r_ceq 162 C dX10_month_155 rfl ⟨⟨by omega, by omega⟩, rgN (by omega)⟩ (fun h_22 => ?_) (fun h_22 => ?_)
          · skip
            refine r_iconst 0 C dX10_month_162 rfl ?_
            refine r_addN C dX10_month_163 ?_
            refine lv_istore (lv' := [(5, nV (f2 + 0)), (4, nV (f + 0)), (11, zV a3), (10, nV (a1 % k)), (9, nV a1), (7, mV q1), (6, nV i), (0, .ref mo0), (1, nV xn), (2, nV yn), (3, zV w)]) C.1 C.2.1 dX10_month_164 hl (by decide) rfl (fun ls hl => ?_)
            refine r_incN (k := 6) (n := 1) [(6, nV (i + 1)), (5, nV (f2 + 0)), (4, nV (f + 0)), (11, zV a3), (10, nV (a1 % k)), (9, nV a1), (7, mV q1), (0, .ref mo0), (1, nV xn), (2, nV yn), (3, zV w)] C dX10_month_166 hl rfl rfl (by decide) rfl (fun ls hl => ?_)
            refine r_goto 45 C dX10_month_169 rfl ?_
            exact ih_45 (i + 1) (f + 0) (f2 + 0) _ (by first | assumption | omega) (by have hR : mnR sg k bi mo xn i = a3 := (by rw [ha3, ha1]; rfl); have hc : ¬ (if true = true then mnR sg k bi mo xn i = ((drw xn i % k : Nat) : Int) else mnR sg k bi mo xn i ≠ ((drw xn i % k : Nat) : Int) ∧ mnR sg k bi mo xn i ≠ -4) := (by rw [hR, ← ha1]; first | (rw [if_pos rfl]; omega) | (rw [if_neg (by decide)]; omega)); rw [hf]; show _ = mnF sg k bi mo xn true i + (if (if true = true then mnR sg k bi mo xn i = ((drw xn i % k : Nat) : Int) else mnR sg k bi mo xn i ≠ ((drw xn i % k : Nat) : Int) ∧ mnR sg k bi mo xn i ≠ -4) then 1 else 0); rw [if_neg hc]) (by have hR : mnR sg k bi mo xn i = a3 := (by rw [ha3, ha1]; rfl); have hc : ¬ (if false = true then mnR sg k bi mo xn i = ((drw xn i % k : Nat) : Int) else mnR sg k bi mo xn i ≠ ((drw xn i % k : Nat) : Int) ∧ mnR sg k bi mo xn i ≠ -4) := (by rw [hR, ← ha1]; first | (rw [if_pos rfl]; omega) | (rw [if_neg (by decide)]; omega)); rw [hg]; show _ = mnF sg k bi mo xn false i + (if (if false = true then mnR sg k bi mo xn i = ((drw xn i % k : Nat) : Int) else mnR sg k bi mo xn i ≠ ((drw xn i % k : Nat) : Int) ∧ mnR sg k bi mo xn i ≠ -4) then 1 else 0); rw [if_neg hc]) (by omega) (lv_sub hl [0, 1, 2, 7, 8, 9, 10] rfl)
          refine r_iconst 1 C dX10_month_158 rfl ?_
          refine r_goto 163 C dX10_month_159 rfl ?_
          refine r_addN C dX10_month_163 ?_
          refine lv_istore (lv' := [(5, nV (f2 + 1)), (4, nV (f + 0)), (11, zV a3), (10, nV (a1 % k)), (9, nV a1), (7, mV q1), (6, nV i), (0, .ref mo0), (1, nV xn), (2, nV yn), (3, zV w)]) C.1 C.2.1 dX10_month_164 hl (by decide) rfl (fun ls hl => ?_)
          refine r_incN (k := 6) (n := 1) [(6, nV (i + 1)), (5, nV (f2 + 1)), (4, nV (f + 0)), (11, zV a3), (10, nV (a1 % k)), (9, nV a1), (7, mV q1), (0, .ref mo0), (1, nV xn), (2, nV yn), (3, zV w)] C dX10_month_166 hl rfl rfl (by decide) rfl (fun ls hl => ?_)
          refine r_goto 45 C dX10_month_169 rfl ?_
          exact ih_45 (i + 1) (f + 0) (f2 + 1) _ (by first | assumption | omega) (by have hR : mnR sg k bi mo xn i = a3 := (by rw [ha3, ha1]; rfl); have hc : ¬ (if true = true then mnR sg k bi mo xn i = ((drw xn i % k : Nat) : Int) else mnR sg k bi mo xn i ≠ ((drw xn i % k : Nat) : Int) ∧ mnR sg k bi mo xn i ≠ -4) := (by rw [hR, ← ha1]; first | (rw [if_pos rfl]; omega) | (rw [if_neg (by decide)]; omega)); rw [hf]; show _ = mnF sg k bi mo xn true i + (if (if true = true then mnR sg k bi mo xn i = ((drw xn i % k : Nat) : Int) else mnR sg k bi mo xn i ≠ ((drw xn i % k : Nat) : Int) ∧ mnR sg k bi mo xn i ≠ -4) then 1 else 0); rw [if_neg hc]) (by have hR : mnR sg k bi mo xn i = a3 := (by rw [ha3, ha1]; rfl); have hc : (if false = true then mnR sg k bi mo xn i = ((drw xn i % k : Nat) : Int) else mnR sg k bi mo xn i ≠ ((drw xn i % k : Nat) : Int) ∧ mnR sg k bi mo xn i ≠ -4) := (by rw [hR, ← ha1]; first | (rw [if_pos rfl]; omega) | (rw [if_neg (by decide)]; omega)); rw [hg]; show _ = mnF sg k bi mo xn false i + (if (if false = true then mnR sg k bi mo xn i = ((drw xn i % k : Nat) : Int) else mnR sg k bi mo xn i ≠ ((drw xn i % k : Nat) : Int) ∧ mnR sg k bi mo xn i ≠ -4) then 1 else 0); rw [if_pos hc]) (by omega) (lv_sub hl [0, 1, 2, 7, 8, 9, 10] rfl)
        refine r_iconst 1 C dX10_month_136 rfl ?_
        refine r_goto 141 C dX10_month_137 rfl ?_
        refine r_addN C dX10_month_141 ?_
        refine lv_istore (lv' := [(4, nV (f + 1)), (11, zV a3), (10, nV (a1 % k)), (9, nV a1), (7, mV q1), (6, nV i), (5, nV f2), (0, .ref mo0), (1, nV xn), (2, nV yn), (3, zV w)]) C.1 C.2.1 dX10_month_142 hl (by decide) rfl (fun ls hl => ?_)
        refine lv_iload C.1 C.2.1 dX10_month_144 (lv_at hl 6 rfl) ?_
        refine lv_iload C.1 C.2.1 dX10_month_146 (lv_at hl 1 rfl) ?_
        refine r_ilt 162 C dX10_month_148 rfl (⟨by omega, by omega⟩) (fun h_23 => ?_) (fun h_23 => ?_)
        · skip
          refine r_iconst 0 C dX10_month_162 rfl ?_
          refine r_addN C dX10_month_163 ?_
          refine lv_istore (lv' := [(5, nV (f2 + 0)), (4, nV (f + 1)), (11, zV a3), (10, nV (a1 % k)), (9, nV a1), (7, mV q1), (6, nV i), (0, .ref mo0), (1, nV xn), (2, nV yn), (3, zV w)]) C.1 C.2.1 dX10_month_164 hl (by decide) rfl (fun ls hl => ?_)
          refine r_incN (k := 6) (n := 1) [(6, nV (i + 1)), (5, nV (f2 + 0)), (4, nV (f + 1)), (11, zV a3), (10, nV (a1 % k)), (9, nV a1), (7, mV q1), (0, .ref mo0), (1, nV xn), (2, nV yn), (3, zV w)] C dX10_month_166 hl rfl rfl (by decide) rfl (fun ls hl => ?_)
          refine r_goto 45 C dX10_month_169 rfl ?_
          exact ih_45 (i + 1) (f + 1) (f2 + 0) _ (by first | assumption | omega) (by have hR : mnR sg k bi mo xn i = a3 := (by rw [ha3, ha1]; rfl); have hc : (if true = true then mnR sg k bi mo xn i = ((drw xn i % k : Nat) : Int) else mnR sg k bi mo xn i ≠ ((drw xn i % k : Nat) : Int) ∧ mnR sg k bi mo xn i ≠ -4) := (by rw [hR, ← ha1]; first | (rw [if_pos rfl]; omega) | (rw [if_neg (by decide)]; omega)); rw [hf]; show _ = mnF sg k bi mo xn true i + (if (if true = true then mnR sg k bi mo xn i = ((drw xn i % k : Nat) : Int) else mnR sg k bi mo xn i ≠ ((drw xn i % k : Nat) : Int) ∧ mnR sg k bi mo xn i ≠ -4) then 1 else 0); rw [if_pos hc]) (by have hR : mnR sg k bi mo xn i = a3 := (by rw [ha3, ha1]; rfl); have hc : ¬ (if false = true then mnR sg k bi mo xn i = ((drw xn i % k : Nat) : Int) else mnR sg k bi mo xn i ≠ ((drw xn i % k : Nat) : Int) ∧ mnR sg k bi mo xn i ≠ -4) := (by rw [hR, ← ha1]; first | (rw [if_pos rfl]; omega) | (rw [if_neg (by decide)]; omega)); rw [hg]; show _ = mnF sg k bi mo xn false i + (if (if false = true then mnR sg k bi mo xn i = ((drw xn i % k : Nat) : Int) else mnR sg k bi mo xn i ≠ ((drw xn i % k : Nat) : Int) ∧ mnR sg k bi mo xn i ≠ -4) then 1 else 0); rw [if_neg hc]) (by omega) (lv_sub hl [0, 1, 2, 7, 8, 9, 10] rfl)
        refine lv_iload C.1 C.2.1 dX10_month_151 (lv_at hl 1 rfl) ?_
        refine lv_iload C.1 C.2.1 dX10_month_153 (lv_at hl 2 rfl) ?_
        refine r_ceq 162 C dX10_month_155 rfl ⟨⟨by omega, by omega⟩, rgN (by omega)⟩ (fun h_24 => ?_) (fun h_24 => ?_)
        · skip
          refine r_iconst 0 C dX10_month_162 rfl ?_
          refine r_addN C dX10_month_163 ?_
          refine lv_istore (lv' := [(5, nV (f2 + 0)), (4, nV (f + 1)), (11, zV a3), (10, nV (a1 % k)), (9, nV a1), (7, mV q1), (6, nV i), (0, .ref mo0), (1, nV xn), (2, nV yn), (3, zV w)]) C.1 C.2.1 dX10_month_164 hl (by decide) rfl (fun ls hl => ?_)
          refine r_incN (k := 6) (n := 1) [(6, nV (i + 1)), (5, nV (f2 + 0)), (4, nV (f + 1)), (11, zV a3), (10, nV (a1 % k)), (9, nV a1), (7, mV q1), (0, .ref mo0), (1, nV xn), (2, nV yn), (3, zV w)] C dX10_month_166 hl rfl rfl (by decide) rfl (fun ls hl => ?_)
          refine r_goto 45 C dX10_month_169 rfl ?_
          exact ih_45 (i + 1) (f + 1) (f2 + 0) _ (by first | assumption | omega) (by have hR : mnR sg k bi mo xn i = a3 := (by rw [ha3, ha1]; rfl); have hc : (if true = true then mnR sg k bi mo xn i = ((drw xn i % k : Nat) : Int) else mnR sg k bi mo xn i ≠ ((drw xn i % k : Nat) : Int) ∧ mnR sg k bi mo xn i ≠ -4) := (by rw [hR, ← ha1]; first | (rw [if_pos rfl]; omega) | (rw [if_neg (by decide)]; omega)); rw [hf]; show _ = mnF sg k bi mo xn true i + (if (if true = true then mnR sg k bi mo xn i = ((drw xn i % k : Nat) : Int) else mnR sg k bi mo xn i ≠ ((drw xn i % k : Nat) : Int) ∧ mnR sg k bi mo xn i ≠ -4) then 1 else 0); rw [if_pos hc]) (by have hR : mnR sg k bi mo xn i = a3 := (by rw [ha3, ha1]; rfl); have hc : ¬ (if false = true then mnR sg k bi mo xn i = ((drw xn i % k : Nat) : Int) else mnR sg k bi mo xn i ≠ ((drw xn i % k : Nat) : Int) ∧ mnR sg k bi mo xn i ≠ -4) := (by rw [hR, ← ha1]; first | (rw [if_pos rfl]; omega) | (rw [if_neg (by decide)]; omega)); rw [hg]; show _ = mnF sg k bi mo xn false i + (if (if false = true then mnR sg k bi mo xn i = ((drw xn i % k : Nat) : Int) else mnR sg k bi mo xn i ≠ ((drw xn i % k : Nat) : Int) ∧ mnR sg k bi mo xn i ≠ -4) then 1 else 0); rw [if_neg hc]) (by omega) (lv_sub hl [0, 1, 2, 7, 8, 9, 10] rfl)
        refine r_iconst 1 C dX10_month_158 rfl ?_
        refine r_goto 163 C dX10_month_159 rfl ?_
        refine r_addN C dX10_month_163 ?_
        refine lv_istore (lv' := [(5, nV (f2 + 1)), (4, nV (f + 1)), (11, zV a3), (10, nV (a1 % k)), (9, nV a1), (7, mV q1), (6, nV i), (0, .ref mo0), (1, nV xn), (2, nV yn), (3, zV w)]) C.1 C.2.1 dX10_month_164 hl (by decide) rfl (fun ls hl => ?_)
        refine r_incN (k := 6) (n := 1) [(6, nV (i + 1)), (5, nV (f2 + 1)), (4, nV (f + 1)), (11, zV a3), (10, nV (a1 % k)), (9, nV a1), (7, mV q1), (0, .ref mo0), (1, nV xn), (2, nV yn), (3, zV w)] C dX10_month_166 hl rfl rfl (by decide) rfl (fun ls hl => ?_)
        refine r_goto 45 C dX10_month_169 rfl ?_
        exact ih_45 (i + 1) (f + 1) (f2 + 1) _ (by first | assumption | omega) (by have hR : mnR sg k bi mo xn i = a3 := (by rw [ha3, ha1]; rfl); have hc : (if true = true then mnR sg k bi mo xn i = ((drw xn i % k : Nat) : Int) else mnR sg k bi mo xn i ≠ ((drw xn i % k : Nat) : Int) ∧ mnR sg k bi mo xn i ≠ -4) := (by rw [hR, ← ha1]; first | (rw [if_pos rfl]; omega) | (rw [if_neg (by decide)]; omega)); rw [hf]; show _ = mnF sg k bi mo xn true i + (if (if true = true then mnR sg k bi mo xn i = ((drw xn i % k : Nat) : Int) else mnR sg k bi mo xn i ≠ ((drw xn i % k : Nat) : Int) ∧ mnR sg k bi mo xn i ≠ -4) then 1 else 0); rw [if_pos hc]) (by have hR : mnR sg k bi mo xn i = a3 := (by rw [ha3, ha1]; rfl); have hc : (if false = true then mnR sg k bi mo xn i = ((drw xn i % k : Nat) : Int) else mnR sg k bi mo xn i ≠ ((drw xn i % k : Nat) : Int) ∧ mnR sg k bi mo xn i ≠ -4) := (by rw [hR, ← ha1]; first | (rw [if_pos rfl]; omega) | (rw [if_neg (by decide)]; omega)); rw [hg]; show _ = mnF sg k bi mo xn false i + (if (if false = true then mnR sg k bi mo xn i = ((drw xn i % k : Nat) : Int) else mnR sg k bi mo xn i ≠ ((drw xn i % k : Nat) : Int) ∧ mnR sg k bi mo xn i ≠ -4) then 1 else 0); rw [if_pos hc]) (by omega) (lv_sub hl [0, 1, 2, 7, 8, 9, 10] rfl)
    exact L45 (yn - 0 + 1) 0 0 0 _ (by first | assumption | omega) (rfl) (rfl) (Nat.lt_succ_self _) (lv_sub hl [0, 1, 2, 3, 4, 5, 6] rfl)
  refine r_iconstZ C dX10_month_34 ?_
  exact ret dX10_month_35 (by unfold sMon; rw [if_neg (by omega)])
set_option maxHeartbeats 4000000 in
set_option maxRecDepth 100000 in
theorem c_X10_count (l : Launch) (g : GG) (mo0 : Nat) (mA1 : Nat) (mA3 : Nat) (mA4 : Nat) (mA5 : Nat) (mA6 : Nat) (mA7 : Nat) (mA8 : Nat) (mA9 : Nat) (mA10 : Nat) (mA11 : Nat) (mA12 : Nat) (mA15 : Nat) (mA16 : Nat) (mA17 : Nat) (mA20 : Nat) (mL : Nat) (mAt : Nat) (kz : Nat) (dn : Nat) (mAb : Nat) (mBe : Nat) (mCl : Int) (mws : Nat → Nat) (mcs : Nat → Nat) (mbs : Nat → Nat) (mlv : Nat → Nat) (mfl : Nat → Int) (k : Nat) (nc : Nat) (nb : Nat) (ce : Nat → Nat) (x : Int) (hk0 : mws 0 = k) (hc0 : mcs 0 = nc) (hn0 : mbs 0 = nb) (hl0 : mlv 0 = ce 40) (hf0 : mfl 0 = ((ce 41 : Nat) : Int)) (hx : rg x) : ROi g l yX10_count cX10_count 2 (some .int) 1 [(mo0, .inr (8, [nV mL, .ref mA1, nV mAt, .ref mA3, .ref mA4, .ref mA5, .ref mA6, .ref mA7, .ref mA8, .ref mA9, .ref mA10, .ref mA11, .ref mA12, nV kz, nV dn, .ref mA15, .ref mA16, .ref mA17, mV mAb, mV mBe, .ref mA20, zV mCl])), (mA4, cN g 2 mws), (mA6, cN g 2 mcs), (mA8, cN g 2 mbs), (mA10, cN g 3 mlv), (mA12, cZ g 3 mfl)] [.ref mo0, zV x] (fun r => r = iI (sCnt k nc nb (ce 40) (ce 41) dn kz mL x)) := by
  refine ro_startI (by decide +kernel) (Nat.le_of_ble_eq_true rfl) ?_
  intro p e s m args below meth c Q ls C hK hP ret hl
  have C : CT p s m args meth c cX10_count RX10 2 := C
  have hl : lv_has ls 2 [(0, .ref mo0), (1, zV x)] := hl
  refine lv_iload_n C.1 C.2.1 dX10_count_0 rfl (lv_at hl 1 rfl) ?_
  by_cases hs_1 : x = 0
  · refine r_tsw 0 48 C dX10_count_1 (⟨by omega, by omega⟩) (by omega) (by decide) rfl rfl ?_
    refine lv_aload_n C.1 C.2.1 dX10_count_48 rfl (lv_at hl 0 rfl) ?_
    refine r_get C hK hP kw_X10 (ci := 8) rfl 0 4 (by decide) kf_X10_17 rfl rfl dX10_count_49 ?_
    refine r_iconst 0 C dX10_count_52 rfl ?_
    refine r_aldN C hK hP 1 rfl ⟨by omega, by omega⟩ dX10_count_53 ?_
    refine r_top (v' := nV k) (by rw [hk0]) ?_
    exact ret dX10_count_54 (by unfold sCnt; rw [if_pos (by omega)])
  by_cases hs_2 : x = 1
  · refine r_tsw 1 55 C dX10_count_1 (⟨by omega, by omega⟩) (by omega) (by decide) rfl rfl ?_
    refine lv_aload_n C.1 C.2.1 dX10_count_55 rfl (lv_at hl 0 rfl) ?_
    refine r_get C hK hP kw_X10 (ci := 8) rfl 0 6 (by decide) kf_X10_23 rfl rfl dX10_count_56 ?_
    refine r_iconst 0 C dX10_count_59 rfl ?_
    refine r_aldN C hK hP 2 rfl ⟨by omega, by omega⟩ dX10_count_60 ?_
    refine r_top (v' := nV nc) (by rw [hc0]) ?_
    exact ret dX10_count_61 (by unfold sCnt; rw [if_neg (by omega), if_pos (by omega)])
  by_cases hs_3 : x = 2
  · refine r_tsw 2 62 C dX10_count_1 (⟨by omega, by omega⟩) (by omega) (by decide) rfl rfl ?_
    refine lv_aload_n C.1 C.2.1 dX10_count_62 rfl (lv_at hl 0 rfl) ?_
    refine r_get C hK hP kw_X10 (ci := 8) rfl 0 8 (by decide) kf_X10_29 rfl rfl dX10_count_63 ?_
    refine r_iconst 0 C dX10_count_66 rfl ?_
    refine r_aldN C hK hP 3 rfl ⟨by omega, by omega⟩ dX10_count_67 ?_
    refine r_top (v' := nV nb) (by rw [hn0]) ?_
    exact ret dX10_count_68 (by unfold sCnt; rw [if_neg (by omega), if_neg (by omega), if_pos (by omega)])
  by_cases hs_4 : x = 3
  · refine r_tsw 3 69 C dX10_count_1 (⟨by omega, by omega⟩) (by omega) (by decide) rfl rfl ?_
    refine lv_aload_n C.1 C.2.1 dX10_count_69 rfl (lv_at hl 0 rfl) ?_
    refine r_get C hK hP kw_X10 (ci := 8) rfl 0 10 (by decide) kf_X10_35 rfl rfl dX10_count_70 ?_
    refine r_iconst 0 C dX10_count_73 rfl ?_
    refine r_aldN C hK hP 4 rfl ⟨by omega, by omega⟩ dX10_count_74 ?_
    refine r_top (v' := nV (ce 40)) (by rw [hl0]) ?_
    exact ret dX10_count_75 (by unfold sCnt; rw [if_neg (by omega), if_neg (by omega), if_neg (by omega), if_pos (by omega)])
  by_cases hs_5 : x = 4
  · refine r_tsw 4 76 C dX10_count_1 (⟨by omega, by omega⟩) (by omega) (by decide) rfl rfl ?_
    refine lv_aload_n C.1 C.2.1 dX10_count_76 rfl (lv_at hl 0 rfl) ?_
    refine r_get C hK hP kw_X10 (ci := 8) rfl 0 12 (by decide) kf_X10_41 rfl rfl dX10_count_77 ?_
    refine r_iconst 0 C dX10_count_80 rfl ?_
    refine r_aldZ C hK hP 5 rfl ⟨by omega, by omega⟩ dX10_count_81 ?_
    refine r_top (v' := zV ((ce 41 : Nat) : Int)) (by rw [hf0]) ?_
    exact ret dX10_count_82 (by unfold sCnt; rw [if_neg (by omega), if_neg (by omega), if_neg (by omega), if_neg (by omega), if_pos (by omega)])
  by_cases hs_6 : x = 5
  · refine r_tsw 5 83 C dX10_count_1 (⟨by omega, by omega⟩) (by omega) (by decide) rfl rfl ?_
    refine lv_aload_n C.1 C.2.1 dX10_count_83 rfl (lv_at hl 0 rfl) ?_
    refine r_get C hK hP kw_X10 (ci := 8) rfl 0 14 (by decide) kf_X10_98 rfl rfl dX10_count_84 ?_
    exact ret dX10_count_87 (by unfold sCnt; rw [if_neg (by omega), if_neg (by omega), if_neg (by omega), if_neg (by omega), if_neg (by omega), if_pos (by omega)])
  by_cases hs_7 : x = 6
  · refine r_tsw 6 88 C dX10_count_1 (⟨by omega, by omega⟩) (by omega) (by decide) rfl rfl ?_
    refine lv_aload_n C.1 C.2.1 dX10_count_88 rfl (lv_at hl 0 rfl) ?_
    refine r_get C hK hP kw_X10 (ci := 8) rfl 0 13 (by decide) kf_X10_101 rfl rfl dX10_count_89 ?_
    exact ret dX10_count_92 (by unfold sCnt; rw [if_neg (by omega), if_neg (by omega), if_neg (by omega), if_neg (by omega), if_neg (by omega), if_neg (by omega), if_pos (by omega)])
  by_cases hs_8 : x = 7
  · refine r_tsw 7 93 C dX10_count_1 (⟨by omega, by omega⟩) (by omega) (by decide) rfl rfl ?_
    refine lv_aload_n C.1 C.2.1 dX10_count_93 rfl (lv_at hl 0 rfl) ?_
    refine r_get C hK hP kw_X10 (ci := 8) rfl 0 0 (by decide) kf_X10_69 rfl rfl dX10_count_94 ?_
    exact ret dX10_count_97 (by unfold sCnt; rw [if_neg (by omega), if_neg (by omega), if_neg (by omega), if_neg (by omega), if_neg (by omega), if_neg (by omega), if_neg (by omega), if_pos (by omega)])
  refine r_tswD 98 C dX10_count_1 (⟨by omega, by omega⟩) (by omega) rfl ?_
  refine r_iconstZ C dX10_count_98 ?_
  exact ret dX10_count_99 (by unfold sCnt; rw [if_neg (by omega), if_neg (by omega), if_neg (by omega), if_neg (by omega), if_neg (by omega), if_neg (by omega), if_neg (by omega), if_neg (by omega)])
