set_option maxHeartbeats 4000000 in
set_option maxRecDepth 100000 in
theorem c_X9_isSign (l : Launch) (g : GG) (x : Int) (hx : rg x) : ROi g l yX9_isSign cX9_isSign 1 (some .boolean) 2 [] [zV x] (fun r => r = bI (0 ≤ x ∧ x ≤ 71)) := by
  refine ro_startZ (by decide +kernel) (Nat.le_of_ble_eq_true rfl) ?_
  intro p e s m args below meth c Q ls C hK hP ret hl
  have C : CT p s m args meth c cX9_isSign RX9 1 := C
  have hl : lv_has ls 1 [(0, zV x)] := hl
  refine lv_iload_n C.1 C.2.1 dX9_isSign_0 rfl (lv_at hl 0 rfl) ?_
  refine r_iconst 0 C dX9_isSign_1 rfl ?_
  refine r_bipush 71 C dX9_isSign_2 (by decide) ?_
  refine ro_callS (As := [zV x, nV 0, nV 71]) (rest := []) C hK (c_X9_within l g x ((0 : Nat) : Int) ((71 : Nat) : Int) (hx) (by decide) (by decide)) hP kc_X9_within kl_X9_72 kn_X9 ks_X9_within nk_X9_within (rm_lt (by decide) (by decide)) hl rfl (Nat.le_of_ble_eq_true rfl) dX9_isSign_4 (fun r_1 hr_2 => ?_)
  subst hr_2
  exact ret dX9_isSign_7 bI_nar (rfl)
set_option maxHeartbeats 4000000 in
set_option maxRecDepth 100000 in
theorem c_X9_isAge (l : Launch) (g : GG) (x : Int) (hx : rg x) : ROi g l yX9_isAge cX9_isAge 1 (some .boolean) 2 [] [zV x] (fun r => r = bI (0 ≤ x ∧ x ≤ 20)) := by
  refine ro_startZ (by decide +kernel) (Nat.le_of_ble_eq_true rfl) ?_
  intro p e s m args below meth c Q ls C hK hP ret hl
  have C : CT p s m args meth c cX9_isAge RX9 1 := C
  have hl : lv_has ls 1 [(0, zV x)] := hl
  refine lv_iload_n C.1 C.2.1 dX9_isAge_0 rfl (lv_at hl 0 rfl) ?_
  refine r_iconst 0 C dX9_isAge_1 rfl ?_
  refine r_bipush 20 C dX9_isAge_2 (by decide) ?_
  refine ro_callS (As := [zV x, nV 0, nV 20]) (rest := []) C hK (c_X9_within l g x ((0 : Nat) : Int) ((20 : Nat) : Int) (hx) (by decide) (by decide)) hP kc_X9_within kl_X9_72 kn_X9 ks_X9_within nk_X9_within (rm_lt (by decide) (by decide)) hl rfl (Nat.le_of_ble_eq_true rfl) dX9_isAge_4 (fun r_1 hr_2 => ?_)
  subst hr_2
  exact ret dX9_isAge_7 bI_nar (rfl)
set_option maxHeartbeats 4000000 in
set_option maxRecDepth 100000 in
theorem c_X9_isChoice (l : Launch) (g : GG) (x : Int) (hx : rg x) : ROi g l yX9_isChoice cX9_isChoice 1 (some .boolean) 2 [] [zV x] (fun r => r = bI (0 ≤ x ∧ x ≤ 1)) := by
  refine ro_startZ (by decide +kernel) (Nat.le_of_ble_eq_true rfl) ?_
  intro p e s m args below meth c Q ls C hK hP ret hl
  have C : CT p s m args meth c cX9_isChoice RX9 1 := C
  have hl : lv_has ls 1 [(0, zV x)] := hl
  refine lv_iload_n C.1 C.2.1 dX9_isChoice_0 rfl (lv_at hl 0 rfl) ?_
  refine r_iconst 0 C dX9_isChoice_1 rfl ?_
  refine r_iconst 1 C dX9_isChoice_2 rfl ?_
  refine ro_callS (As := [zV x, nV 0, nV 1]) (rest := []) C hK (c_X9_within l g x ((0 : Nat) : Int) ((1 : Nat) : Int) (hx) (by decide) (by decide)) hP kc_X9_within kl_X9_72 kn_X9 ks_X9_within nk_X9_within (rm_lt (by decide) (by decide)) hl rfl (Nat.le_of_ble_eq_true rfl) dX9_isChoice_3 (fun r_1 hr_2 => ?_)
  subst hr_2
  exact ret dX9_isChoice_6 bI_nar (rfl)
set_option maxHeartbeats 4000000 in
set_option maxRecDepth 100000 in
theorem c_X9_isLoss (l : Launch) (g : GG) (x : Int) (y : Int) (hx : rg x) (hy : rg y) : ROi g l yX9_isLoss cX9_isLoss 2 (some .boolean) 3 [] [zV x, zV y] (fun r => r = bI ((0 ≤ x ∧ x ≤ 20) ∧ (0 ≤ y ∧ y ≤ 3))) := by
  refine ro_startZ (by decide +kernel) (Nat.le_of_ble_eq_true rfl) ?_
  intro p e s m args below meth c Q ls C hK hP ret hl
  have C : CT p s m args meth c cX9_isLoss RX9 2 := C
  have hl : lv_has ls 2 [(0, zV x), (1, zV y)] := hl
  refine lv_iload_n C.1 C.2.1 dX9_isLoss_0 rfl (lv_at hl 0 rfl) ?_
  refine ro_callS (As := [zV x]) (rest := []) C hK (c_X9_isAge l g x (by first | assumption | exact ⟨by omega, by omega⟩)) hP kc_X9_isAge kl_X9_207 kn_X9 ks_X9_isAge nk_X9_isAge (rm_lt (by decide) (by decide)) hl rfl (Nat.le_of_ble_eq_true rfl) dX9_isLoss_1 (fun r_1 hr_2 => ?_)
  subst hr_2
  refine r_beq 20 C dX9_isLoss_4 rfl (fun h_3 => ?_) (fun h_3 => ?_)
  · skip
    refine r_iconst 0 C dX9_isLoss_20 rfl ?_
    exact ret dX9_isLoss_21 (by decide) (bI_z (by omega))
  refine lv_iload_n C.1 C.2.1 dX9_isLoss_7 rfl (lv_at hl 1 rfl) ?_
  refine r_iconst 0 C dX9_isLoss_8 rfl ?_
  refine r_iconst 3 C dX9_isLoss_9 rfl ?_
  refine ro_callS (As := [zV y, nV 0, nV 3]) (rest := []) C hK (c_X9_within l g y ((0 : Nat) : Int) ((3 : Nat) : Int) (hy) (by decide) (by decide)) hP kc_X9_within kl_X9_72 kn_X9 ks_X9_within nk_X9_within (rm_lt (by decide) (by decide)) hl rfl (Nat.le_of_ble_eq_true rfl) dX9_isLoss_10 (fun r_4 hr_5 => ?_)
  subst hr_5
  refine r_beq 20 C dX9_isLoss_13 rfl (fun h_6 => ?_) (fun h_6 => ?_)
  · skip
    refine r_iconst 0 C dX9_isLoss_20 rfl ?_
    exact ret dX9_isLoss_21 (by decide) (bI_z (by omega))
  refine r_iconst 1 C dX9_isLoss_16 rfl ?_
  refine r_goto 21 C dX9_isLoss_17 rfl ?_
  exact ret dX9_isLoss_21 (by decide) (bI_1 (by omega))
set_option maxHeartbeats 4000000 in
set_option maxRecDepth 100000 in
theorem c_X9_flourOf (l : Launch) (g : GG) (x : Nat) (y : Nat) (hx : x < 72) (hy : y < 4) : ROi g l yX9_flourOf cX9_flourOf 3 (some .int) 3 [] [nV x, nV y] (fun r => r = iI ((flk x y : Nat) : Int)) := by
  refine ro_startI (by decide +kernel) (Nat.le_of_ble_eq_true rfl) ?_
  intro p e s m args below meth c Q ls C hK hP ret hl
  have C : CT p s m args meth c cX9_flourOf RX9 3 := C
  have hl : lv_has ls 3 [(0, nV x), (1, nV y)] := hl
  refine lv_iload_n C.1 C.2.1 dX9_flourOf_0 rfl (lv_at hl 0 rfl) ?_
  refine ro_callS (As := [nV x]) (rest := []) C hK (c_X6_flour l g x (by first | assumption | omega)) hP kc_X6_flour kl_X9_110 kn_X6 ks_X6_flour nk_X6_flour (rm_lt (by decide) (by decide)) hl rfl (Nat.le_of_ble_eq_true rfl) dX9_flourOf_1 (fun r_1 hr_2 => ?_)
  subst hr_2
  refine lv_istore_n (lv' := [(2, nV (fl x)), (0, nV x), (1, nV y)]) C.1 C.2.1 dX9_flourOf_4 rfl hl (by decide) rfl (fun ls hl => ?_)
  refine lv_iload_n C.1 C.2.1 dX9_flourOf_5 rfl (lv_at hl 2 rfl) ?_
  refine r_iconst 1 C dX9_flourOf_6 rfl ?_
  refine r_cne 14 C dX9_flourOf_7 rfl ⟨rgN (by omega), rgN (by decide)⟩ (fun h_3 => ?_) (fun h_3 => ?_)
  · skip
    refine lv_iload_n C.1 C.2.1 dX9_flourOf_14 rfl (lv_at hl 2 rfl) ?_
    refine r_iconst 2 C dX9_flourOf_15 rfl ?_
    refine r_cne 25 C dX9_flourOf_16 rfl ⟨rgN (by omega), rgN (by decide)⟩ (fun h_4 => ?_) (fun h_4 => ?_)
    · skip
      refine lv_iload_n C.1 C.2.1 dX9_flourOf_25 rfl (lv_at hl 0 rfl) ?_
      exact ret dX9_flourOf_26 (by exact iI_cast (by unfold flk; split <;> (try split) <;> omega))
    refine lv_iload_n C.1 C.2.1 dX9_flourOf_19 rfl (lv_at hl 0 rfl) ?_
    refine r_iconst 2 C dX9_flourOf_20 rfl ?_
    refine r_addN C dX9_flourOf_21 ?_
    refine r_goto 26 C dX9_flourOf_22 rfl ?_
    exact ret dX9_flourOf_26 (by exact iI_cast (by unfold flk; split <;> (try split) <;> omega))
  refine r_iconst 2 C dX9_flourOf_10 rfl ?_
  refine lv_iload_n C.1 C.2.1 dX9_flourOf_11 rfl (lv_at hl 0 rfl) ?_
  refine r_mulN C dX9_flourOf_12 ?_
  exact ret dX9_flourOf_13 (by exact iI_cast (by unfold flk; split <;> (try split) <;> omega))
set_option maxHeartbeats 4000000 in
set_option maxRecDepth 100000 in
theorem c_X9_drawOf (l : Launch) (g : GG) (x : Nat) (y : Nat) (hx : x < 10000) (hy : y < 31) : ROi g l yX9_drawOf cX9_drawOf 4 (some .int) 1 [] [nV x, nV y] (fun r => r = iI ((drw x y : Nat) : Int)) := by
  refine ro_startI (by decide +kernel) (Nat.le_of_ble_eq_true rfl) ?_
  intro p e s m args below meth c Q ls C hK hP ret hl
  have C : CT p s m args meth c cX9_drawOf RX9 4 := C
  have hl : lv_has ls 4 [(0, nV x), (1, nV y)] := hl
  refine r_ldc2N 7919 C kv_X9_266 dX9_drawOf_0 rfl ?_
  refine lv_iload_n C.1 C.2.1 dX9_drawOf_3 rfl (lv_at hl 0 rfl) ?_
  refine r_i2l C dX9_drawOf_4 (rgN (by omega)) ?_
  refine r_lmulN C dX9_drawOf_5 ?_
  refine r_ldc2N 6151 C kv_X9_268 dX9_drawOf_6 rfl ?_
  refine lv_iload_n C.1 C.2.1 dX9_drawOf_9 rfl (lv_at hl 1 rfl) ?_
  refine r_i2l C dX9_drawOf_10 (rgN (by omega)) ?_
  refine r_lmulN C dX9_drawOf_11 ?_
  refine r_laddN C dX9_drawOf_12 ?_
  refine r_lconst 1 C dX9_drawOf_13 rfl ?_
  refine r_laddN C dX9_drawOf_14 ?_
  refine r_nameM (fun q1 hq1 => ?_)
  refine lv_lstore_n (lv' := [(2, mV q1), (0, nV x), (1, nV y)]) C.1 C.2.1 dX9_drawOf_15 rfl hl (by decide) rfl (fun ls hl => ?_)
  refine lv_lload_n C.1 C.2.1 dX9_drawOf_16 rfl (lv_at hl 0 rfl) ?_
  refine lv_lload_n C.1 C.2.1 dX9_drawOf_17 rfl (lv_at hl 0 rfl) ?_
  refine r_lmulN C dX9_drawOf_18 ?_
  refine r_ldc2N 65521 C kv_X9_270 dX9_drawOf_19 rfl ?_
  refine r_lremN C dX9_drawOf_22 (by have := drw_sq hq1 hx hy; omega) (by decide) ?_
  refine r_l2i C dX9_drawOf_23 ?_
  exact ret dX9_drawOf_24 (by subst hq1; rfl)
set_option maxHeartbeats 4000000 in
set_option maxRecDepth 100000 in
theorem c_X9_at (l : Launch) (g : GG) (a : Nat) (nn : Nat) (F : Nat → Nat) (i : Nat) (hi : i < nn) (hn : nn < 2147483648) : ROi g l yX9_at cX9_at 2 (some .int) 1 [(a, cN g nn F)] [.ref a, nV i] (fun r => r = iI ((F i : Nat) : Int)) := by
  refine ro_startI (by decide +kernel) (Nat.le_of_ble_eq_true rfl) ?_
  intro p e s m args below meth c Q ls C hK hP ret hl
  have C : CT p s m args meth c cX9_at RX9 2 := C
  have hl : lv_has ls 2 [(0, .ref a), (1, nV i)] := hl
  refine lv_iload_n C.1 C.2.1 dX9_at_0 rfl (lv_at hl 1 rfl) ?_
  refine r_ilt 16 C dX9_at_1 rfl (rgN (by omega)) (fun h_1 => ?_) (fun h_1 => ?_)
  · exact absurd h_1 (by omega)
  refine lv_iload_n C.1 C.2.1 dX9_at_4 rfl (lv_at hl 1 rfl) ?_
  refine lv_aload_n C.1 C.2.1 dX9_at_5 rfl (lv_at hl 0 rfl) ?_
  refine r_alen nn (t0 := 1) C hK hP 0 rfl rfl rfl dX9_at_6 ?_
  refine r_cge 16 C dX9_at_7 rfl ⟨rgN (by omega), rgN (by omega)⟩ (fun h_2 => ?_) (fun h_2 => ?_)
  · exact absurd h_2 (by omega)
  refine lv_aload_n C.1 C.2.1 dX9_at_10 rfl (lv_at hl 0 rfl) ?_
  refine lv_iload_n C.1 C.2.1 dX9_at_11 rfl (lv_at hl 1 rfl) ?_
  refine r_aldN C hK hP 0 rfl ⟨hi, by omega⟩ dX9_at_12 ?_
  refine r_goto 17 C dX9_at_13 rfl ?_
  exact ret dX9_at_17 (by first | rfl | exact iI_cast (by omega) | exact congrArg lI (by omega) | omega)
set_option maxHeartbeats 4000000 in
set_option maxRecDepth 100000 in
theorem c_X2_power (l : Launch) (g : GG) (x : Nat) (y : Nat) (hy : y < 2147483648) : ROl g l yX2_power cX2_power 6 (some .long) 1 [] [mV x, nV y] (fun r => r = lI ((x ^ y : Nat) : Int)) := by
  refine ro_startL (by decide +kernel) (Nat.le_of_ble_eq_true rfl) ?_
  intro p e s m args below meth c Q ls C hK hP ret hl
  have C : CT p s m args meth c cX2_power RX2 6 := C
  have hl : lv_has ls 6 [(0, mV x), (2, nV y)] := hl
  refine r_lconst 1 C dX2_power_0 rfl ?_
  refine lv_lstore_n (lv' := [(3, mV 1), (0, mV x), (2, nV y)]) C.1 C.2.1 dX2_power_1 rfl hl (by decide) rfl (fun ls hl => ?_)
  refine r_iconst 0 C dX2_power_2 rfl ?_
  refine lv_istore (lv' := [(5, nV 0), (3, mV 1), (0, mV x), (2, nV y)]) C.1 C.2.1 dX2_power_3 hl (by decide) rfl (fun ls hl => ?_)
  have L5 : ∀ (n_5 : Nat) (i : Nat) (t : Nat) (ls : Array Slot) (hi : i ≤ y) (ht : t = x ^ i) (hm : y - i < n_5) (hl : lv_has ls 6 [(5, nV i), (3, mV t), (0, mV x), (2, nV y)]), W p l e (rD 1) s m args below meth c s.heap [] 0 0 Q (F0 m 5 ls []) := by
    intro n_5
    induction n_5 with
    | zero => intro i t ls hi ht hm hl; exact absurd hm (Nat.not_lt_zero _)
    | succ n_5 ih_5 =>
      intro i t ls hi ht hm hl
      refine lv_iload C.1 C.2.1 dX2_power_5 (lv_at hl 0 rfl) ?_
      refine lv_iload_n C.1 C.2.1 dX2_power_7 rfl (lv_at hl 3 rfl) ?_
      refine r_cge 21 C dX2_power_8 rfl ⟨rgN (by omega), rgN (by omega)⟩ (fun h_1 => ?_) (fun h_1 => ?_)
      · skip
        refine lv_lload_n C.1 C.2.1 dX2_power_21 rfl (lv_at hl 1 rfl) ?_
        exact ret dX2_power_22 (congrArg (fun q : Nat => lI (q : Int)) (by rw [ht, show i = y by omega]))
      refine lv_lload_n C.1 C.2.1 dX2_power_11 rfl (lv_at hl 1 rfl) ?_
      refine lv_lload_n C.1 C.2.1 dX2_power_12 rfl (lv_at hl 2 rfl) ?_
      refine r_lmulN C dX2_power_13 ?_
      refine lv_lstore_n (lv' := [(3, mV (t * x)), (5, nV i), (0, mV x), (2, nV y)]) C.1 C.2.1 dX2_power_14 rfl hl (by decide) rfl (fun ls hl => ?_)
      refine r_incN (k := 1) (n := 1) [(5, nV (i + 1)), (3, mV (t * x)), (0, mV x), (2, nV y)] C dX2_power_15 hl rfl rfl (by decide) rfl (fun ls hl => ?_)
      refine r_goto 5 C dX2_power_18 rfl ?_
      exact ih_5 (i + 1) (t * x) _ (by first | assumption | omega) (by rw [ht]; rfl) (by omega) (lv_sub hl [0, 1, 2, 3] rfl)
  exact L5 (y - 0 + 1) 0 1 _ (by first | assumption | omega) (rfl) (Nat.lt_succ_self _) (lv_sub hl [0, 1, 2, 3] rfl)
set_option maxHeartbeats 4000000 in
set_option maxRecDepth 100000 in
theorem c_X2_choose (l : Launch) (g : GG) (x : Nat) (y : Nat) (hx : x < 7) (hy : y ≤ x) : ROl g l yX2_choose cX2_choose 5 (some .long) 1 [] [nV x, nV y] (fun r => r = lI ((ch x y : Nat) : Int)) := by
  refine ro_startL (by decide +kernel) (Nat.le_of_ble_eq_true rfl) ?_
  intro p e s m args below meth c Q ls C hK hP ret hl
  have C : CT p s m args meth c cX2_choose RX2 5 := C
  have hl : lv_has ls 5 [(0, nV x), (1, nV y)] := hl
  refine r_lconst 1 C dX2_choose_0 rfl ?_
  refine lv_lstore_n (lv' := [(2, mV 1), (0, nV x), (1, nV y)]) C.1 C.2.1 dX2_choose_1 rfl hl (by decide) rfl (fun ls hl => ?_)
  refine r_iconst 0 C dX2_choose_2 rfl ?_
  refine lv_istore (lv' := [(4, nV 0), (2, mV 1), (0, nV x), (1, nV y)]) C.1 C.2.1 dX2_choose_3 hl (by decide) rfl (fun ls hl => ?_)
  have L5 : ∀ (n_5 : Nat) (i : Nat) (t : Nat) (ls : Array Slot) (hi : i ≤ y) (ht : t = ch x i) (hm : y - i < n_5) (hl : lv_has ls 5 [(4, nV i), (2, mV t), (0, nV x), (1, nV y)]), W p l e (rD 1) s m args below meth c s.heap [] 0 0 Q (F0 m 5 ls []) := by
    intro n_5
    induction n_5 with
    | zero => intro i t ls hi ht hm hl; exact absurd hm (Nat.not_lt_zero _)
    | succ n_5 ih_5 =>
      intro i t ls hi ht hm hl
      refine lv_iload C.1 C.2.1 dX2_choose_5 (lv_at hl 0 rfl) ?_
      refine lv_iload_n C.1 C.2.1 dX2_choose_7 rfl (lv_at hl 3 rfl) ?_
      refine r_cge 31 C dX2_choose_8 rfl ⟨rgN (by omega), rgN (by omega)⟩ (fun h_1 => ?_) (fun h_1 => ?_)
      · skip
        refine lv_lload_n C.1 C.2.1 dX2_choose_31 rfl (lv_at hl 1 rfl) ?_
        exact ret dX2_choose_32 (congrArg (fun q : Nat => lI (q : Int)) (by rw [ht, show i = y by omega]))
      refine lv_lload_n C.1 C.2.1 dX2_choose_11 rfl (lv_at hl 1 rfl) ?_
      refine lv_iload_n C.1 C.2.1 dX2_choose_12 rfl (lv_at hl 2 rfl) ?_
      refine lv_iload C.1 C.2.1 dX2_choose_13 (lv_at hl 0 rfl) ?_
      refine r_subN C dX2_choose_15 (by omega) ?_
      refine r_i2l C dX2_choose_16 (rgN (by omega)) ?_
      refine r_lmulN C dX2_choose_17 ?_
      refine lv_iload C.1 C.2.1 dX2_choose_18 (lv_at hl 0 rfl) ?_
      refine r_iconst 1 C dX2_choose_20 rfl ?_
      refine r_addN C dX2_choose_21 ?_
      refine r_i2l C dX2_choose_22 (rgN (by omega)) ?_
      refine r_ldivN C dX2_choose_23 (by rw [ht]; exact Nat.lt_of_le_of_lt (ch_mul hx (by omega)) (by decide)) (by omega) ?_
      refine lv_lstore_n (lv' := [(2, mV ((t * (x - i)) / (i + 1))), (4, nV i), (0, nV x), (1, nV y)]) C.1 C.2.1 dX2_choose_24 rfl hl (by decide) rfl (fun ls hl => ?_)
      refine r_incN (k := 1) (n := 1) [(4, nV (i + 1)), (2, mV ((t * (x - i)) / (i + 1))), (0, nV x), (1, nV y)] C dX2_choose_25 hl rfl rfl (by decide) rfl (fun ls hl => ?_)
      refine r_goto 5 C dX2_choose_28 rfl ?_
      exact ih_5 (i + 1) ((t * (x - i)) / (i + 1)) _ (by first | assumption | omega) (by rw [ht]; rfl) (by omega) (lv_sub hl [0, 1, 2, 3] rfl)
  exact L5 (y - 0 + 1) 0 1 _ (by first | assumption | omega) (rfl) (Nat.lt_succ_self _) (lv_sub hl [0, 1, 2, 3] rfl)
set_option maxHeartbeats 4000000 in
set_option maxRecDepth 100000 in
theorem c_X2_commonDivisor (l : Launch) (g : GG) (x : Nat) (y : Nat) (hx : x < 2199023255552) (hy : 0 < y ∧ y < 2199023255552) : ROl g l yX2_commonDivisor cX2_commonDivisor 11 (some .long) 1 [] [mV x, mV y] (fun r => r = lI ((Nat.gcd x y : Nat) : Int)) := by
  refine ro_startL (by decide +kernel) (Nat.le_of_ble_eq_true rfl) ?_
  intro p e s m args below meth c Q ls C hK hP ret hl
  have C : CT p s m args meth c cX2_commonDivisor RX2 11 := C
  have hl : lv_has ls 11 [(0, mV x), (2, mV y)] := hl
  refine lv_lload_n C.1 C.2.1 dX2_commonDivisor_0 rfl (lv_at hl 0 rfl) ?_
  refine lv_lstore (lv' := [(4, mV x), (0, mV x), (2, mV y)]) C.1 C.2.1 dX2_commonDivisor_1 hl (by decide) rfl (fun ls hl => ?_)
  refine lv_lload_n C.1 C.2.1 dX2_commonDivisor_3 rfl (lv_at hl 2 rfl) ?_
  refine lv_lstore (lv' := [(6, mV y), (4, mV x), (0, mV x), (2, mV y)]) C.1 C.2.1 dX2_commonDivisor_4 hl (by decide) rfl (fun ls hl => ?_)
  refine r_iconst 0 C dX2_commonDivisor_6 rfl ?_
  refine lv_istore (lv' := [(8, nV 0), (6, mV y), (4, mV x), (0, mV x), (2, mV y)]) C.1 C.2.1 dX2_commonDivisor_7 hl (by decide) rfl (fun ls hl => ?_)
  have L9 : ∀ (n_9 : Nat) (i : Nat) (a : Nat) (b : Nat) (ls : Array Slot) (hi : i ≤ 100) (hg : Nat.gcd a b = Nat.gcd x y) (ha : a < 2199023255552 ∧ b < 2199023255552) (hp : (i = 0 ∧ 0 < b) ∨ (b < a ∧ a * b * 2 ^ i < 2 ^ 84)) (hm : 100 - i < n_9) (hl : lv_has ls 11 [(8, nV i), (6, mV b), (4, mV a), (0, mV x), (2, mV y)]), W p l e (rD 1) s m args below meth c s.heap [] 0 0 Q (F0 m 9 ls []) := by
    intro n_9
    induction n_9 with
    | zero => intro i a b ls hi hg ha hp hm hl; exact absurd hm (Nat.not_lt_zero _)
    | succ n_9 ih_9 =>
      intro i a b ls hi hg ha hp hm hl
      refine lv_iload C.1 C.2.1 dX2_commonDivisor_9 (lv_at hl 0 rfl) ?_
      refine r_bipush 100 C dX2_commonDivisor_11 (by decide) ?_
      refine r_cge 44 C dX2_commonDivisor_13 rfl ⟨rgN (by omega), rgN (by decide)⟩ (fun h_1 => ?_) (fun h_1 => ?_)
      · skip
        refine lv_lload C.1 C.2.1 dX2_commonDivisor_44 (lv_at hl 2 rfl) ?_
        exact ret dX2_commonDivisor_46 (congrArg (fun q : Nat => lI (q : Int)) (hp.elim (fun q => by exfalso; omega) (fun q => by rw [← hg, (show b = 0 by first | omega | exact eu_end q.1 (by omega) q.2), Nat.gcd_zero_right])))
      refine lv_lload C.1 C.2.1 dX2_commonDivisor_16 (lv_at hl 1 rfl) ?_
      refine r_lconst 0 C dX2_commonDivisor_18 rfl ?_
      refine r_leq 44 C dX2_commonDivisor_19 dX2_commonDivisor_20 rfl ⟨rlN (by omega), rlN (by decide)⟩ (fun h_2 => ?_) (fun h_2 => ?_)
      · skip
        refine lv_lload C.1 C.2.1 dX2_commonDivisor_44 (lv_at hl 2 rfl) ?_
        exact ret dX2_commonDivisor_46 (congrArg (fun q : Nat => lI (q : Int)) (hp.elim (fun q => by exfalso; omega) (fun q => by rw [← hg, (show b = 0 by first | omega | exact eu_end q.1 (by omega) q.2), Nat.gcd_zero_right])))
      refine lv_lload C.1 C.2.1 dX2_commonDivisor_23 (lv_at hl 2 rfl) ?_
      refine lv_lload C.1 C.2.1 dX2_commonDivisor_25 (lv_at hl 1 rfl) ?_
      refine r_lremN C dX2_commonDivisor_27 (by omega) (by omega) ?_
      have hq_3 : a % b < b := Nat.mod_lt _ (by omega)
      refine lv_lstore (lv' := [(9, mV (a % b)), (8, nV i), (6, mV b), (4, mV a), (0, mV x), (2, mV y)]) C.1 C.2.1 dX2_commonDivisor_28 hl (by decide) rfl (fun ls hl => ?_)
      refine lv_lload C.1 C.2.1 dX2_commonDivisor_30 (lv_at hl 2 rfl) ?_
      refine lv_lstore (lv' := [(4, mV b), (9, mV (a % b)), (8, nV i), (6, mV b), (0, mV x), (2, mV y)]) C.1 C.2.1 dX2_commonDivisor_32 hl (by decide) rfl (fun ls hl => ?_)
      refine lv_lload C.1 C.2.1 dX2_commonDivisor_34 (lv_at hl 1 rfl) ?_
      refine lv_lstore (lv' := [(6, mV (a % b)), (4, mV b), (9, mV (a % b)), (8, nV i), (0, mV x), (2, mV y)]) C.1 C.2.1 dX2_commonDivisor_36 hl (by decide) rfl (fun ls hl => ?_)
      refine r_incN (k := 3) (n := 1) [(8, nV (i + 1)), (6, mV (a % b)), (4, mV b), (9, mV (a % b)), (0, mV x), (2, mV y)] C dX2_commonDivisor_38 hl rfl rfl (by decide) rfl (fun ls hl => ?_)
      refine r_goto 9 C dX2_commonDivisor_41 rfl ?_
      exact ih_9 (i + 1) b (a % b) _ (by first | assumption | omega) (by rw [← hg, Nat.gcd_comm b, ← Nat.gcd_rec, Nat.gcd_comm]) (⟨by omega, by omega⟩) (Or.inr ⟨by omega, hp.elim (fun q => by rw [q.1]; exact eu_first q.2 (by omega)) (fun q => eu_step q.1 (by omega) q.2)⟩) (by omega) (lv_sub hl [0, 1, 2, 4, 5] rfl)
  exact L9 (100 - 0 + 1) 0 x y _ (by first | assumption | omega) (rfl) (by first | assumption | omega) (Or.inl ⟨rfl, hy.1⟩) (Nat.lt_succ_self _) (lv_sub hl [0, 1, 2, 3, 4] rfl)
set_option maxHeartbeats 4000000 in
set_option maxRecDepth 100000 in
theorem c_X2_lowest (l : Launch) (g : GG) (x : Nat) (y : Nat) (w : Nat) (hx : x < 2199023255552) (hy : 0 < y ∧ y < 2199023255552) (hw : w < 2) : ROl g l yX2_lowest cX2_lowest 9 (some .long) 2 [] [mV x, mV y, nV w] (fun r => r = lI ((low x y w : Nat) : Int)) := by
  refine ro_startL (by decide +kernel) (Nat.le_of_ble_eq_true rfl) ?_
  intro p e s m args below meth c Q ls C hK hP ret hl
  have C : CT p s m args meth c cX2_lowest RX2 9 := C
  have hl : lv_has ls 9 [(0, mV x), (2, mV y), (4, nV w)] := hl
  refine lv_lload_n C.1 C.2.1 dX2_lowest_0 rfl (lv_at hl 0 rfl) ?_
  refine lv_lload_n C.1 C.2.1 dX2_lowest_1 rfl (lv_at hl 1 rfl) ?_
  refine ro_callSL (As := [mV x, mV y]) (rest := []) C hK (c_X2_commonDivisor l g x y (by first | assumption | omega) (by first | assumption | omega)) hP kc_X2_commonDivisor kl_X2_7 kn_X2 ks_X2_commonDivisor nk_X2_commonDivisor (rm_lt (by decide) (by decide)) hl rfl (Nat.le_of_ble_eq_true rfl) dX2_lowest_2 (fun r_1 hr_2 => ?_)
  subst hr_2
  refine r_nameM (fun q1 hq1 => ?_)
  refine lv_lstore (lv' := [(5, mV q1), (0, mV x), (2, mV y), (4, nV w)]) C.1 C.2.1 dX2_lowest_5 hl (by decide) rfl (fun ls hl => ?_)
  have hq2 : 0 < q1 ∧ q1 ≤ y := by rw [hq1]; exact ⟨Nat.gcd_pos_of_pos_right _ hy.1, Nat.gcd_le_right _ hy.1⟩
  refine lv_iload C.1 C.2.1 dX2_lowest_7 (lv_at hl 3 rfl) ?_
  refine r_ine 16 C dX2_lowest_9 rfl (rgN (by omega)) (fun h_3 => ?_) (fun h_3 => ?_)
  · skip
    refine lv_lload_n C.1 C.2.1 dX2_lowest_16 rfl (lv_at hl 2 rfl) ?_
    refine lv_lstore (lv' := [(7, mV y), (5, mV q1), (0, mV x), (2, mV y), (4, nV w)]) C.1 C.2.1 dX2_lowest_17 hl (by decide) rfl (fun ls hl => ?_)
    refine lv_lload C.1 C.2.1 dX2_lowest_19 (lv_at hl 1 rfl) ?_
    refine r_lconst 0 C dX2_lowest_21 rfl ?_
    refine r_lle 34 C dX2_lowest_22 dX2_lowest_23 rfl ⟨rlN (by omega), rlN (by decide)⟩ (fun h_4 => ?_) (fun h_4 => ?_)
    · exact absurd h_4 (by omega)
    refine lv_lload C.1 C.2.1 dX2_lowest_26 (lv_at hl 0 rfl) ?_
    refine lv_lload C.1 C.2.1 dX2_lowest_28 (lv_at hl 1 rfl) ?_
    refine r_ldivN C dX2_lowest_30 (by omega) (by omega) ?_
    refine r_goto 36 C dX2_lowest_31 rfl ?_
    exact ret dX2_lowest_36 (congrArg (fun q : Nat => lI (q : Int)) (by unfold low; first | rw [if_pos (by omega), hq1] | rw [if_neg (by omega), hq1]))
  refine lv_lload_n C.1 C.2.1 dX2_lowest_12 rfl (lv_at hl 1 rfl) ?_
  refine r_goto 17 C dX2_lowest_13 rfl ?_
  refine lv_lstore (lv' := [(7, mV x), (5, mV q1), (0, mV x), (2, mV y), (4, nV w)]) C.1 C.2.1 dX2_lowest_17 hl (by decide) rfl (fun ls hl => ?_)
  refine lv_lload C.1 C.2.1 dX2_lowest_19 (lv_at hl 1 rfl) ?_
  refine r_lconst 0 C dX2_lowest_21 rfl ?_
  refine r_lle 34 C dX2_lowest_22 dX2_lowest_23 rfl ⟨rlN (by omega), rlN (by decide)⟩ (fun h_5 => ?_) (fun h_5 => ?_)
  · exact absurd h_5 (by omega)
  refine lv_lload C.1 C.2.1 dX2_lowest_26 (lv_at hl 0 rfl) ?_
  refine lv_lload C.1 C.2.1 dX2_lowest_28 (lv_at hl 1 rfl) ?_
  refine r_ldivN C dX2_lowest_30 (by omega) (by omega) ?_
  refine r_goto 36 C dX2_lowest_31 rfl ?_
  exact ret dX2_lowest_36 (congrArg (fun q : Nat => lI (q : Int)) (by unfold low; first | rw [if_pos (by omega), hq1] | rw [if_neg (by omega), hq1]))
set_option maxHeartbeats 4000000 in
set_option maxRecDepth 100000 in
theorem c_X7_length (l : Launch) (g : GG) (t : Nat) (t0 : Nat) (Lt : Nat)  : ROi g l yX7_length cX7_length 1 (some .int) 1 [(t, .inr (5, [.ref t0, nV Lt]))] [.ref t] (fun r => r = iI ((Lt : Nat) : Int)) := by
  refine ro_startI (by decide +kernel) (Nat.le_of_ble_eq_true rfl) ?_
  intro p e s m args below meth c Q ls C hK hP ret hl
  have C : CT p s m args meth c cX7_length RX7 1 := C
  have hl : lv_has ls 1 [(0, .ref t)] := hl
  refine lv_aload_n C.1 C.2.1 dX7_length_0 rfl (lv_at hl 0 rfl) ?_
  refine r_get C hK hP kw_X7 (ci := 5) rfl 0 1 (by decide) kf_X7_13 rfl rfl dX7_length_1 ?_
  exact ret dX7_length_4 (by first | rfl | exact iI_cast (by omega) | exact congrArg lI (by omega) | omega)
set_option maxHeartbeats 4000000 in
set_option maxRecDepth 100000 in
theorem c_X7_hasRoom (l : Launch) (g : GG) (t : Nat) (t0 : Nat) (Lt : Nat) (x : Nat) (hLt : Lt ≤ 300) (hx : x < 9) : ROi g l yX7_hasRoom cX7_hasRoom 2 (some .boolean) 1 [(t, .inr (5, [.ref t0, nV Lt]))] [.ref t, nV x] (fun r => r = bI (Lt + x ≤ 300)) := by
  refine ro_startZ (by decide +kernel) (Nat.le_of_ble_eq_true rfl) ?_
  intro p e s m args below meth c Q ls C hK hP ret hl
  have C : CT p s m args meth c cX7_hasRoom RX7 2 := C
  have hl : lv_has ls 2 [(0, .ref t), (1, nV x)] := hl
  refine lv_aload_n C.1 C.2.1 dX7_hasRoom_0 rfl (lv_at hl 0 rfl) ?_
  refine r_get C hK hP kw_X7 (ci := 5) rfl 0 1 (by decide) kf_X7_13 rfl rfl dX7_hasRoom_1 ?_
  refine lv_iload_n C.1 C.2.1 dX7_hasRoom_4 rfl (lv_at hl 1 rfl) ?_
  refine r_addN C dX7_hasRoom_5 ?_
  refine r_sipush 300 C dX7_hasRoom_6 (by decide) ?_
  refine r_cgt 16 C dX7_hasRoom_9 rfl ⟨rgN (by omega), rgN (by decide)⟩ (fun h_1 => ?_) (fun h_1 => ?_)
  · skip
    refine r_iconst 0 C dX7_hasRoom_16 rfl ?_
    exact ret dX7_hasRoom_17 (by decide) (bI_z (by omega))
  refine r_iconst 1 C dX7_hasRoom_12 rfl ?_
  refine r_goto 17 C dX7_hasRoom_13 rfl ?_
  exact ret dX7_hasRoom_17 (by decide) (bI_1 (by omega))
set_option maxHeartbeats 4000000 in
set_option maxRecDepth 100000 in
theorem c_X7_byteAt (l : Launch) (g : GG) (t : Nat) (t0 : Nat) (u : Nat → Nat) (Lt : Nat) (x : Nat) (hux : ∀ j, u j < 256) (hLt : Lt ≤ 300) (hx : x < 2147483648) : ROi g l yX7_byteAt cX7_byteAt 2 (some .int) 1 [(t, .inr (5, [.ref t0, nV Lt])), (t0, cB g 300 u)] [.ref t, nV x] (fun r => r = iI (chr u Lt x)) := by
  refine ro_startI (by decide +kernel) (Nat.le_of_ble_eq_true rfl) ?_
  intro p e s m args below meth c Q ls C hK hP ret hl
  have C : CT p s m args meth c cX7_byteAt RX7 2 := C
  have hl : lv_has ls 2 [(0, .ref t), (1, nV x)] := hl
  refine lv_iload_n C.1 C.2.1 dX7_byteAt_0 rfl (lv_at hl 1 rfl) ?_
  refine r_ilt 34 C dX7_byteAt_1 rfl (rgN (by omega)) (fun h_1 => ?_) (fun h_1 => ?_)
  · exact absurd h_1 (by omega)
  refine lv_iload_n C.1 C.2.1 dX7_byteAt_4 rfl (lv_at hl 1 rfl) ?_
  refine lv_aload_n C.1 C.2.1 dX7_byteAt_5 rfl (lv_at hl 0 rfl) ?_
  refine r_get C hK hP kw_X7 (ci := 5) rfl 0 1 (by decide) kf_X7_13 rfl rfl dX7_byteAt_6 ?_
  refine r_cge 34 C dX7_byteAt_9 rfl ⟨rgN (by omega), rgN (by omega)⟩ (fun h_2 => ?_) (fun h_2 => ?_)
  · skip
    refine r_iconstZ C dX7_byteAt_34 ?_
    exact ret dX7_byteAt_35 (iI_cast (by unfold chr; rw [if_neg (by omega)]))
  refine lv_iload_n C.1 C.2.1 dX7_byteAt_12 rfl (lv_at hl 1 rfl) ?_
  refine lv_aload_n C.1 C.2.1 dX7_byteAt_13 rfl (lv_at hl 0 rfl) ?_
  refine r_get C hK hP kw_X7 (ci := 5) rfl 0 0 (by decide) kf_X7_9 rfl rfl dX7_byteAt_14 ?_
  refine r_alen 300 (t0 := 0) C hK hP 1 rfl rfl rfl dX7_byteAt_17 ?_
  refine r_cge 34 C dX7_byteAt_18 rfl ⟨rgN (by omega), rgN (by decide)⟩ (fun h_3 => ?_) (fun h_3 => ?_)
  · exact absurd h_3 (by omega)
  refine lv_aload_n C.1 C.2.1 dX7_byteAt_21 rfl (lv_at hl 0 rfl) ?_
  refine r_get C hK hP kw_X7 (ci := 5) rfl 0 0 (by decide) kf_X7_9 rfl rfl dX7_byteAt_22 ?_
  refine lv_iload_n C.1 C.2.1 dX7_byteAt_25 rfl (lv_at hl 1 rfl) ?_
  refine r_aldB C hK hP 1 rfl ⟨by omega, by omega⟩ dX7_byteAt_26 ?_
  refine r_sipush 255 C dX7_byteAt_27 (by decide) ?_
  refine lv_iand C.1 C.2.1 dX7_byteAt_30 ?_
  refine r_goto 35 C dX7_byteAt_31 rfl ?_
  exact ret dX7_byteAt_35 (by unfold chr; rw [if_pos (by omega)]; exact (sb_byte _ (hux _)).1.trans (iI_nI _).symm)
set_option maxHeartbeats 4000000 in
set_option maxRecDepth 100000 in
theorem c_X7_clear (l : Launch) (g : GG) (t : Nat) (t0 : Nat) (Lt : Nat)  : WRv g l yX7_clear cX7_clear 1 1 [(t, .inr (5, [.ref t0, nV Lt]))] [.ref t] (fun (_ : Unit) => True) (fun (_ : Unit) => [(t, .inr (5, [.ref t0, nV 0]))]) := by
  refine wr_startV (by decide +kernel) (Nat.le_of_ble_eq_true rfl) ?_
  intro p e s m args below meth c Q A ls C hK hA ret hP hD hS hl
  have C : CT p s m args meth c cX7_clear RX7 1 := C
  have hl : lv_has ls 1 [(0, .ref t)] := hl
  refine lv_aload_n C.1 C.2.1 dX7_clear_0 rfl (lv_at hl 0 rfl) ?_
  refine r_iconst 0 C dX7_clear_1 rfl ?_
  refine r_put (v := nV 0) C hK hP hD hS kw_X7 tyX7_ok nmX7 (ci := 5) rfl 0 1 (by decide) kf_X7_13 rfl rfl rfl rfl rfl (Nat.le_of_ble_eq_true rfl) dX7_clear_2 (fun H locs hP hD hS => ?_)
  have hP : va_P g.1 vwCl [(t, .inr (5, [.ref t0, nV 0]))] H := hP
  have hD : va_D A [(t, .inr (5, [.ref t0, nV 0]))] := hD
  exact ret (()) dX7_clear_5 hS hP (trivial)
set_option maxHeartbeats 4000000 in
set_option maxRecDepth 100000 in
theorem c_X7_append (l : Launch) (g : GG) (t : Nat) (t0 : Nat) (u : Nat → Nat) (Lt : Nat) (nn : Nat) (v : Int64) (hr : Lt + nn ≤ 300) (hn : 1 ≤ nn ∧ nn ≤ 8) : WRv g l yX7_append cX7_append 5 1 [(t, .inr (5, [.ref t0, nV Lt])), (t0, cB g 300 u)] [.ref t, nV nn, .long v] (fun (_ : Unit) => True) (fun (_ : Unit) => [(t, .inr (5, [.ref t0, nV (Lt + nn)])), (t0, cB g 300 (wrt u Lt v nn nn))]) := by
  refine wr_startV (by decide +kernel) (Nat.le_of_ble_eq_true rfl) ?_
  intro p e s m args below meth c Q A ls C hK hA ret hP hD hS hl
  have C : CT p s m args meth c cX7_append RX7 5 := C
  have hl : lv_has ls 5 [(0, .ref t), (1, nV nn), (2, .long v)] := hl
  refine lv_iload_n C.1 C.2.1 dX7_append_0 rfl (lv_at hl 1 rfl) ?_
  refine r_iconst 1 C dX7_append_1 rfl ?_
  refine r_subN C dX7_append_2 (by omega) ?_
  refine lv_istore (lv' := [(4, nV (nn - 1)), (0, .ref t), (1, nV nn), (2, .long v)]) C.1 C.2.1 dX7_append_3 hl (by decide) rfl (fun ls hl => ?_)
  have L5 : ∀ (n_5 : Nat) (i : Nat) (z : Int) (ub : Nat → Nat) (H : Heap) (locs : List Loc) (ls : Array Slot) (hi : i ≤ nn) (hz : z = (nn : Int) - 1 - (i : Int)) (hub : ub = wrt u Lt v nn i) (hm : nn - i < n_5) (hP : va_P g.1 vwCl [(t, .inr (5, [.ref t0, nV (Lt + i)])), (t0, cB g 300 ub)] H) (hD : va_D A [(t, .inr (5, [.ref t0, nV (Lt + i)])), (t0, cB g 300 ub)]) (hS : va_S A s.heap H locs) (hl : lv_has ls 5 [(4, zV z), (0, .ref t), (1, nV nn), (2, .long v)]), W p l e (rD 1) s m args below meth c H locs 0 0 Q (F0 m 5 ls []) := by
    intro n_5
    induction n_5 with
    | zero => intro i z ub H locs ls hi hz hub hm hP hD hS hl; exact absurd hm (Nat.not_lt_zero _)
    | succ n_5 ih_5 =>
      intro i z ub H locs ls hi hz hub hm hP hD hS hl
      refine lv_iload C.1 C.2.1 dX7_append_5 (lv_at hl 0 rfl) ?_
      refine r_ilt 63 C dX7_append_7 rfl (⟨by omega, by omega⟩) (fun h_1 => ?_) (fun h_1 => ?_)
      · skip
        exact ret (()) dX7_append_63 hS (by rw [hub, show i = nn by omega] at hP; exact hP) (trivial)
      refine lv_aload_n C.1 C.2.1 dX7_append_10 rfl (lv_at hl 1 rfl) ?_
      refine r_get C hK hP kw_X7 (ci := 5) rfl 0 1 (by decide) kf_X7_13 rfl rfl dX7_append_11 ?_
      refine r_ilt 57 C dX7_append_14 rfl (rgN (by omega)) (fun h_2 => ?_) (fun h_2 => ?_)
      · exact absurd h_2 (by omega)
      refine lv_aload_n C.1 C.2.1 dX7_append_17 rfl (lv_at hl 1 rfl) ?_
      refine r_get C hK hP kw_X7 (ci := 5) rfl 0 1 (by decide) kf_X7_13 rfl rfl dX7_append_18 ?_
      refine lv_aload_n C.1 C.2.1 dX7_append_21 rfl (lv_at hl 1 rfl) ?_
      refine r_get C hK hP kw_X7 (ci := 5) rfl 0 0 (by decide) kf_X7_9 rfl rfl dX7_append_22 ?_
      refine r_alen 300 (t0 := 0) C hK hP 1 rfl rfl rfl dX7_append_25 ?_
      refine r_cge 57 C dX7_append_26 rfl ⟨rgN (by omega), rgN (by decide)⟩ (fun h_3 => ?_) (fun h_3 => ?_)
      · exact absurd h_3 (by omega)
      refine lv_aload_n C.1 C.2.1 dX7_append_29 rfl (lv_at hl 1 rfl) ?_
      refine r_get C hK hP kw_X7 (ci := 5) rfl 0 0 (by decide) kf_X7_9 rfl rfl dX7_append_30 ?_
      refine lv_aload_n C.1 C.2.1 dX7_append_33 rfl (lv_at hl 1 rfl) ?_
      refine r_get C hK hP kw_X7 (ci := 5) rfl 0 1 (by decide) kf_X7_13 rfl rfl dX7_append_34 ?_
      refine lv_lload_n C.1 C.2.1 dX7_append_37 rfl (lv_at hl 3 rfl) ?_
      refine r_bipush 8 C dX7_append_38 (by decide) ?_
      refine lv_iload C.1 C.2.1 dX7_append_40 (lv_at hl 0 rfl) ?_
      refine r_mulZ C dX7_append_42 ?_
      refine lv_lushr C.1 C.2.1 dX7_append_43 rfl ?_
      refine lv_l2i C.1 C.2.1 dX7_append_44 rfl ?_
      refine lv_i2b C.1 C.2.1 dX7_append_45 rfl ?_
      refine r_astB (u := by8 v (nn - 1 - i)) C hK hP hD hS 1 rfl ⟨by omega, by omega⟩ (by8_ushr (k := nn - 1 - i) (by omega) (by omega)) dX7_append_46 (fun H locs hP hD hS => ?_)
      have hP : va_P g.1 vwCl [(t, .inr (5, [.ref t0, nV (Lt + i)])), (t0, cB g 300 (upN ub (Lt + i) (by8 v (nn - 1 - i))))] H := hP
      have hD : va_D A [(t, .inr (5, [.ref t0, nV (Lt + i)])), (t0, cB g 300 (upN ub (Lt + i) (by8 v (nn - 1 - i))))] := hD
      refine lv_aload_n C.1 C.2.1 dX7_append_47 rfl (lv_at hl 1 rfl) ?_
      refine lv_dup C.1 C.2.1 dX7_append_48 rfl ?_
      refine r_get C hK hP kw_X7 (ci := 5) rfl 0 1 (by decide) kf_X7_13 rfl rfl dX7_append_49 ?_
      refine r_iconst 1 C dX7_append_52 rfl ?_
      refine r_addN C dX7_append_53 ?_
      refine r_put (v := nV ((Lt + i) + 1)) C hK hP hD hS kw_X7 tyX7_ok nmX7 (ci := 5) rfl 0 1 (by decide) kf_X7_13 rfl rfl rfl rfl rfl (Nat.le_of_ble_eq_true rfl) dX7_append_54 (fun H locs hP hD hS => ?_)
      have hP : va_P g.1 vwCl [(t, .inr (5, [.ref t0, nV ((Lt + i) + 1)])), (t0, cB g 300 (upN ub (Lt + i) (by8 v (nn - 1 - i))))] H := hP
      have hD : va_D A [(t, .inr (5, [.ref t0, nV ((Lt + i) + 1)])), (t0, cB g 300 (upN ub (Lt + i) (by8 v (nn - 1 - i))))] := hD
      refine r_incZ (k := 0) [(4, zV (z + (-1))), (0, .ref t), (1, nV nn), (2, .long v)] C dX7_append_57 hl rfl (by decide) rfl (fun ls hl => ?_)
      refine r_goto 5 C dX7_append_60 rfl ?_
      exact ih_5 (i + 1) (z + (-1)) (upN ub (Lt + i) (by8 v (nn - 1 - i))) _ _ _ (by first | assumption | omega) (by first | assumption | omega) (by rw [hub]; exact wrt_s) (by omega) hP hD hS (lv_sub hl [0, 1, 2, 3] rfl)
  exact L5 (nn - 0 + 1) 0 ((nn - 1 : Nat) : Int) u _ _ _ (by first | assumption | omega) (by first | assumption | omega) (wrt_0.symm) (Nat.lt_succ_self _) hP hD hS (lv_sub hl [0, 1, 2, 3] rfl)
