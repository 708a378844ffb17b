set_option maxHeartbeats 4000000 in
set_option maxRecDepth 100000 in
theorem c_X6_of (l : Launch) (g : GG) (x : Nat) (y : Nat) (w : Nat)  : ROi g l yX6_of cX6_of 3 (some .int) 1 [] [nV x, nV y, nV w] (fun r => r = iI ((x + 6 * y + 24 * w : Nat) : Int)) := by
  refine ro_startI (by decide +kernel) (Nat.le_of_ble_eq_true rfl) ?_
  intro p e s m args below meth c Q ls C hK hP ret hl
  have C : CT p s m args meth c cX6_of RX6 3 := C
  have hl : lv_has ls 3 [(0, nV x), (1, nV y), (2, nV w)] := hl
  refine lv_iload_n C.1 C.2.1 dX6_of_0 rfl (lv_at hl 0 rfl) ?_
  refine r_bipush 6 C dX6_of_1 (by decide) ?_
  refine lv_iload_n C.1 C.2.1 dX6_of_3 rfl (lv_at hl 1 rfl) ?_
  refine r_mulN C dX6_of_4 ?_
  refine r_addN C dX6_of_5 ?_
  refine r_bipush 24 C dX6_of_6 (by decide) ?_
  refine lv_iload_n C.1 C.2.1 dX6_of_8 rfl (lv_at hl 2 rfl) ?_
  refine r_mulN C dX6_of_9 ?_
  refine r_addN C dX6_of_10 ?_
  exact ret dX6_of_11 (by first | rfl | exact iI_cast (by omega) | exact congrArg lI (by omega) | omega)
set_option maxHeartbeats 4000000 in
set_option maxRecDepth 100000 in
theorem c_X6_seeds (l : Launch) (g : GG) (x : Nat) (hx : x < 2147483648) : ROi g l yX6_seeds cX6_seeds 1 (some .int) 1 [] [nV x] (fun r => r = iI ((x % 6 : Nat) : Int)) := by
  refine ro_startI (by decide +kernel) (Nat.le_of_ble_eq_true rfl) ?_
  intro p e s m args below meth c Q ls C hK hP ret hl
  have C : CT p s m args meth c cX6_seeds RX6 1 := C
  have hl : lv_has ls 1 [(0, nV x)] := hl
  refine lv_iload_n C.1 C.2.1 dX6_seeds_0 rfl (lv_at hl 0 rfl) ?_
  refine r_bipush 6 C dX6_seeds_1 (by decide) ?_
  refine r_remN C dX6_seeds_3 (by omega) (by decide) ?_
  exact ret dX6_seeds_4 (by first | rfl | exact iI_cast (by omega) | exact congrArg lI (by omega) | omega)
set_option maxHeartbeats 4000000 in
set_option maxRecDepth 100000 in
theorem c_X6_cuts (l : Launch) (g : GG) (x : Nat) (hx : x < 2147483648) : ROi g l yX6_cuts cX6_cuts 1 (some .int) 1 [] [nV x] (fun r => r = iI ((x / 6 % 4 : Nat) : Int)) := by
  refine ro_startI (by decide +kernel) (Nat.le_of_ble_eq_true rfl) ?_
  intro p e s m args below meth c Q ls C hK hP ret hl
  have C : CT p s m args meth c cX6_cuts RX6 1 := C
  have hl : lv_has ls 1 [(0, nV x)] := hl
  refine lv_iload_n C.1 C.2.1 dX6_cuts_0 rfl (lv_at hl 0 rfl) ?_
  refine r_bipush 6 C dX6_cuts_1 (by decide) ?_
  refine r_divN C dX6_cuts_3 (by omega) (by decide) ?_
  refine r_iconst 4 C dX6_cuts_4 rfl ?_
  refine r_remN C dX6_cuts_5 (by omega) (by decide) ?_
  exact ret dX6_cuts_6 (by first | rfl | exact iI_cast (by omega) | exact congrArg lI (by omega) | omega)
set_option maxHeartbeats 4000000 in
set_option maxRecDepth 100000 in
theorem c_X6_filling (l : Launch) (g : GG) (x : Nat) (hx : x < 2147483648) : ROi g l yX6_filling cX6_filling 1 (some .int) 1 [] [nV x] (fun r => r = iI ((x / 24 : Nat) : Int)) := by
  refine ro_startI (by decide +kernel) (Nat.le_of_ble_eq_true rfl) ?_
  intro p e s m args below meth c Q ls C hK hP ret hl
  have C : CT p s m args meth c cX6_filling RX6 1 := C
  have hl : lv_has ls 1 [(0, nV x)] := hl
  refine lv_iload_n C.1 C.2.1 dX6_filling_0 rfl (lv_at hl 0 rfl) ?_
  refine r_bipush 24 C dX6_filling_1 (by decide) ?_
  refine r_divN C dX6_filling_3 (by omega) (by decide) ?_
  exact ret dX6_filling_4 (by first | rfl | exact iI_cast (by omega) | exact congrArg lI (by omega) | omega)
set_option maxHeartbeats 4000000 in
set_option maxRecDepth 100000 in
theorem c_X6_flour (l : Launch) (g : GG) (x : Nat) (hx : x < 2147483648) : ROi g l yX6_flour cX6_flour 1 (some .int) 2 [] [nV x] (fun r => r = iI ((fl x : Nat) : Int)) := by
  refine ro_startI (by decide +kernel) (Nat.le_of_ble_eq_true rfl) ?_
  intro p e s m args below meth c Q ls C hK hP ret hl
  have C : CT p s m args meth c cX6_flour RX6 1 := C
  have hl : lv_has ls 1 [(0, nV x)] := hl
  refine r_iconst 1 C dX6_flour_0 rfl ?_
  refine lv_iload_n C.1 C.2.1 dX6_flour_1 rfl (lv_at hl 0 rfl) ?_
  refine ro_callS (As := [nV x]) (rest := [nV 1]) C hK (c_X6_seeds l g x (by first | assumption | omega)) hP kc_X6_seeds kl_X6_7 kn_X6 ks_X6_seeds nk_X6_seeds (rm_lt (by decide) (by decide)) hl rfl (Nat.le_of_ble_eq_true rfl) dX6_flour_2 (fun r_1 hr_2 => ?_)
  subst hr_2
  refine r_addN C dX6_flour_5 ?_
  refine r_iconst 2 C dX6_flour_6 rfl ?_
  refine lv_iload_n C.1 C.2.1 dX6_flour_7 rfl (lv_at hl 0 rfl) ?_
  refine ro_callS (As := [nV x]) (rest := [nV 2, nV (1 + (x % 6))]) C hK (c_X6_cuts l g x (by first | assumption | omega)) hP kc_X6_cuts kl_X6_13 kn_X6 ks_X6_cuts nk_X6_cuts (rm_lt (by decide) (by decide)) hl rfl (Nat.le_of_ble_eq_true rfl) dX6_flour_8 (fun r_3 hr_4 => ?_)
  subst hr_4
  refine r_mulN C dX6_flour_11 ?_
  refine r_addN C dX6_flour_12 ?_
  refine r_iconst 3 C dX6_flour_13 rfl ?_
  refine lv_iload_n C.1 C.2.1 dX6_flour_14 rfl (lv_at hl 0 rfl) ?_
  refine ro_callS (As := [nV x]) (rest := [nV 3, nV ((1 + (x % 6)) + (2 * (x / 6 % 4)))]) C hK (c_X6_filling l g x (by first | assumption | omega)) hP kc_X6_filling kl_X6_16 kn_X6 ks_X6_filling nk_X6_filling (rm_lt (by decide) (by decide)) hl rfl (Nat.le_of_ble_eq_true rfl) dX6_flour_15 (fun r_5 hr_6 => ?_)
  subst hr_6
  refine r_mulN C dX6_flour_18 ?_
  refine r_addN C dX6_flour_19 ?_
  exact ret dX6_flour_20 (by first | rfl | exact iI_cast (by omega) | exact congrArg lI (by omega) | omega)
set_option maxHeartbeats 4000000 in
set_option maxRecDepth 100000 in
theorem c_X6_bitten (l : Launch) (g : GG) (x : Nat) (hx : x < 72) : ROi g l yX6_bitten cX6_bitten 1 (some .int) 2 [] [nV x] (fun r => r = iI ((bt x : Nat) : Int)) := by
  refine ro_startI (by decide +kernel) (Nat.le_of_ble_eq_true rfl) ?_
  intro p e s m args below meth c Q ls C hK hP ret hl
  have C : CT p s m args meth c cX6_bitten RX6 1 := C
  have hl : lv_has ls 1 [(0, nV x)] := hl
  refine lv_iload_n C.1 C.2.1 dX6_bitten_0 rfl (lv_at hl 0 rfl) ?_
  refine ro_callS (As := [nV x]) (rest := []) C hK (c_X6_filling l g x (by first | assumption | omega)) hP kc_X6_filling kl_X6_16 kn_X6 ks_X6_filling nk_X6_filling (rm_lt (by decide) (by decide)) hl rfl (Nat.le_of_ble_eq_true rfl) dX6_bitten_1 (fun r_1 hr_2 => ?_)
  subst hr_2
  refine r_ile 20 C dX6_bitten_4 rfl (rgN (by omega)) (fun h_3 => ?_) (fun h_3 => ?_)
  · skip
    refine lv_iload_n C.1 C.2.1 dX6_bitten_20 rfl (lv_at hl 0 rfl) ?_
    refine ro_callS (As := [nV x]) (rest := []) C hK (c_X6_seeds l g x (by first | assumption | omega)) hP kc_X6_seeds kl_X6_7 kn_X6 ks_X6_seeds nk_X6_seeds (rm_lt (by decide) (by decide)) hl rfl (Nat.le_of_ble_eq_true rfl) dX6_bitten_21 (fun r_4 hr_5 => ?_)
    subst hr_5
    refine r_ile 39 C dX6_bitten_24 rfl (rgN (by omega)) (fun h_6 => ?_) (fun h_6 => ?_)
    · skip
      refine r_iconst 0 C dX6_bitten_39 rfl ?_
      exact ret dX6_bitten_40 (by exact iI_cast (by unfold bt; split <;> (try split) <;> omega))
    refine r_iconst 0 C dX6_bitten_27 rfl ?_
    refine lv_iload_n C.1 C.2.1 dX6_bitten_28 rfl (lv_at hl 0 rfl) ?_
    refine ro_callS (As := [nV x]) (rest := [nV 0]) C hK (c_X6_cuts l g x (by first | assumption | omega)) hP kc_X6_cuts kl_X6_13 kn_X6 ks_X6_cuts nk_X6_cuts (rm_lt (by decide) (by decide)) hl rfl (Nat.le_of_ble_eq_true rfl) dX6_bitten_29 (fun r_7 hr_8 => ?_)
    subst hr_8
    refine r_iconst 0 C dX6_bitten_32 rfl ?_
    refine ro_callS (As := [nV 0, nV (x / 6 % 4), nV 0]) (rest := []) C hK (c_X6_of l g 0 (x / 6 % 4) 0) hP kc_X6_of kl_X6_19 kn_X6 ks_X6_of nk_X6_of (rm_lt (by decide) (by decide)) hl rfl (Nat.le_of_ble_eq_true rfl) dX6_bitten_33 (fun r_9 hr_10 => ?_)
    subst hr_10
    refine r_goto 40 C dX6_bitten_36 rfl ?_
    exact ret dX6_bitten_40 (by exact iI_cast (by unfold bt; split <;> (try split) <;> omega))
  refine lv_iload_n C.1 C.2.1 dX6_bitten_7 rfl (lv_at hl 0 rfl) ?_
  refine ro_callS (As := [nV x]) (rest := []) C hK (c_X6_seeds l g x (by first | assumption | omega)) hP kc_X6_seeds kl_X6_7 kn_X6 ks_X6_seeds nk_X6_seeds (rm_lt (by decide) (by decide)) hl rfl (Nat.le_of_ble_eq_true rfl) dX6_bitten_8 (fun r_11 hr_12 => ?_)
  subst hr_12
  refine lv_iload_n C.1 C.2.1 dX6_bitten_11 rfl (lv_at hl 0 rfl) ?_
  refine ro_callS (As := [nV x]) (rest := [nV (x % 6)]) C hK (c_X6_cuts l g x (by first | assumption | omega)) hP kc_X6_cuts kl_X6_13 kn_X6 ks_X6_cuts nk_X6_cuts (rm_lt (by decide) (by decide)) hl rfl (Nat.le_of_ble_eq_true rfl) dX6_bitten_12 (fun r_13 hr_14 => ?_)
  subst hr_14
  refine r_iconst 0 C dX6_bitten_15 rfl ?_
  refine ro_callS (As := [nV (x % 6), nV (x / 6 % 4), nV 0]) (rest := []) C hK (c_X6_of l g (x % 6) (x / 6 % 4) 0) hP kc_X6_of kl_X6_19 kn_X6 ks_X6_of nk_X6_of (rm_lt (by decide) (by decide)) hl rfl (Nat.le_of_ble_eq_true rfl) dX6_bitten_16 (fun r_15 hr_16 => ?_)
  subst hr_16
  exact ret dX6_bitten_19 (by exact iI_cast (by unfold bt; split <;> (try split) <;> omega))
set_option maxHeartbeats 4000000 in
set_option maxRecDepth 100000 in
theorem c_X9_within (l : Launch) (g : GG) (x : Int) (y : Int) (w : Int) (hx : rg x) (hy : rg y) (hw : rg w) : ROi g l yX9_within cX9_within 3 (some .boolean) 1 [] [zV x, zV y, zV w] (fun r => r = bI (y ≤ x ∧ x ≤ w)) := by
  refine ro_startZ (by decide +kernel) (Nat.le_of_ble_eq_true rfl) ?_
  intro p e s m args below meth c Q ls C hK hP ret hl
  have C : CT p s m args meth c cX9_within RX9 3 := C
  have hl : lv_has ls 3 [(0, zV x), (1, zV y), (2, zV w)] := hl
  refine lv_iload_n C.1 C.2.1 dX9_within_0 rfl (lv_at hl 0 rfl) ?_
  refine lv_iload_n C.1 C.2.1 dX9_within_1 rfl (lv_at hl 1 rfl) ?_
  refine r_clt 14 C dX9_within_2 rfl ⟨⟨by omega, by omega⟩, ⟨by omega, by omega⟩⟩ (fun h_1 => ?_) (fun h_1 => ?_)
  · skip
    refine r_iconst 0 C dX9_within_14 rfl ?_
    exact ret dX9_within_15 (by decide) (bI_z (by omega))
  refine lv_iload_n C.1 C.2.1 dX9_within_5 rfl (lv_at hl 0 rfl) ?_
  refine lv_iload_n C.1 C.2.1 dX9_within_6 rfl (lv_at hl 2 rfl) ?_
  refine r_cgt 14 C dX9_within_7 rfl ⟨⟨by omega, by omega⟩, ⟨by omega, by omega⟩⟩ (fun h_2 => ?_) (fun h_2 => ?_)
  · skip
    refine r_iconst 0 C dX9_within_14 rfl ?_
    exact ret dX9_within_15 (by decide) (bI_z (by omega))
  refine r_iconst 1 C dX9_within_10 rfl ?_
  refine r_goto 15 C dX9_within_11 rfl ?_
  exact ret dX9_within_15 (by decide) (bI_1 (by omega))
