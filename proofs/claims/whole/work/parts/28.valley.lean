set_option maxHeartbeats 4000000 in
set_option maxRecDepth 100000 in
theorem c_X8_words (l : Launch) (g : GG) (v : Nat) (v0 : Nat) (v1 : Nat) (v2 : Nat) (v3 : Nat) (v4 : Nat) (k : Nat) (nc : Nat) (nb : Nat) (bi : Nat) (mo : Nat)  : ROi g l yX8_words cX8_words 1 (some .int) 1 [(v, .inr (6, [.ref v0, .ref v1, .ref v2, .ref v3, .ref v4, nV k, nV nc, nV nb, nV bi, nV mo]))] [.ref v] (fun r => r = iI ((k : Nat) : Int)) := by
  refine ro_startI (by decide +kernel) (Nat.le_of_ble_eq_true rfl) ?_
  intro p e s m args below meth c Q ls C hK hP ret hl
  have C : CT p s m args meth c cX8_words RX8 1 := C
  have hl : lv_has ls 1 [(0, .ref v)] := hl
  refine lv_aload_n C.1 C.2.1 dX8_words_0 rfl (lv_at hl 0 rfl) ?_
  refine r_get C hK hP kw_X8 (ci := 6) rfl 0 5 (by decide) kf_X8_34 rfl rfl dX8_words_1 ?_
  exact ret dX8_words_4 (by first | rfl | exact iI_cast (by omega) | exact congrArg lI (by omega) | omega)
set_option maxHeartbeats 4000000 in
set_option maxRecDepth 100000 in
theorem c_X8_carriers (l : Launch) (g : GG) (v : Nat) (v0 : Nat) (v1 : Nat) (v2 : Nat) (v3 : Nat) (v4 : Nat) (k : Nat) (nc : Nat) (nb : Nat) (bi : Nat) (mo : Nat)  : ROi g l yX8_carriers cX8_carriers 1 (some .int) 1 [(v, .inr (6, [.ref v0, .ref v1, .ref v2, .ref v3, .ref v4, nV k, nV nc, nV nb, nV bi, nV mo]))] [.ref v] (fun r => r = iI ((nc : Nat) : Int)) := by
  refine ro_startI (by decide +kernel) (Nat.le_of_ble_eq_true rfl) ?_
  intro p e s m args below meth c Q ls C hK hP ret hl
  have C : CT p s m args meth c cX8_carriers RX8 1 := C
  have hl : lv_has ls 1 [(0, .ref v)] := hl
  refine lv_aload_n C.1 C.2.1 dX8_carriers_0 rfl (lv_at hl 0 rfl) ?_
  refine r_get C hK hP kw_X8 (ci := 6) rfl 0 6 (by decide) kf_X8_37 rfl rfl dX8_carriers_1 ?_
  exact ret dX8_carriers_4 (by first | rfl | exact iI_cast (by omega) | exact congrArg lI (by omega) | omega)
set_option maxHeartbeats 4000000 in
set_option maxRecDepth 100000 in
theorem c_X8_bakers (l : Launch) (g : GG) (v : Nat) (v0 : Nat) (v1 : Nat) (v2 : Nat) (v3 : Nat) (v4 : Nat) (k : Nat) (nc : Nat) (nb : Nat) (bi : Nat) (mo : Nat)  : ROi g l yX8_bakers cX8_bakers 1 (some .int) 1 [(v, .inr (6, [.ref v0, .ref v1, .ref v2, .ref v3, .ref v4, nV k, nV nc, nV nb, nV bi, nV mo]))] [.ref v] (fun r => r = iI ((nb : Nat) : Int)) := by
  refine ro_startI (by decide +kernel) (Nat.le_of_ble_eq_true rfl) ?_
  intro p e s m args below meth c Q ls C hK hP ret hl
  have C : CT p s m args meth c cX8_bakers RX8 1 := C
  have hl : lv_has ls 1 [(0, .ref v)] := hl
  refine lv_aload_n C.1 C.2.1 dX8_bakers_0 rfl (lv_at hl 0 rfl) ?_
  refine r_get C hK hP kw_X8 (ci := 6) rfl 0 7 (by decide) kf_X8_40 rfl rfl dX8_bakers_1 ?_
  exact ret dX8_bakers_4 (by first | rfl | exact iI_cast (by omega) | exact congrArg lI (by omega) | omega)
set_option maxHeartbeats 4000000 in
set_option maxRecDepth 100000 in
theorem c_X8_signOf (l : Launch) (g : GG) (v : Nat) (v0 : Nat) (v1 : Nat) (v2 : Nat) (v3 : Nat) (v4 : Nat) (sg : Nat → Nat) (k : Nat) (nc : Nat) (nb : Nat) (bi : Nat) (mo : Nat) (i : Nat) (hi : i < 8) : ROi g l yX8_signOf cX8_signOf 2 (some .int) 2 [(v, .inr (6, [.ref v0, .ref v1, .ref v2, .ref v3, .ref v4, nV k, nV nc, nV nb, nV bi, nV mo])), (v0, cN g 8 sg)] [.ref v, nV i] (fun r => r = iI ((sg i : Nat) : Int)) := by
  refine ro_startI (by decide +kernel) (Nat.le_of_ble_eq_true rfl) ?_
  intro p e s m args below meth c Q ls C hK hP ret hl
  have C : CT p s m args meth c cX8_signOf RX8 2 := C
  have hl : lv_has ls 2 [(0, .ref v), (1, nV i)] := hl
  refine lv_aload_n C.1 C.2.1 dX8_signOf_0 rfl (lv_at hl 0 rfl) ?_
  refine r_get C hK hP kw_X8 (ci := 6) rfl 0 0 (by decide) kf_X8_11 rfl rfl dX8_signOf_1 ?_
  refine lv_iload_n C.1 C.2.1 dX8_signOf_4 rfl (lv_at hl 1 rfl) ?_
  refine ro_callSN (As := [.ref v0, nV i]) (rest := []) C hK (c_X9_at l g v0 8 sg i (by first | assumption | omega) (by first | assumption | omega)) (hP.sub (ws' := [(v0, cN g 8 sg)]) [1] rfl) kc_X9_at kx_X8_57 kn_X9 ks_X9_at nk_X9_at (rm_lt (by decide) (by decide)) hl rfl (Nat.le_of_ble_eq_true rfl) dX8_signOf_5 (fun r_1 hr_2 => ?_)
  subst hr_2
  exact ret dX8_signOf_8 (by first | rfl | exact iI_cast (by omega) | exact congrArg lI (by omega) | omega)
set_option maxHeartbeats 4000000 in
set_option maxRecDepth 100000 in
theorem c_X8_worthOf (l : Launch) (g : GG) (v : Nat) (v0 : Nat) (v1 : Nat) (v2 : Nat) (v3 : Nat) (v4 : Nat) (wo : Nat → Nat) (k : Nat) (nc : Nat) (nb : Nat) (bi : Nat) (mo : Nat) (i : Nat) (hi : i < 8) : ROi g l yX8_worthOf cX8_worthOf 2 (some .int) 2 [(v, .inr (6, [.ref v0, .ref v1, .ref v2, .ref v3, .ref v4, nV k, nV nc, nV nb, nV bi, nV mo])), (v1, cN g 8 wo)] [.ref v, nV i] (fun r => r = iI ((wo i : Nat) : Int)) := by
  refine ro_startI (by decide +kernel) (Nat.le_of_ble_eq_true rfl) ?_
  intro p e s m args below meth c Q ls C hK hP ret hl
  have C : CT p s m args meth c cX8_worthOf RX8 2 := C
  have hl : lv_has ls 2 [(0, .ref v), (1, nV i)] := hl
  refine lv_aload_n C.1 C.2.1 dX8_worthOf_0 rfl (lv_at hl 0 rfl) ?_
  refine r_get C hK hP kw_X8 (ci := 6) rfl 0 1 (by decide) kf_X8_15 rfl rfl dX8_worthOf_1 ?_
  refine lv_iload_n C.1 C.2.1 dX8_worthOf_4 rfl (lv_at hl 1 rfl) ?_
  refine ro_callSN (As := [.ref v1, nV i]) (rest := []) C hK (c_X9_at l g v1 8 wo i (by first | assumption | omega) (by first | assumption | omega)) (hP.sub (ws' := [(v1, cN g 8 wo)]) [1] rfl) kc_X9_at kx_X8_57 kn_X9 ks_X9_at nk_X9_at (rm_lt (by decide) (by decide)) hl rfl (Nat.le_of_ble_eq_true rfl) dX8_worthOf_5 (fun r_1 hr_2 => ?_)
  subst hr_2
  exact ret dX8_worthOf_8 (by first | rfl | exact iI_cast (by omega) | exact congrArg lI (by omega) | omega)
set_option maxHeartbeats 4000000 in
set_option maxRecDepth 100000 in
theorem c_X8_milesOf (l : Launch) (g : GG) (v : Nat) (v0 : Nat) (v1 : Nat) (v2 : Nat) (v3 : Nat) (v4 : Nat) (mi : Nat → Nat) (k : Nat) (nc : Nat) (nb : Nat) (bi : Nat) (mo : Nat) (i : Nat) (hi : i < 5) : ROi g l yX8_milesOf cX8_milesOf 2 (some .int) 2 [(v, .inr (6, [.ref v0, .ref v1, .ref v2, .ref v3, .ref v4, nV k, nV nc, nV nb, nV bi, nV mo])), (v3, cN g 5 mi)] [.ref v, nV i] (fun r => r = iI ((mi i : Nat) : Int)) := by
  refine ro_startI (by decide +kernel) (Nat.le_of_ble_eq_true rfl) ?_
  intro p e s m args below meth c Q ls C hK hP ret hl
  have C : CT p s m args meth c cX8_milesOf RX8 2 := C
  have hl : lv_has ls 2 [(0, .ref v), (1, nV i)] := hl
  refine lv_aload_n C.1 C.2.1 dX8_milesOf_0 rfl (lv_at hl 0 rfl) ?_
  refine r_get C hK hP kw_X8 (ci := 6) rfl 0 3 (by decide) kf_X8_21 rfl rfl dX8_milesOf_1 ?_
  refine lv_iload_n C.1 C.2.1 dX8_milesOf_4 rfl (lv_at hl 1 rfl) ?_
  refine ro_callSN (As := [.ref v3, nV i]) (rest := []) C hK (c_X9_at l g v3 5 mi i (by first | assumption | omega) (by first | assumption | omega)) (hP.sub (ws' := [(v3, cN g 5 mi)]) [1] rfl) kc_X9_at kx_X8_57 kn_X9 ks_X9_at nk_X9_at (rm_lt (by decide) (by decide)) hl rfl (Nat.le_of_ble_eq_true rfl) dX8_milesOf_5 (fun r_1 hr_2 => ?_)
  subst hr_2
  exact ret dX8_milesOf_8 (by first | rfl | exact iI_cast (by omega) | exact congrArg lI (by omega) | omega)
set_option maxHeartbeats 4000000 in
set_option maxRecDepth 100000 in
theorem c_X8_readAs (l : Launch) (g : GG) (v : Nat) (v0 : Nat) (v1 : Nat) (v2 : Nat) (v3 : Nat) (v4 : Nat) (sg : Nat → Nat) (k : Nat) (nc : Nat) (nb : Nat) (bi : Nat) (mo : Nat) (x : Nat) (hsg : ∀ j, sg j < 72) (hk : k ≤ 8) (hx : x < 2147483648) : ROi g l yX8_readAs cX8_readAs 3 (some .int) 3 [(v, .inr (6, [.ref v0, .ref v1, .ref v2, .ref v3, .ref v4, nV k, nV nc, nV nb, nV bi, nV mo])), (v0, cN g 8 sg)] [.ref v, nV x] (fun r => r = iI (rd sg k x)) := by
  refine ro_startI (by decide +kernel) (Nat.le_of_ble_eq_true rfl) ?_
  intro p e s m args below meth c Q ls C hK hP ret hl
  have C : CT p s m args meth c cX8_readAs RX8 3 := C
  have hl : lv_has ls 3 [(0, .ref v), (1, nV x)] := hl
  refine r_iconst 0 C dX8_readAs_0 rfl ?_
  refine lv_istore_n (lv' := [(2, nV 0), (0, .ref v), (1, nV x)]) C.1 C.2.1 dX8_readAs_1 rfl hl (by decide) rfl (fun ls hl => ?_)
  have L2 : ∀ (n_2 : Nat) (i : Nat) (ls : Array Slot) (hi : i ≤ k) (hno : ∀ j, j < i → sg j ≠ x) (hm : k - i < n_2) (hl : lv_has ls 3 [(2, nV i), (0, .ref v), (1, nV x)]), W p l e (rD 3) s m args below meth c s.heap [] 0 0 Q (F0 m 2 ls []) := by
    intro n_2
    induction n_2 with
    | zero => intro i ls hi hno hm hl; exact absurd hm (Nat.not_lt_zero _)
    | succ n_2 ih_2 =>
      intro i ls hi hno hm hl
      refine lv_iload_n C.1 C.2.1 dX8_readAs_2 rfl (lv_at hl 0 rfl) ?_
      refine lv_aload_n C.1 C.2.1 dX8_readAs_3 rfl (lv_at hl 1 rfl) ?_
      refine r_get C hK hP kw_X8 (ci := 6) rfl 0 5 (by decide) kf_X8_34 rfl rfl dX8_readAs_4 ?_
      refine r_cge 27 C dX8_readAs_7 rfl ⟨rgN (by omega), rgN (by omega)⟩ (fun h_1 => ?_) (fun h_1 => ?_)
      · skip
        refine r_bipushZ C dX8_readAs_27 (by decide) ?_
        exact ret dX8_readAs_29 (iI_cast (rd_no (fun j hj => hno j (by omega))).symm)
      refine lv_aload_n C.1 C.2.1 dX8_readAs_10 rfl (lv_at hl 1 rfl) ?_
      refine lv_iload_n C.1 C.2.1 dX8_readAs_11 rfl (lv_at hl 0 rfl) ?_
      refine ro_callV (As := [nV i]) (rest := []) C hK (c_X8_signOf l g v v0 v1 v2 v3 v4 sg k nc nb bi mo i (by first | assumption | omega)) hP (ci := 6) (q0 := 0) rfl rfl kc_X8_signOf kl_X8_61 kn_X8 ki_X8_signOf ke_X8_signOf nk_X8_signOf (rm_lt (by decide) (by decide)) hl rfl (Nat.le_of_ble_eq_true rfl) dX8_readAs_12 (fun r_2 hr_3 => ?_)
      subst hr_3
      have hf_4 := hsg (i)
      refine lv_iload_n C.1 C.2.1 dX8_readAs_15 rfl (lv_at hl 2 rfl) ?_
      refine r_cne 21 C dX8_readAs_16 rfl ⟨rgN (by omega), rgN (by omega)⟩ (fun h_5 => ?_) (fun h_5 => ?_)
      · skip
        refine r_incN (k := 0) (n := 1) [(2, nV (i + 1)), (0, .ref v), (1, nV x)] C dX8_readAs_21 hl rfl rfl (by decide) rfl (fun ls hl => ?_)
        refine r_goto 2 C dX8_readAs_24 rfl ?_
        exact ih_2 (i + 1) _ (by first | assumption | omega) (fun j hj => by by_cases q : j = i; (subst q; omega); exact hno j (by omega)) (by omega) (lv_sub hl [0, 1, 2] rfl)
      refine lv_iload_n C.1 C.2.1 dX8_readAs_19 rfl (lv_at hl 0 rfl) ?_
      exact ret dX8_readAs_20 (iI_cast (rd_of (by omega) (by omega) hno).symm)
  exact L2 (k - 0 + 1) 0 _ (by first | assumption | omega) (fun j hj => by omega) (Nat.lt_succ_self _) (lv_sub hl [0, 1, 2] rfl)
set_option maxHeartbeats 4000000 in
set_option maxRecDepth 100000 in
theorem c_X8_aged (l : Launch) (g : GG) (v : Nat) (v0 : Nat) (v1 : Nat) (v2 : Nat) (v3 : Nat) (v4 : Nat) (k : Nat) (nc : Nat) (nb : Nat) (bi : Nat) (mo : Nat) (x : Nat) (y : Nat) (hbm : (1 ≤ bi ∧ bi ≤ 9) ∧ (1 ≤ mo ∧ mo ≤ 9)) (hx : x < 72) (hy : y < 1073741824) : ROi g l yX8_aged cX8_aged 5 (some .int) 2 [(v, .inr (6, [.ref v0, .ref v1, .ref v2, .ref v3, .ref v4, nV k, nV nc, nV nb, nV bi, nV mo]))] [.ref v, nV x, nV y] (fun r => r = iI ((ag bi mo x y : Nat) : Int)) := by
  refine ro_startI (by decide +kernel) (Nat.le_of_ble_eq_true rfl) ?_
  intro p e s m args below meth c Q ls C hK hP ret hl
  have C : CT p s m args meth c cX8_aged RX8 5 := C
  have hl : lv_has ls 5 [(0, .ref v), (1, nV x), (2, nV y)] := hl
  refine lv_aload_n C.1 C.2.1 dX8_aged_0 rfl (lv_at hl 0 rfl) ?_
  refine r_get C hK hP kw_X8 (ci := 6) rfl 0 8 (by decide) kf_X8_27 rfl rfl dX8_aged_1 ?_
  refine r_ile 21 C dX8_aged_4 rfl (rgN (by omega)) (fun h_1 => ?_) (fun h_1 => ?_)
  · exact absurd h_1 (by omega)
  refine lv_iload_n C.1 C.2.1 dX8_aged_7 rfl (lv_at hl 1 rfl) ?_
  refine ro_callS (As := [nV x]) (rest := []) C hK (c_X6_seeds l g x (by first | assumption | omega)) (hP.sub (ws' := []) [] rfl) kc_X6_seeds kl_X8_64 kn_X6 ks_X6_seeds nk_X6_seeds (rm_lt (by decide) (by decide)) hl rfl (Nat.le_of_ble_eq_true rfl) dX8_aged_8 (fun r_2 hr_3 => ?_)
  subst hr_3
  refine lv_iload_n C.1 C.2.1 dX8_aged_11 rfl (lv_at hl 2 rfl) ?_
  refine lv_aload_n C.1 C.2.1 dX8_aged_12 rfl (lv_at hl 0 rfl) ?_
  refine r_get C hK hP kw_X8 (ci := 6) rfl 0 8 (by decide) kf_X8_27 rfl rfl dX8_aged_13 ?_
  refine r_divN C dX8_aged_16 (by omega) (by omega) ?_
  have hq_4 := Nat.div_le_self y bi
  refine r_nameN (fun q1 hq1 => ?_)
  refine r_subZ C dX8_aged_17 ?_
  refine r_goto 22 C dX8_aged_18 rfl ?_
  refine lv_istore_n (lv' := [(3, zV (((x % 6 : Nat) : Int) - ((q1 : Nat) : Int))), (0, .ref v), (1, nV x), (2, nV y)]) C.1 C.2.1 dX8_aged_22 rfl hl (by decide) rfl (fun ls hl => ?_)
  refine lv_aload_n C.1 C.2.1 dX8_aged_23 rfl (lv_at hl 1 rfl) ?_
  refine r_get C hK hP kw_X8 (ci := 6) rfl 0 9 (by decide) kf_X8_31 rfl rfl dX8_aged_24 ?_
  refine r_ile 44 C dX8_aged_27 rfl (rgN (by omega)) (fun h_5 => ?_) (fun h_5 => ?_)
  · exact absurd h_5 (by omega)
  refine lv_iload_n C.1 C.2.1 dX8_aged_30 rfl (lv_at hl 2 rfl) ?_
  refine ro_callS (As := [nV x]) (rest := []) C hK (c_X6_cuts l g x (by first | assumption | omega)) (hP.sub (ws' := []) [] rfl) kc_X6_cuts kl_X8_67 kn_X6 ks_X6_cuts nk_X6_cuts (rm_lt (by decide) (by decide)) hl rfl (Nat.le_of_ble_eq_true rfl) dX8_aged_31 (fun r_6 hr_7 => ?_)
  subst hr_7
  refine lv_iload_n C.1 C.2.1 dX8_aged_34 rfl (lv_at hl 3 rfl) ?_
  refine lv_aload_n C.1 C.2.1 dX8_aged_35 rfl (lv_at hl 1 rfl) ?_
  refine r_get C hK hP kw_X8 (ci := 6) rfl 0 9 (by decide) kf_X8_31 rfl rfl dX8_aged_36 ?_
  refine r_divN C dX8_aged_39 (by omega) (by omega) ?_
  have hq_8 := Nat.div_le_self y mo
  refine r_nameN (fun q2 hq2 => ?_)
  refine r_addN C dX8_aged_40 ?_
  refine r_goto 45 C dX8_aged_41 rfl ?_
  refine lv_istore (lv' := [(4, nV ((x / 6 % 4) + q2)), (3, zV (((x % 6 : Nat) : Int) - ((q1 : Nat) : Int))), (0, .ref v), (1, nV x), (2, nV y)]) C.1 C.2.1 dX8_aged_45 hl (by decide) rfl (fun ls hl => ?_)
  refine lv_iload_n C.1 C.2.1 dX8_aged_47 rfl (lv_at hl 1 rfl) ?_
  refine r_iconst 0 C dX8_aged_48 rfl ?_
  refine r_mmax C kl_X8_70 dX8_aged_49 ⟨⟨by omega, by omega⟩, rgN (by decide)⟩ ⟨Nat.le_of_ble_eq_true rfl, Nat.le_of_ble_eq_true rfl⟩ ⟨Nat.zero_le _, Nat.zero_le _⟩ hl ?_
  refine r_topN (x % 6 - q1) (by omega) ?_
  refine lv_iload C.1 C.2.1 dX8_aged_52 (lv_at hl 0 rfl) ?_
  refine r_iconst 3 C dX8_aged_54 rfl ?_
  refine r_mmin C kl_X8_76 dX8_aged_55 ⟨rgN (by omega), rgN (by decide)⟩ ⟨Nat.le_of_ble_eq_true rfl, Nat.le_of_ble_eq_true rfl⟩ ⟨Nat.zero_le _, Nat.zero_le _⟩ hl ?_
  refine r_topN (min (x / 6 % 4 + q2) 3) (by omega) ?_
  refine lv_iload_n C.1 C.2.1 dX8_aged_58 rfl (lv_at hl 3 rfl) ?_
  refine ro_callS (As := [nV x]) (rest := [nV (min (x / 6 % 4 + q2) 3), nV (x % 6 - q1)]) C hK (c_X6_filling l g x (by first | assumption | omega)) (hP.sub (ws' := []) [] rfl) kc_X6_filling kl_X8_79 kn_X6 ks_X6_filling nk_X6_filling (rm_lt (by decide) (by decide)) hl rfl (Nat.le_of_ble_eq_true rfl) dX8_aged_59 (fun r_9 hr_10 => ?_)
  subst hr_10
  refine ro_callS (As := [nV (x % 6 - q1), nV (min (x / 6 % 4 + q2) 3), nV (x / 24)]) (rest := []) C hK (c_X6_of l g (x % 6 - q1) (min (x / 6 % 4 + q2) 3) (x / 24)) (hP.sub (ws' := []) [] rfl) kc_X6_of kl_X8_47 kn_X6 ks_X6_of nk_X6_of (rm_lt (by decide) (by decide)) hl rfl (Nat.le_of_ble_eq_true rfl) dX8_aged_62 (fun r_11 hr_12 => ?_)
  subst hr_12
  exact ret dX8_aged_65 (by subst hq1 hq2; rfl)
set_option maxHeartbeats 4000000 in
set_option maxRecDepth 100000 in
theorem c_X8_turned (l : Launch) (g : GG) (v : Nat) (v0 : Nat) (v1 : Nat) (v2 : Nat) (v3 : Nat) (v4 : Nat) (k : Nat) (nc : Nat) (nb : Nat) (bi : Nat) (mo : Nat) (x : Nat) (y : Nat) (w : Nat) (hbm : (1 ≤ bi ∧ bi ≤ 9) ∧ (1 ≤ mo ∧ mo ≤ 9)) (hx : x < 72) (hy : y < 1073741824) (hw : w < 1073741824) : ROi g l yX8_turned cX8_turned 6 (some .int) 3 [(v, .inr (6, [.ref v0, .ref v1, .ref v2, .ref v3, .ref v4, nV k, nV nc, nV nb, nV bi, nV mo]))] [.ref v, nV x, nV y, nV w] (fun r => r = iI ((tn bi mo x y w : Nat) : Int)) := by
  refine ro_startI (by decide +kernel) (Nat.le_of_ble_eq_true rfl) ?_
  intro p e s m args below meth c Q ls C hK hP ret hl
  have C : CT p s m args meth c cX8_turned RX8 6 := C
  have hl : lv_has ls 6 [(0, .ref v), (1, nV x), (2, nV y), (3, nV w)] := hl
  refine lv_aload_n C.1 C.2.1 dX8_turned_0 rfl (lv_at hl 0 rfl) ?_
  refine lv_iload_n C.1 C.2.1 dX8_turned_1 rfl (lv_at hl 1 rfl) ?_
  refine lv_iload_n C.1 C.2.1 dX8_turned_2 rfl (lv_at hl 2 rfl) ?_
  refine ro_callV (As := [nV x, nV y]) (rest := []) C hK (c_X8_aged l g v v0 v1 v2 v3 v4 k nc nb bi mo x y (by first | assumption | omega) (by first | assumption | omega) (by first | assumption | omega)) hP (ci := 6) (q0 := 0) rfl rfl kc_X8_aged kl_X8_82 kn_X8 ki_X8_aged ke_X8_aged nk_X8_aged (rm_lt (by decide) (by decide)) hl rfl (Nat.le_of_ble_eq_true rfl) dX8_turned_3 (fun r_1 hr_2 => ?_)
  subst hr_2
  have hf_3 := ag_bd (bi) (mo) (x) (y) (by omega)
  refine lv_istore (lv' := [(4, nV (ag bi mo x y)), (0, .ref v), (1, nV x), (2, nV y), (3, nV w)]) C.1 C.2.1 dX8_turned_6 hl (by decide) rfl (fun ls hl => ?_)
  refine r_iconst 0 C dX8_turned_8 rfl ?_
  refine lv_istore (lv' := [(5, nV 0), (4, nV (ag bi mo x y)), (0, .ref v), (1, nV x), (2, nV y), (3, nV w)]) C.1 C.2.1 dX8_turned_9 hl (by decide) rfl (fun ls hl => ?_)
  have L11 : ∀ (n_11 : Nat) (i : Nat) (t : Nat) (ls : Array Slot) (hi : i ≤ w) (ht : t = bts (ag bi mo x y) i) (htb : t < 72) (hm : w - i < n_11) (hl : lv_has ls 6 [(5, nV i), (4, nV t), (0, .ref v), (1, nV x), (2, nV y), (3, nV w)]), W p l e (rD 3) s m args below meth c s.heap [] 0 0 Q (F0 m 11 ls []) := by
    intro n_11
    induction n_11 with
    | zero => intro i t ls hi ht htb hm hl; exact absurd hm (Nat.not_lt_zero _)
    | succ n_11 ih_11 =>
      intro i t ls hi ht htb hm hl
      refine lv_iload C.1 C.2.1 dX8_turned_11 (lv_at hl 0 rfl) ?_
      refine lv_iload_n C.1 C.2.1 dX8_turned_13 rfl (lv_at hl 5 rfl) ?_
      refine r_cge 30 C dX8_turned_14 rfl ⟨rgN (by omega), rgN (by omega)⟩ (fun h_4 => ?_) (fun h_4 => ?_)
      · skip
        refine lv_iload C.1 C.2.1 dX8_turned_30 (lv_at hl 1 rfl) ?_
        exact ret dX8_turned_32 (iI_cast (by rw [ht, show i = w by omega]; rfl))
      refine lv_iload C.1 C.2.1 dX8_turned_17 (lv_at hl 1 rfl) ?_
      refine ro_callS (As := [nV t]) (rest := []) C hK (c_X6_bitten l g t (by first | assumption | omega)) (hP.sub (ws' := []) [] rfl) kc_X6_bitten kl_X8_85 kn_X6 ks_X6_bitten nk_X6_bitten (rm_lt (by decide) (by decide)) hl rfl (Nat.le_of_ble_eq_true rfl) dX8_turned_19 (fun r_5 hr_6 => ?_)
      subst hr_6
      have hf_7 := bt_bd (t) (by omega)
      refine lv_istore (lv' := [(4, nV (bt t)), (5, nV i), (0, .ref v), (1, nV x), (2, nV y), (3, nV w)]) C.1 C.2.1 dX8_turned_22 hl (by decide) rfl (fun ls hl => ?_)
      refine r_incN (k := 1) (n := 1) [(5, nV (i + 1)), (4, nV (bt t)), (0, .ref v), (1, nV x), (2, nV y), (3, nV w)] C dX8_turned_24 hl rfl rfl (by decide) rfl (fun ls hl => ?_)
      refine r_goto 11 C dX8_turned_27 rfl ?_
      exact ih_11 (i + 1) (bt t) _ (by first | assumption | omega) (by rw [ht]; rfl) (by first | assumption | omega) (by omega) (lv_sub hl [0, 1, 2, 3, 4, 5] rfl)
  exact L11 (w - 0 + 1) 0 (ag bi mo x y) _ (by first | assumption | omega) (rfl) (by first | assumption | omega) (Nat.lt_succ_self _) (lv_sub hl [0, 1, 2, 3, 4, 5] rfl)
set_option maxHeartbeats 4000000 in
set_option maxRecDepth 100000 in
theorem c_X8_waysRead (l : Launch) (g : GG) (v : Nat) (v0 : Nat) (v1 : Nat) (v2 : Nat) (v3 : Nat) (v4 : Nat) (sg : Nat → Nat) (hu : Nat → Nat) (mi : Nat → Nat) (k : Nat) (nc : Nat) (nb : Nat) (bi : Nat) (mo : Nat) (x : Nat) (y : Nat) (w : Nat) (hbm : (1 ≤ bi ∧ bi ≤ 9) ∧ (1 ≤ mo ∧ mo ≤ 9)) (hsg : ∀ j, sg j < 72) (hhu : ∀ j, hu j < 10) (hmi : ∀ j, mi j ≤ 6) (hx : x < 8) (hy : y < 5) (hw : w < 1073741824) : ROl g l yX8_waysRead cX8_waysRead 9 (some .long) 4 [(v, .inr (6, [.ref v0, .ref v1, .ref v2, .ref v3, .ref v4, nV k, nV nc, nV nb, nV bi, nV mo])), (v0, cN g 8 sg), (v2, cN g 5 hu), (v3, cN g 5 mi)] [.ref v, nV x, nV y, nV w] (fun r => r = lI ((wy bi mo (sg x) w (hu y) (mi y) (mi y + 1) : Nat) : Int)) := by
  refine ro_startL (by decide +kernel) (Nat.le_of_ble_eq_true rfl) ?_
  intro p e s m args below meth c Q ls C hK hP ret hl
  have C : CT p s m args meth c cX8_waysRead RX8 9 := C
  have hl : lv_has ls 9 [(0, .ref v), (1, nV x), (2, nV y), (3, nV w)] := hl
  refine lv_aload_n C.1 C.2.1 dX8_waysRead_0 rfl (lv_at hl 0 rfl) ?_
  refine lv_iload_n C.1 C.2.1 dX8_waysRead_1 rfl (lv_at hl 2 rfl) ?_
  refine ro_callV (As := [nV y]) (rest := []) C hK (c_X8_milesOf l g v v0 v1 v2 v3 v4 mi k nc nb bi mo y (by first | assumption | omega)) (hP.sub (ws' := [(v, .inr (6, [.ref v0, .ref v1, .ref v2, .ref v3, .ref v4, nV k, nV nc, nV nb, nV bi, nV mo])), (v3, cN g 5 mi)]) [0, 3] rfl) (ci := 6) (q0 := 0) rfl rfl kc_X8_milesOf kl_X8_88 kn_X8 ki_X8_milesOf ke_X8_milesOf nk_X8_milesOf (rm_lt (by decide) (by decide)) hl rfl (Nat.le_of_ble_eq_true rfl) dX8_waysRead_2 (fun r_1 hr_2 => ?_)
  subst hr_2
  have hf_3 := hmi (y)
  refine r_nameN (fun L1 hL1 => ?_)
  refine lv_istore (lv' := [(4, nV L1), (0, .ref v), (1, nV x), (2, nV y), (3, nV w)]) C.1 C.2.1 dX8_waysRead_5 hl (by decide) rfl (fun ls hl => ?_)
  refine lv_aload_n C.1 C.2.1 dX8_waysRead_7 rfl (lv_at hl 1 rfl) ?_
  refine r_get C hK hP kw_X8 (ci := 6) rfl 0 2 (by decide) kf_X8_18 rfl rfl dX8_waysRead_8 ?_
  refine lv_iload_n C.1 C.2.1 dX8_waysRead_11 rfl (lv_at hl 3 rfl) ?_
  refine ro_callSN (As := [.ref v2, nV y]) (rest := []) C hK (c_X9_at l g v2 5 hu y (by first | assumption | omega) (by first | assumption | omega)) (hP.sub (ws' := [(v2, cN g 5 hu)]) [2] rfl) kc_X9_at kx_X8_57 kn_X9 ks_X9_at nk_X9_at (rm_lt (by decide) (by decide)) hl rfl (Nat.le_of_ble_eq_true rfl) dX8_waysRead_12 (fun r_4 hr_5 => ?_)
  subst hr_5
  have hq0 := hhu y
  refine r_nameN (fun q1 hq1 => ?_)
  refine lv_istore (lv' := [(5, nV q1), (4, nV L1), (0, .ref v), (1, nV x), (2, nV y), (3, nV w)]) C.1 C.2.1 dX8_waysRead_15 hl (by decide) rfl (fun ls hl => ?_)
  refine r_lconst 0 C dX8_waysRead_17 rfl ?_
  refine lv_lstore (lv' := [(6, mV 0), (5, nV q1), (4, nV L1), (0, .ref v), (1, nV x), (2, nV y), (3, nV w)]) C.1 C.2.1 dX8_waysRead_18 hl (by decide) rfl (fun ls hl => ?_)
  refine r_iconst 0 C dX8_waysRead_20 rfl ?_
  refine lv_istore (lv' := [(8, nV 0), (6, mV 0), (5, nV q1), (4, nV L1), (0, .ref v), (1, nV x), (2, nV y), (3, nV w)]) C.1 C.2.1 dX8_waysRead_21 hl (by decide) rfl (fun ls hl => ?_)
  have L23 : ∀ (n_23 : Nat) (i : Nat) (t : Nat) (ls : Array Slot) (hi : i ≤ L1 + 1) (ht : t = wy bi mo (sg x) w q1 L1 i) (hm : L1 + 1 - i < n_23) (hl : lv_has ls 9 [(8, nV i), (6, mV t), (5, nV q1), (4, nV L1), (0, .ref v), (1, nV x), (2, nV y), (3, nV w)]), W p l e (rD 4) s m args below meth c s.heap [] 0 0 Q (F0 m 23 ls []) := by
    intro n_23
    induction n_23 with
    | zero => intro i t ls hi ht hm hl; exact absurd hm (Nat.not_lt_zero _)
    | succ n_23 ih_23 =>
      intro i t ls hi ht hm hl
      refine lv_iload C.1 C.2.1 dX8_waysRead_23 (lv_at hl 0 rfl) ?_
      refine lv_iload C.1 C.2.1 dX8_waysRead_25 (lv_at hl 3 rfl) ?_
      refine r_cgt 92 C dX8_waysRead_27 rfl ⟨rgN (by omega), rgN (by omega)⟩ (fun h_6 => ?_) (fun h_6 => ?_)
      · skip
        refine lv_lload C.1 C.2.1 dX8_waysRead_92 (lv_at hl 1 rfl) ?_
        exact ret dX8_waysRead_94 (by rw [ht, show i = L1 + 1 by omega, hL1, hq1])
      refine lv_aload_n C.1 C.2.1 dX8_waysRead_30 rfl (lv_at hl 4 rfl) ?_
      refine lv_aload_n C.1 C.2.1 dX8_waysRead_31 rfl (lv_at hl 4 rfl) ?_
      refine lv_iload_n C.1 C.2.1 dX8_waysRead_32 rfl (lv_at hl 5 rfl) ?_
      refine ro_callV (As := [nV x]) (rest := [.ref v]) C hK (c_X8_signOf l g v v0 v1 v2 v3 v4 sg k nc nb bi mo x (by first | assumption | omega)) (hP.sub (ws' := [(v, .inr (6, [.ref v0, .ref v1, .ref v2, .ref v3, .ref v4, nV k, nV nc, nV nb, nV bi, nV mo])), (v0, cN g 8 sg)]) [0, 1] rfl) (ci := 6) (q0 := 0) rfl rfl kc_X8_signOf kl_X8_61 kn_X8 ki_X8_signOf ke_X8_signOf nk_X8_signOf (rm_lt (by decide) (by decide)) hl rfl (Nat.le_of_ble_eq_true rfl) dX8_waysRead_33 (fun r_7 hr_8 => ?_)
      subst hr_8
      have hf_9 := hsg (x)
      refine lv_iload_n C.1 C.2.1 dX8_waysRead_36 rfl (lv_at hl 7 rfl) ?_
      refine lv_iload C.1 C.2.1 dX8_waysRead_37 (lv_at hl 0 rfl) ?_
      refine ro_callV (As := [nV (sg x), nV w, nV i]) (rest := []) C hK (c_X8_turned l g v v0 v1 v2 v3 v4 k nc nb bi mo (sg x) w i (by first | assumption | omega) (by first | assumption | omega) (by first | assumption | omega) (by first | assumption | omega)) (hP.sub (ws' := [(v, .inr (6, [.ref v0, .ref v1, .ref v2, .ref v3, .ref v4, nV k, nV nc, nV nb, nV bi, nV mo]))]) [0] rfl) (ci := 6) (q0 := 0) rfl rfl kc_X8_turned kl_X8_91 kn_X8 ki_X8_turned ke_X8_turned nk_X8_turned (rm_lt (by decide) (by decide)) hl rfl (Nat.le_of_ble_eq_true rfl) dX8_waysRead_39 (fun r_10 hr_11 => ?_)
      subst hr_11
      have hf_12 := tn_bd (bi) (mo) ((sg x)) (w) (i) (by omega)
      refine lv_aload_n C.1 C.2.1 dX8_waysRead_42 rfl (lv_at hl 4 rfl) ?_
      refine lv_iload_n C.1 C.2.1 dX8_waysRead_43 rfl (lv_at hl 5 rfl) ?_
      refine ro_callV (As := [nV x]) (rest := [nV (tn bi mo (sg x) w i)]) C hK (c_X8_signOf l g v v0 v1 v2 v3 v4 sg k nc nb bi mo x (by first | assumption | omega)) (hP.sub (ws' := [(v, .inr (6, [.ref v0, .ref v1, .ref v2, .ref v3, .ref v4, nV k, nV nc, nV nb, nV bi, nV mo])), (v0, cN g 8 sg)]) [0, 1] rfl) (ci := 6) (q0 := 0) rfl rfl kc_X8_signOf kl_X8_61 kn_X8 ki_X8_signOf ke_X8_signOf nk_X8_signOf (rm_lt (by decide) (by decide)) hl rfl (Nat.le_of_ble_eq_true rfl) dX8_waysRead_44 (fun r_13 hr_14 => ?_)
      subst hr_14
      have hf_15 := hsg (x)
      refine r_cne 86 C dX8_waysRead_47 rfl ⟨rgN (by omega), rgN (by omega)⟩ (fun h_16 => ?_) (fun h_16 => ?_)
      · skip
        refine r_incN (k := 0) (n := 1) [(8, nV (i + 1)), (6, mV t), (5, nV q1), (4, nV L1), (0, .ref v), (1, nV x), (2, nV y), (3, nV w)] C dX8_waysRead_86 hl rfl rfl (by decide) rfl (fun ls hl => ?_)
        refine r_goto 23 C dX8_waysRead_89 rfl ?_
        exact ih_23 (i + 1) t _ (by first | assumption | omega) (by rw [ht]; show _ = wy bi mo (sg x) w q1 L1 i + _; first | (rw [if_pos (by omega)]; done) | rw [if_neg (by omega), Nat.add_zero]) (by omega) (lv_sub hl [0, 1, 2, 3, 4, 5, 6, 7] rfl)
      refine lv_lload C.1 C.2.1 dX8_waysRead_50 (lv_at hl 1 rfl) ?_
      refine lv_iload C.1 C.2.1 dX8_waysRead_52 (lv_at hl 3 rfl) ?_
      refine lv_iload C.1 C.2.1 dX8_waysRead_54 (lv_at hl 0 rfl) ?_
      refine ro_callSL (As := [nV L1, nV i]) (rest := [mV t]) C hK (c_X2_choose l g L1 i (by first | assumption | omega) (by first | assumption | omega)) (hP.sub (ws' := []) [] rfl) kc_X2_choose kl_X8_94 kn_X2 ks_X2_choose nk_X2_choose (rm_lt (by decide) (by decide)) hl rfl (Nat.le_of_ble_eq_true rfl) dX8_waysRead_56 (fun r_17 hr_18 => ?_)
      subst hr_18
      refine lv_iload C.1 C.2.1 dX8_waysRead_59 (lv_at hl 2 rfl) ?_
      refine r_i2l C dX8_waysRead_61 (rgN (by omega)) ?_
      refine lv_iload C.1 C.2.1 dX8_waysRead_62 (lv_at hl 0 rfl) ?_
      refine ro_callSL (As := [mV q1, nV i]) (rest := [mV (ch L1 i), mV t]) C hK (c_X2_power l g q1 i (by first | assumption | omega)) (hP.sub (ws' := []) [] rfl) kc_X2_power kl_X8_100 kn_X2 ks_X2_power nk_X2_power (rm_lt (by decide) (by decide)) hl rfl (Nat.le_of_ble_eq_true rfl) dX8_waysRead_64 (fun r_19 hr_20 => ?_)
      subst hr_20
      refine r_lmulN C dX8_waysRead_67 ?_
      refine r_bipush 10 C dX8_waysRead_68 (by decide) ?_
      refine lv_iload C.1 C.2.1 dX8_waysRead_70 (lv_at hl 2 rfl) ?_
      refine r_subN C dX8_waysRead_72 (by omega) ?_
      refine r_i2l C dX8_waysRead_73 (rgN (by omega)) ?_
      refine lv_iload C.1 C.2.1 dX8_waysRead_74 (lv_at hl 3 rfl) ?_
      refine lv_iload C.1 C.2.1 dX8_waysRead_76 (lv_at hl 0 rfl) ?_
      refine r_subN C dX8_waysRead_78 (by omega) ?_
      refine ro_callSL (As := [mV (10 - q1), nV (L1 - i)]) (rest := [mV ((ch L1 i) * (q1 ^ i)), mV t]) C hK (c_X2_power l g (10 - q1) (L1 - i) (by first | assumption | omega)) (hP.sub (ws' := []) [] rfl) kc_X2_power kl_X8_100 kn_X2 ks_X2_power nk_X2_power (rm_lt (by decide) (by decide)) hl rfl (Nat.le_of_ble_eq_true rfl) dX8_waysRead_79 (fun r_21 hr_22 => ?_)
      subst hr_22
      refine r_lmulN C dX8_waysRead_82 ?_
      refine r_laddN C dX8_waysRead_83 ?_
      refine lv_lstore (lv' := [(6, mV (t + (((ch L1 i) * (q1 ^ i)) * ((10 - q1) ^ (L1 - i))))), (8, nV i), (5, nV q1), (4, nV L1), (0, .ref v), (1, nV x), (2, nV y), (3, nV w)]) C.1 C.2.1 dX8_waysRead_84 hl (by decide) rfl (fun ls hl => ?_)
      refine r_incN (k := 1) (n := 1) [(8, nV (i + 1)), (6, mV (t + (((ch L1 i) * (q1 ^ i)) * ((10 - q1) ^ (L1 - i))))), (5, nV q1), (4, nV L1), (0, .ref v), (1, nV x), (2, nV y), (3, nV w)] C dX8_waysRead_86 hl rfl rfl (by decide) rfl (fun ls hl => ?_)
      refine r_goto 23 C dX8_waysRead_89 rfl ?_
      exact ih_23 (i + 1) (t + (((ch L1 i) * (q1 ^ i)) * ((10 - q1) ^ (L1 - i)))) _ (by first | assumption | omega) (by rw [ht]; show _ = wy bi mo (sg x) w q1 L1 i + _; first | (rw [if_pos (by omega)]; done) | rw [if_neg (by omega), Nat.add_zero]) (by omega) (lv_sub hl [0, 1, 2, 3, 4, 5, 6, 7] rfl)
  exact L23 (L1 + 1 - 0 + 1) 0 0 _ (by first | assumption | omega) (rfl) (Nat.lt_succ_self _) (lv_sub hl [0, 1, 2, 3, 4, 5, 6, 7] rfl)
set_option maxHeartbeats 4000000 in
set_option maxRecDepth 100000 in
theorem c_X8_worthOfSet (l : Launch) (g : GG) (v : Nat) (v0 : Nat) (v1 : Nat) (v2 : Nat) (v3 : Nat) (v4 : Nat) (wo : Nat → Nat) (k : Nat) (nc : Nat) (nb : Nat) (bi : Nat) (mo : Nat) (x : Int32) (hk : k ≤ 8) : ROi g l yX8_worthOfSet cX8_worthOfSet 4 (some .int) 3 [(v, .inr (6, [.ref v0, .ref v1, .ref v2, .ref v3, .ref v4, nV k, nV nc, nV nb, nV bi, nV mo])), (v1, cN g 8 wo)] [.ref v, .int x] (fun r => r = wsum wo x k) := by
  refine ro_startI (by decide +kernel) (Nat.le_of_ble_eq_true rfl) ?_
  intro p e s m args below meth c Q ls C hK hP ret hl
  have C : CT p s m args meth c cX8_worthOfSet RX8 4 := C
  have hl : lv_has ls 4 [(0, .ref v), (1, .int x)] := hl
  refine r_iconst 0 C dX8_worthOfSet_0 rfl ?_
  refine lv_istore_n (lv' := [(2, nV 0), (0, .ref v), (1, .int x)]) C.1 C.2.1 dX8_worthOfSet_1 rfl hl (by decide) rfl (fun ls hl => ?_)
  refine r_iconst 0 C dX8_worthOfSet_2 rfl ?_
  refine lv_istore_n (lv' := [(3, nV 0), (2, nV 0), (0, .ref v), (1, .int x)]) C.1 C.2.1 dX8_worthOfSet_3 rfl hl (by decide) rfl (fun ls hl => ?_)
  have L4 : ∀ (n_4 : Nat) (i : Nat) (t : Int32) (ls : Array Slot) (hi : i ≤ k) (ht : t = wsum wo x i) (hm : k - i < n_4) (hl : lv_has ls 4 [(3, nV i), (2, .int t), (0, .ref v), (1, .int x)]), W p l e (rD 3) s m args below meth c s.heap [] 0 0 Q (F0 m 4 ls []) := by
    intro n_4
    induction n_4 with
    | zero => intro i t ls hi ht hm hl; exact absurd hm (Nat.not_lt_zero _)
    | succ n_4 ih_4 =>
      intro i t ls hi ht hm hl
      refine lv_iload_n C.1 C.2.1 dX8_worthOfSet_4 rfl (lv_at hl 0 rfl) ?_
      refine lv_aload_n C.1 C.2.1 dX8_worthOfSet_5 rfl (lv_at hl 2 rfl) ?_
      refine r_get C hK hP kw_X8 (ci := 6) rfl 0 5 (by decide) kf_X8_34 rfl rfl dX8_worthOfSet_6 ?_
      refine r_cge 32 C dX8_worthOfSet_9 rfl ⟨rgN (by omega), rgN (by omega)⟩ (fun h_1 => ?_) (fun h_1 => ?_)
      · skip
        refine lv_iload_n C.1 C.2.1 dX8_worthOfSet_32 rfl (lv_at hl 1 rfl) ?_
        exact ret dX8_worthOfSet_33 (by rw [ht, show i = k by omega])
      refine lv_iload_n C.1 C.2.1 dX8_worthOfSet_12 rfl (lv_at hl 1 rfl) ?_
      refine lv_iload_n C.1 C.2.1 dX8_worthOfSet_13 rfl (lv_at hl 3 rfl) ?_
      refine lv_iload_n C.1 C.2.1 dX8_worthOfSet_14 rfl (lv_at hl 0 rfl) ?_
      refine lv_ishr C.1 C.2.1 dX8_worthOfSet_15 ?_
      refine r_iconst 1 C dX8_worthOfSet_16 rfl ?_
      refine lv_iand C.1 C.2.1 dX8_worthOfSet_17 ?_
      refine lv_aload_n C.1 C.2.1 dX8_worthOfSet_18 rfl (lv_at hl 2 rfl) ?_
      refine lv_iload_n C.1 C.2.1 dX8_worthOfSet_19 rfl (lv_at hl 0 rfl) ?_
      refine ro_callV (As := [nV i]) (rest := [.int ((x >>> ((iI ((i : Nat) : Int)) &&& 31)) &&& (iI ((1 : Nat) : Int))), .int t]) C hK (c_X8_worthOf l g v v0 v1 v2 v3 v4 wo k nc nb bi mo i (by first | assumption | omega)) hP (ci := 6) (q0 := 0) rfl rfl kc_X8_worthOf kl_X8_104 kn_X8 ki_X8_worthOf ke_X8_worthOf nk_X8_worthOf (rm_lt (by decide) (by decide)) hl rfl (Nat.le_of_ble_eq_true rfl) dX8_worthOfSet_20 (fun r_2 hr_3 => ?_)
      subst hr_3
      refine lv_imul C.1 C.2.1 dX8_worthOfSet_23 ?_
      refine lv_iadd C.1 C.2.1 dX8_worthOfSet_24 ?_
      refine lv_istore_n (lv' := [(2, .int (t + (((x >>> ((iI ((i : Nat) : Int)) &&& 31)) &&& (iI ((1 : Nat) : Int))) * (iI ((wo i : Nat) : Int))))), (3, nV i), (0, .ref v), (1, .int x)]) C.1 C.2.1 dX8_worthOfSet_25 rfl hl (by decide) rfl (fun ls hl => ?_)
      refine r_incN (k := 1) (n := 1) [(3, nV (i + 1)), (2, .int (t + (((x >>> ((iI ((i : Nat) : Int)) &&& 31)) &&& (iI ((1 : Nat) : Int))) * (iI ((wo i : Nat) : Int))))), (0, .ref v), (1, .int x)] C dX8_worthOfSet_26 hl rfl rfl (by decide) rfl (fun ls hl => ?_)
      refine r_goto 4 C dX8_worthOfSet_29 rfl ?_
      exact ih_4 (i + 1) (t + (((x >>> ((iI ((i : Nat) : Int)) &&& 31)) &&& (iI ((1 : Nat) : Int))) * (iI ((wo i : Nat) : Int)))) _ (by first | assumption | omega) (by rw [ht]; rfl) (by omega) (lv_sub hl [0, 1, 2, 3] rfl)
  exact L4 (k - 0 + 1) 0 (iI ((0 : Nat) : Int)) _ (by first | assumption | omega) (rfl) (Nat.lt_succ_self _) (lv_sub hl [0, 1, 2, 3] rfl)
set_option maxHeartbeats 4000000 in
set_option maxRecDepth 100000 in
theorem c_X8_flourOfSet (l : Launch) (g : GG) (v : Nat) (v0 : Nat) (v1 : Nat) (v2 : Nat) (v3 : Nat) (v4 : Nat) (sg : Nat → Nat) (k : Nat) (nc : Nat) (nb : Nat) (bi : Nat) (mo : Nat) (x : Int32) (hk : k ≤ 8) (hsg : ∀ j, sg j < 72) : ROi g l yX8_flourOfSet cX8_flourOfSet 4 (some .int) 3 [(v, .inr (6, [.ref v0, .ref v1, .ref v2, .ref v3, .ref v4, nV k, nV nc, nV nb, nV bi, nV mo])), (v0, cN g 8 sg)] [.ref v, .int x] (fun r => r = wsum (fun j => fl (sg j)) x k) := by
  refine ro_startI (by decide +kernel) (Nat.le_of_ble_eq_true rfl) ?_
  intro p e s m args below meth c Q ls C hK hP ret hl
  have C : CT p s m args meth c cX8_flourOfSet RX8 4 := C
  have hl : lv_has ls 4 [(0, .ref v), (1, .int x)] := hl
  refine r_iconst 0 C dX8_flourOfSet_0 rfl ?_
  refine lv_istore_n (lv' := [(2, nV 0), (0, .ref v), (1, .int x)]) C.1 C.2.1 dX8_flourOfSet_1 rfl hl (by decide) rfl (fun ls hl => ?_)
  refine r_iconst 0 C dX8_flourOfSet_2 rfl ?_
  refine lv_istore_n (lv' := [(3, nV 0), (2, nV 0), (0, .ref v), (1, .int x)]) C.1 C.2.1 dX8_flourOfSet_3 rfl hl (by decide) rfl (fun ls hl => ?_)
  have L4 : ∀ (n_4 : Nat) (i : Nat) (t : Int32) (ls : Array Slot) (hi : i ≤ k) (ht : t = wsum (fun j => fl (sg j)) x i) (hm : k - i < n_4) (hl : lv_has ls 4 [(3, nV i), (2, .int t), (0, .ref v), (1, .int x)]), W p l e (rD 3) s m args below meth c s.heap [] 0 0 Q (F0 m 4 ls []) := by
    intro n_4
    induction n_4 with
    | zero => intro i t ls hi ht hm hl; exact absurd hm (Nat.not_lt_zero _)
    | succ n_4 ih_4 =>
      intro i t ls hi ht hm hl
      refine lv_iload_n C.1 C.2.1 dX8_flourOfSet_4 rfl (lv_at hl 0 rfl) ?_
      refine lv_aload_n C.1 C.2.1 dX8_flourOfSet_5 rfl (lv_at hl 2 rfl) ?_
      refine r_get C hK hP kw_X8 (ci := 6) rfl 0 5 (by decide) kf_X8_34 rfl rfl dX8_flourOfSet_6 ?_
      refine r_cge 35 C dX8_flourOfSet_9 rfl ⟨rgN (by omega), rgN (by omega)⟩ (fun h_1 => ?_) (fun h_1 => ?_)
      · skip
        refine lv_iload_n C.1 C.2.1 dX8_flourOfSet_35 rfl (lv_at hl 1 rfl) ?_
        exact ret dX8_flourOfSet_36 (by rw [ht, show i = k by omega])
      refine lv_iload_n C.1 C.2.1 dX8_flourOfSet_12 rfl (lv_at hl 1 rfl) ?_
      refine lv_iload_n C.1 C.2.1 dX8_flourOfSet_13 rfl (lv_at hl 3 rfl) ?_
      refine lv_iload_n C.1 C.2.1 dX8_flourOfSet_14 rfl (lv_at hl 0 rfl) ?_
      refine lv_ishr C.1 C.2.1 dX8_flourOfSet_15 ?_
      refine r_iconst 1 C dX8_flourOfSet_16 rfl ?_
      refine lv_iand C.1 C.2.1 dX8_flourOfSet_17 ?_
      refine lv_aload_n C.1 C.2.1 dX8_flourOfSet_18 rfl (lv_at hl 2 rfl) ?_
      refine lv_iload_n C.1 C.2.1 dX8_flourOfSet_19 rfl (lv_at hl 0 rfl) ?_
      refine ro_callV (As := [nV i]) (rest := [.int ((x >>> ((iI ((i : Nat) : Int)) &&& 31)) &&& (iI ((1 : Nat) : Int))), .int t]) C hK (c_X8_signOf l g v v0 v1 v2 v3 v4 sg k nc nb bi mo i (by first | assumption | omega)) hP (ci := 6) (q0 := 0) rfl rfl kc_X8_signOf kl_X8_61 kn_X8 ki_X8_signOf ke_X8_signOf nk_X8_signOf (rm_lt (by decide) (by decide)) hl rfl (Nat.le_of_ble_eq_true rfl) dX8_flourOfSet_20 (fun r_2 hr_3 => ?_)
      subst hr_3
      have hf_4 := hsg (i)
      refine ro_callS (As := [nV (sg i)]) (rest := [.int ((x >>> ((iI ((i : Nat) : Int)) &&& 31)) &&& (iI ((1 : Nat) : Int))), .int t]) C hK (c_X6_flour l g (sg i) (by first | assumption | omega)) (hP.sub (ws' := []) [] rfl) kc_X6_flour kl_X8_107 kn_X6 ks_X6_flour nk_X6_flour (rm_lt (by decide) (by decide)) hl rfl (Nat.le_of_ble_eq_true rfl) dX8_flourOfSet_23 (fun r_5 hr_6 => ?_)
      subst hr_6
      refine lv_imul C.1 C.2.1 dX8_flourOfSet_26 ?_
      refine lv_iadd C.1 C.2.1 dX8_flourOfSet_27 ?_
      refine lv_istore_n (lv' := [(2, .int (t + (((x >>> ((iI ((i : Nat) : Int)) &&& 31)) &&& (iI ((1 : Nat) : Int))) * (iI ((fl (sg i) : Nat) : Int))))), (3, nV i), (0, .ref v), (1, .int x)]) C.1 C.2.1 dX8_flourOfSet_28 rfl hl (by decide) rfl (fun ls hl => ?_)
      refine r_incN (k := 1) (n := 1) [(3, nV (i + 1)), (2, .int (t + (((x >>> ((iI ((i : Nat) : Int)) &&& 31)) &&& (iI ((1 : Nat) : Int))) * (iI ((fl (sg i) : Nat) : Int))))), (0, .ref v), (1, .int x)] C dX8_flourOfSet_29 hl rfl rfl (by decide) rfl (fun ls hl => ?_)
      refine r_goto 4 C dX8_flourOfSet_32 rfl ?_
      exact ih_4 (i + 1) (t + (((x >>> ((iI ((i : Nat) : Int)) &&& 31)) &&& (iI ((1 : Nat) : Int))) * (iI ((fl (sg i) : Nat) : Int)))) _ (by first | assumption | omega) (by rw [ht]; rfl) (by omega) (lv_sub hl [0, 1, 2, 3] rfl)
  exact L4 (k - 0 + 1) 0 (iI ((0 : Nat) : Int)) _ (by first | assumption | omega) (rfl) (Nat.lt_succ_self _) (lv_sub hl [0, 1, 2, 3] rfl)
set_option maxHeartbeats 4000000 in
set_option maxRecDepth 100000 in
theorem c_X8_bakersKnowing (l : Launch) (g : GG) (v : Nat) (v0 : Nat) (v1 : Nat) (v2 : Nat) (v3 : Nat) (v4 : Nat) (kn : Nat → Nat) (k : Nat) (nc : Nat) (nb : Nat) (bi : Nat) (mo : Nat) (x : Int32) (hnb : nb ≤ 5) : ROi g l yX8_bakersKnowing cX8_bakersKnowing 4 (some .int) 2 [(v, .inr (6, [.ref v0, .ref v1, .ref v2, .ref v3, .ref v4, nV k, nV nc, nV nb, nV bi, nV mo])), (v4, cN g 5 kn)] [.ref v, .int x] (fun r => r = bset (fun j => decide (iI ((kn j : Nat) : Int) &&& x = x)) nb) := by
  refine ro_startI (by decide +kernel) (Nat.le_of_ble_eq_true rfl) ?_
  intro p e s m args below meth c Q ls C hK hP ret hl
  have C : CT p s m args meth c cX8_bakersKnowing RX8 4 := C
  have hl : lv_has ls 4 [(0, .ref v), (1, .int x)] := hl
  refine r_iconst 0 C dX8_bakersKnowing_0 rfl ?_
  refine lv_istore_n (lv' := [(2, nV 0), (0, .ref v), (1, .int x)]) C.1 C.2.1 dX8_bakersKnowing_1 rfl hl (by decide) rfl (fun ls hl => ?_)
  refine r_iconst 0 C dX8_bakersKnowing_2 rfl ?_
  refine lv_istore_n (lv' := [(3, nV 0), (2, nV 0), (0, .ref v), (1, .int x)]) C.1 C.2.1 dX8_bakersKnowing_3 rfl hl (by decide) rfl (fun ls hl => ?_)
  have L4 : ∀ (n_4 : Nat) (i : Nat) (t : Int32) (ls : Array Slot) (hi : i ≤ nb) (ht : t = bset (fun j => decide (iI ((kn j : Nat) : Int) &&& x = x)) i) (hm : nb - i < n_4) (hl : lv_has ls 4 [(3, nV i), (2, .int t), (0, .ref v), (1, .int x)]), W p l e (rD 2) s m args below meth c s.heap [] 0 0 Q (F0 m 4 ls []) := by
    intro n_4
    induction n_4 with
    | zero => intro i t ls hi ht hm hl; exact absurd hm (Nat.not_lt_zero _)
    | succ n_4 ih_4 =>
      intro i t ls hi ht hm hl
      refine lv_iload_n C.1 C.2.1 dX8_bakersKnowing_4 rfl (lv_at hl 0 rfl) ?_
      refine lv_aload_n C.1 C.2.1 dX8_bakersKnowing_5 rfl (lv_at hl 2 rfl) ?_
      refine r_get C hK hP kw_X8 (ci := 6) rfl 0 7 (by decide) kf_X8_40 rfl rfl dX8_bakersKnowing_6 ?_
      refine r_cge 38 C dX8_bakersKnowing_9 rfl ⟨rgN (by omega), rgN (by omega)⟩ (fun h_1 => ?_) (fun h_1 => ?_)
      · skip
        refine lv_iload_n C.1 C.2.1 dX8_bakersKnowing_38 rfl (lv_at hl 1 rfl) ?_
        exact ret dX8_bakersKnowing_39 (by rw [ht, show i = nb by omega])
      refine lv_aload_n C.1 C.2.1 dX8_bakersKnowing_12 rfl (lv_at hl 2 rfl) ?_
      refine r_get C hK hP kw_X8 (ci := 6) rfl 0 4 (by decide) kf_X8_24 rfl rfl dX8_bakersKnowing_13 ?_
      refine lv_iload_n C.1 C.2.1 dX8_bakersKnowing_16 rfl (lv_at hl 0 rfl) ?_
      refine ro_callSN (As := [.ref v4, nV i]) (rest := []) C hK (c_X9_at l g v4 5 kn i (by first | assumption | omega) (by first | assumption | omega)) (hP.sub (ws' := [(v4, cN g 5 kn)]) [1] rfl) kc_X9_at kx_X8_57 kn_X9 ks_X9_at nk_X9_at (rm_lt (by decide) (by decide)) hl rfl (Nat.le_of_ble_eq_true rfl) dX8_bakersKnowing_17 (fun r_2 hr_3 => ?_)
      subst hr_3
      refine lv_iload_n C.1 C.2.1 dX8_bakersKnowing_20 rfl (lv_at hl 3 rfl) ?_
      refine lv_iand C.1 C.2.1 dX8_bakersKnowing_21 ?_
      refine lv_iload_n C.1 C.2.1 dX8_bakersKnowing_22 rfl (lv_at hl 3 rfl) ?_
      refine lv_icmp_ne (tgt := 32) C.1 C.2.1 dX8_bakersKnowing_23 rfl (fun hc => ?_) (fun hc => ?_)
      · skip
        refine r_incN (k := 0) (n := 1) [(3, nV (i + 1)), (2, .int t), (0, .ref v), (1, .int x)] C dX8_bakersKnowing_32 hl rfl rfl (by decide) rfl (fun ls hl => ?_)
        refine r_goto 4 C dX8_bakersKnowing_35 rfl ?_
        exact ih_4 (i + 1) t _ (by first | assumption | omega) (by rw [ht]; show _ = (if decide (iI ((kn i : Nat) : Int) &&& x = x) = true then _ else _); first | (rw [if_pos (decide_eq_true hc)]; done) | rw [if_neg (by simpa using hc)]) (by omega) (lv_sub hl [0, 1, 2, 3] rfl)
      refine lv_iload_n C.1 C.2.1 dX8_bakersKnowing_26 rfl (lv_at hl 1 rfl) ?_
      refine r_iconst 1 C dX8_bakersKnowing_27 rfl ?_
      refine lv_iload_n C.1 C.2.1 dX8_bakersKnowing_28 rfl (lv_at hl 0 rfl) ?_
      refine lv_ishl C.1 C.2.1 dX8_bakersKnowing_29 ?_
      refine lv_ior C.1 C.2.1 dX8_bakersKnowing_30 ?_
      refine lv_istore_n (lv' := [(2, .int (t ||| ((iI ((1 : Nat) : Int)) <<< ((iI ((i : Nat) : Int)) &&& 31)))), (3, nV i), (0, .ref v), (1, .int x)]) C.1 C.2.1 dX8_bakersKnowing_31 rfl hl (by decide) rfl (fun ls hl => ?_)
      refine r_incN (k := 1) (n := 1) [(3, nV (i + 1)), (2, .int (t ||| ((iI ((1 : Nat) : Int)) <<< ((iI ((i : Nat) : Int)) &&& 31)))), (0, .ref v), (1, .int x)] C dX8_bakersKnowing_32 hl rfl rfl (by decide) rfl (fun ls hl => ?_)
      refine r_goto 4 C dX8_bakersKnowing_35 rfl ?_
      exact ih_4 (i + 1) (t ||| ((iI ((1 : Nat) : Int)) <<< ((iI ((i : Nat) : Int)) &&& 31))) _ (by first | assumption | omega) (by rw [ht]; show _ = (if decide (iI ((kn i : Nat) : Int) &&& x = x) = true then _ else _); first | (rw [if_pos (decide_eq_true hc)]; done) | rw [if_neg (by simpa using hc)]) (by omega) (lv_sub hl [0, 1, 2, 3] rfl)
  exact L4 (nb - 0 + 1) 0 (iI ((0 : Nat) : Int)) _ (by first | assumption | omega) (rfl) (Nat.lt_succ_self _) (lv_sub hl [0, 1, 2, 3] rfl)
set_option maxHeartbeats 4000000 in
set_option maxRecDepth 100000 in
theorem c_X8_clear (l : Launch) (g : GG) (v : Nat) (v0 : Nat) (v1 : Nat) (v2 : Nat) (v3 : Nat) (v4 : Nat) (k : Nat) (nc : Nat) (nb : Nat) (bi : Nat) (mo : Nat)  : WRv g l yX8_clear cX8_clear 1 1 [(v, .inr (6, [.ref v0, .ref v1, .ref v2, .ref v3, .ref v4, nV k, nV nc, nV nb, nV bi, nV mo]))] [.ref v] (fun (_ : Unit) => True) (fun (_ : Unit) => [(v, .inr (6, [.ref v0, .ref v1, .ref v2, .ref v3, .ref v4, nV 0, nV 0, nV 0, nV 2, nV 3]))]) := by
  refine wr_startV (by decide +kernel) (Nat.le_of_ble_eq_true rfl) ?_
  intro p e s m args below meth c Q A ls C hK hA ret hP hD hS hl
  have C : CT p s m args meth c cX8_clear RX8 1 := C
  have hl : lv_has ls 1 [(0, .ref v)] := hl
  refine lv_aload_n C.1 C.2.1 dX8_clear_0 rfl (lv_at hl 0 rfl) ?_
  refine r_iconst 0 C dX8_clear_1 rfl ?_
  refine r_put (v := nV 0) C hK hP hD hS kw_X8 tyX8_ok nmX8 (ci := 6) rfl 0 5 (by decide) kf_X8_34 rfl rfl rfl rfl rfl (Nat.le_of_ble_eq_true rfl) dX8_clear_2 (fun H locs hP hD hS => ?_)
  have hP : va_P g.1 vwCl [(v, .inr (6, [.ref v0, .ref v1, .ref v2, .ref v3, .ref v4, nV 0, nV nc, nV nb, nV bi, nV mo]))] H := hP
  have hD : va_D A [(v, .inr (6, [.ref v0, .ref v1, .ref v2, .ref v3, .ref v4, nV 0, nV nc, nV nb, nV bi, nV mo]))] := hD
  refine lv_aload_n C.1 C.2.1 dX8_clear_5 rfl (lv_at hl 0 rfl) ?_
  refine r_iconst 0 C dX8_clear_6 rfl ?_
  refine r_put (v := nV 0) C hK hP hD hS kw_X8 tyX8_ok nmX8 (ci := 6) rfl 0 6 (by decide) kf_X8_37 rfl rfl rfl rfl rfl (Nat.le_of_ble_eq_true rfl) dX8_clear_7 (fun H locs hP hD hS => ?_)
  have hP : va_P g.1 vwCl [(v, .inr (6, [.ref v0, .ref v1, .ref v2, .ref v3, .ref v4, nV 0, nV 0, nV nb, nV bi, nV mo]))] H := hP
  have hD : va_D A [(v, .inr (6, [.ref v0, .ref v1, .ref v2, .ref v3, .ref v4, nV 0, nV 0, nV nb, nV bi, nV mo]))] := hD
  refine lv_aload_n C.1 C.2.1 dX8_clear_10 rfl (lv_at hl 0 rfl) ?_
  refine r_iconst 0 C dX8_clear_11 rfl ?_
  refine r_put (v := nV 0) C hK hP hD hS kw_X8 tyX8_ok nmX8 (ci := 6) rfl 0 7 (by decide) kf_X8_40 rfl rfl rfl rfl rfl (Nat.le_of_ble_eq_true rfl) dX8_clear_12 (fun H locs hP hD hS => ?_)
  have hP : va_P g.1 vwCl [(v, .inr (6, [.ref v0, .ref v1, .ref v2, .ref v3, .ref v4, nV 0, nV 0, nV 0, nV bi, nV mo]))] H := hP
  have hD : va_D A [(v, .inr (6, [.ref v0, .ref v1, .ref v2, .ref v3, .ref v4, nV 0, nV 0, nV 0, nV bi, nV mo]))] := hD
  refine lv_aload_n C.1 C.2.1 dX8_clear_15 rfl (lv_at hl 0 rfl) ?_
  refine r_iconst 2 C dX8_clear_16 rfl ?_
  refine r_put (v := nV 2) C hK hP hD hS kw_X8 tyX8_ok nmX8 (ci := 6) rfl 0 8 (by decide) kf_X8_27 rfl rfl rfl rfl rfl (Nat.le_of_ble_eq_true rfl) dX8_clear_17 (fun H locs hP hD hS => ?_)
  have hP : va_P g.1 vwCl [(v, .inr (6, [.ref v0, .ref v1, .ref v2, .ref v3, .ref v4, nV 0, nV 0, nV 0, nV 2, nV mo]))] H := hP
  have hD : va_D A [(v, .inr (6, [.ref v0, .ref v1, .ref v2, .ref v3, .ref v4, nV 0, nV 0, nV 0, nV 2, nV mo]))] := hD
  refine lv_aload_n C.1 C.2.1 dX8_clear_20 rfl (lv_at hl 0 rfl) ?_
  refine r_iconst 3 C dX8_clear_21 rfl ?_
  refine r_put (v := nV 3) C hK hP hD hS kw_X8 tyX8_ok nmX8 (ci := 6) rfl 0 9 (by decide) kf_X8_31 rfl rfl rfl rfl rfl (Nat.le_of_ble_eq_true rfl) dX8_clear_22 (fun H locs hP hD hS => ?_)
  have hP : va_P g.1 vwCl [(v, .inr (6, [.ref v0, .ref v1, .ref v2, .ref v3, .ref v4, nV 0, nV 0, nV 0, nV 2, nV 3]))] H := hP
  have hD : va_D A [(v, .inr (6, [.ref v0, .ref v1, .ref v2, .ref v3, .ref v4, nV 0, nV 0, nV 0, nV 2, nV 3]))] := hD
  exact ret (()) dX8_clear_25 hS hP (trivial)
set_option maxHeartbeats 4000000 in
set_option maxRecDepth 100000 in
theorem c_X8_addWord (l : Launch) (g : GG) (v : Nat) (v0 : Nat) (v1 : Nat) (v2 : Nat) (v3 : Nat) (v4 : Nat) (sg : Nat → Nat) (wo : Nat → Nat) (k : Nat) (nc : Nat) (nb : Nat) (bi : Nat) (mo : Nat) (x : Nat) (y : Nat) (w : Nat) (z : Nat) (hk : k ≤ 8) (hsg : ∀ j, sg j < 72) (hx : x < 100) (hy : y < 100) (hw : w < 100) (hz : z < 100) : WRi g l yX8_addWord cX8_addWord 6 (some .boolean) 4 [(v, .inr (6, [.ref v0, .ref v1, .ref v2, .ref v3, .ref v4, nV k, nV nc, nV nb, nV bi, nV mo])), (v0, cN g 8 sg), (v1, cN g 8 wo)] [.ref v, nV x, nV y, nV w, nV z] (fun r (_ : Unit) => r = bI (aw sg k x y w = true)) (fun (_ : Unit) => [(v, .inr (6, [.ref v0, .ref v1, .ref v2, .ref v3, .ref v4, nV (if aw sg k x y w = true then k + 1 else k), nV nc, nV nb, nV bi, nV mo])), (v0, cN g 8 (if aw sg k x y w = true then upN sg k (x + 6 * y + 24 * w) else sg)), (v1, cN g 8 (if aw sg k x y w = true then upN wo k z else wo))]) := by
  refine wr_startZ (by decide +kernel) (Nat.le_of_ble_eq_true rfl) ?_
  intro p e s m args below meth c Q A ls C hK hA ret hP hD hS hl
  have C : CT p s m args meth c cX8_addWord RX8 6 := C
  have hl : lv_has ls 6 [(0, .ref v), (1, nV x), (2, nV y), (3, nV w), (4, nV z)] := hl
  refine lv_iload_n C.1 C.2.1 dX8_addWord_0 rfl (lv_at hl 1 rfl) ?_
  refine r_iconst 0 C dX8_addWord_1 rfl ?_
  refine r_iconst 5 C dX8_addWord_2 rfl ?_
  refine ro_callSN (As := [nV x, nV 0, nV 5]) (rest := []) C hK (c_X9_within l g ((x : Nat) : Int) ((0 : Nat) : Int) ((5 : Nat) : Int) (by first | assumption | exact ⟨by omega, by omega⟩) (by first | assumption | exact ⟨by omega, by omega⟩) (by first | assumption | exact ⟨by omega, by omega⟩)) (hP.sub (ws' := []) [] rfl) kc_X9_within kx_X8_43 kn_X9 ks_X9_within nk_X9_within (rm_lt (by decide) (by decide)) hl rfl (Nat.le_of_ble_eq_true rfl) dX8_addWord_3 (fun r_1 hr_2 => ?_)
  subst hr_2
  refine r_beq 27 C dX8_addWord_6 rfl (fun h_3 => ?_) (fun h_3 => ?_)
  · skip
    refine r_iconst 0 C dX8_addWord_27 rfl ?_
    exact ret (()) dX8_addWord_28 (by decide) hS (by have hf : aw sg k x y w = false := decide_eq_false (by omega); rw [if_neg (by rw [hf]; decide), if_neg (by rw [hf]; decide), if_neg (by rw [hf]; decide)]; exact hP) (bI_z (by have hf : aw sg k x y w = false := decide_eq_false (by omega); rw [hf]; decide))
  refine lv_iload_n C.1 C.2.1 dX8_addWord_9 rfl (lv_at hl 2 rfl) ?_
  refine r_iconst 0 C dX8_addWord_10 rfl ?_
  refine r_iconst 3 C dX8_addWord_11 rfl ?_
  refine ro_callSN (As := [nV y, nV 0, nV 3]) (rest := []) C hK (c_X9_within l g ((y : Nat) : Int) ((0 : Nat) : Int) ((3 : Nat) : Int) (by first | assumption | exact ⟨by omega, by omega⟩) (by first | assumption | exact ⟨by omega, by omega⟩) (by first | assumption | exact ⟨by omega, by omega⟩)) (hP.sub (ws' := []) [] rfl) kc_X9_within kx_X8_43 kn_X9 ks_X9_within nk_X9_within (rm_lt (by decide) (by decide)) hl rfl (Nat.le_of_ble_eq_true rfl) dX8_addWord_12 (fun r_4 hr_5 => ?_)
  subst hr_5
  refine r_beq 27 C dX8_addWord_15 rfl (fun h_6 => ?_) (fun h_6 => ?_)
  · skip
    refine r_iconst 0 C dX8_addWord_27 rfl ?_
    exact ret (()) dX8_addWord_28 (by decide) hS (by have hf : aw sg k x y w = false := decide_eq_false (by omega); rw [if_neg (by rw [hf]; decide), if_neg (by rw [hf]; decide), if_neg (by rw [hf]; decide)]; exact hP) (bI_z (by have hf : aw sg k x y w = false := decide_eq_false (by omega); rw [hf]; decide))
  refine lv_iload_n C.1 C.2.1 dX8_addWord_18 rfl (lv_at hl 3 rfl) ?_
  refine r_iconst 0 C dX8_addWord_19 rfl ?_
  refine r_iconst 2 C dX8_addWord_20 rfl ?_
  refine ro_callSN (As := [nV w, nV 0, nV 2]) (rest := []) C hK (c_X9_within l g ((w : Nat) : Int) ((0 : Nat) : Int) ((2 : Nat) : Int) (by first | assumption | exact ⟨by omega, by omega⟩) (by first | assumption | exact ⟨by omega, by omega⟩) (by first | assumption | exact ⟨by omega, by omega⟩)) (hP.sub (ws' := []) [] rfl) kc_X9_within kx_X8_43 kn_X9 ks_X9_within nk_X9_within (rm_lt (by decide) (by decide)) hl rfl (Nat.le_of_ble_eq_true rfl) dX8_addWord_21 (fun r_7 hr_8 => ?_)
  subst hr_8
  refine r_bne 29 C dX8_addWord_24 rfl (fun h_9 => ?_) (fun h_9 => ?_)
  · skip
    refine lv_iload_n C.1 C.2.1 dX8_addWord_29 rfl (lv_at hl 1 rfl) ?_
    refine lv_iload_n C.1 C.2.1 dX8_addWord_30 rfl (lv_at hl 2 rfl) ?_
    refine lv_iload_n C.1 C.2.1 dX8_addWord_31 rfl (lv_at hl 3 rfl) ?_
    refine ro_callS (As := [nV x, nV y, nV w]) (rest := []) C hK (c_X6_of l g x y w) (hP.sub (ws' := []) [] rfl) kc_X6_of kl_X8_47 kn_X6 ks_X6_of nk_X6_of (rm_lt (by decide) (by decide)) hl rfl (Nat.le_of_ble_eq_true rfl) dX8_addWord_32 (fun r_10 hr_11 => ?_)
    subst hr_11
    refine lv_istore (lv' := [(5, nV (x + 6 * y + 24 * w)), (0, .ref v), (1, nV x), (2, nV y), (3, nV w), (4, nV z)]) C.1 C.2.1 dX8_addWord_35 hl (by decide) rfl (fun ls hl => ?_)
    refine lv_iload C.1 C.2.1 dX8_addWord_37 (lv_at hl 5 rfl) ?_
    refine r_iconst 0 C dX8_addWord_39 rfl ?_
    refine r_bipush 99 C dX8_addWord_40 (by decide) ?_
    refine ro_callSN (As := [nV z, nV 0, nV 99]) (rest := []) C hK (c_X9_within l g ((z : Nat) : Int) ((0 : Nat) : Int) ((99 : Nat) : Int) (by first | assumption | exact ⟨by omega, by omega⟩) (by first | assumption | exact ⟨by omega, by omega⟩) (by first | assumption | exact ⟨by omega, by omega⟩)) (hP.sub (ws' := []) [] rfl) kc_X9_within kx_X8_43 kn_X9 ks_X9_within nk_X9_within (rm_lt (by decide) (by decide)) hl rfl (Nat.le_of_ble_eq_true rfl) dX8_addWord_42 (fun r_12 hr_13 => ?_)
    subst hr_13
    refine r_beq 72 C dX8_addWord_45 rfl (fun h_14 => ?_) (fun h_14 => ?_)
    · exact absurd h_14 (by omega)
    refine lv_aload_n C.1 C.2.1 dX8_addWord_48 rfl (lv_at hl 1 rfl) ?_
    refine r_get C hK hP kw_X8 (ci := 6) rfl 0 5 (by decide) kf_X8_34 rfl rfl dX8_addWord_49 ?_
    refine r_iconst 0 C dX8_addWord_52 rfl ?_
    refine r_bipush 7 C dX8_addWord_53 (by decide) ?_
    refine ro_callSN (As := [nV k, nV 0, nV 7]) (rest := []) C hK (c_X9_within l g ((k : Nat) : Int) ((0 : Nat) : Int) ((7 : Nat) : Int) (by first | assumption | exact ⟨by omega, by omega⟩) (by first | assumption | exact ⟨by omega, by omega⟩) (by first | assumption | exact ⟨by omega, by omega⟩)) (hP.sub (ws' := []) [] rfl) kc_X9_within kx_X8_43 kn_X9 ks_X9_within nk_X9_within (rm_lt (by decide) (by decide)) hl rfl (Nat.le_of_ble_eq_true rfl) dX8_addWord_55 (fun r_15 hr_16 => ?_)
    subst hr_16
    refine r_beq 72 C dX8_addWord_58 rfl (fun h_17 => ?_) (fun h_17 => ?_)
    · skip
      refine r_iconst 0 C dX8_addWord_72 rfl ?_
      exact ret (()) dX8_addWord_73 (by decide) hS (by have hf : aw sg k x y w = false := decide_eq_false (by omega); rw [if_neg (by rw [hf]; decide), if_neg (by rw [hf]; decide), if_neg (by rw [hf]; decide)]; exact hP) (bI_z (by have hf : aw sg k x y w = false := decide_eq_false (by omega); rw [hf]; decide))
    refine lv_aload_n C.1 C.2.1 dX8_addWord_61 rfl (lv_at hl 1 rfl) ?_
    refine lv_iload C.1 C.2.1 dX8_addWord_62 (lv_at hl 0 rfl) ?_
    refine ro_callV (As := [nV (x + 6 * y + 24 * w)]) (rest := []) C hK (c_X8_readAs l g v v0 v1 v2 v3 v4 sg k nc nb bi mo (x + 6 * y + 24 * w) (by first | assumption | omega) (by first | assumption | omega) (by first | assumption | omega)) (hP.sub (ws' := [(v, .inr (6, [.ref v0, .ref v1, .ref v2, .ref v3, .ref v4, nV k, nV nc, nV nb, nV bi, nV mo])), (v0, cN g 8 sg)]) [0, 1] rfl) (ci := 6) (q0 := 0) rfl rfl kc_X8_readAs kl_X8_53 kn_X8 ki_X8_readAs ke_X8_readAs nk_X8_readAs (rm_lt (by decide) (by decide)) hl rfl (Nat.le_of_ble_eq_true rfl) dX8_addWord_64 (fun r_18 hr_19 => ?_)
    subst hr_19
    have hf_20 := rd_bd sg (k) ((x + 6 * y + 24 * w))
    refine r_bipushZ C dX8_addWord_67 (by decide) ?_
    refine r_ceq 74 C dX8_addWord_69 rfl ⟨⟨by omega, by omega⟩, (by decide)⟩ (fun h_21 => ?_) (fun h_21 => ?_)
    · skip
      refine lv_aload_n C.1 C.2.1 dX8_addWord_74 rfl (lv_at hl 1 rfl) ?_
      refine r_get C hK hP kw_X8 (ci := 6) rfl 0 0 (by decide) kf_X8_11 rfl rfl dX8_addWord_75 ?_
      refine lv_aload_n C.1 C.2.1 dX8_addWord_78 rfl (lv_at hl 1 rfl) ?_
      refine r_get C hK hP kw_X8 (ci := 6) rfl 0 5 (by decide) kf_X8_34 rfl rfl dX8_addWord_79 ?_
      refine lv_iload C.1 C.2.1 dX8_addWord_82 (lv_at hl 0 rfl) ?_
      refine r_astN C hK hP hD hS 1 rfl ⟨by omega, by omega⟩ dX8_addWord_84 (fun H locs hP hD hS => ?_)
      have hP : va_P g.1 vwCl [(v, .inr (6, [.ref v0, .ref v1, .ref v2, .ref v3, .ref v4, nV k, nV nc, nV nb, nV bi, nV mo])), (v0, cN g 8 (upN sg k (x + 6 * y + 24 * w))), (v1, cN g 8 wo)] H := hP
      have hD : va_D A [(v, .inr (6, [.ref v0, .ref v1, .ref v2, .ref v3, .ref v4, nV k, nV nc, nV nb, nV bi, nV mo])), (v0, cN g 8 (upN sg k (x + 6 * y + 24 * w))), (v1, cN g 8 wo)] := hD
      refine lv_aload_n C.1 C.2.1 dX8_addWord_85 rfl (lv_at hl 1 rfl) ?_
      refine r_get C hK hP kw_X8 (ci := 6) rfl 0 1 (by decide) kf_X8_15 rfl rfl dX8_addWord_86 ?_
      refine lv_aload_n C.1 C.2.1 dX8_addWord_89 rfl (lv_at hl 1 rfl) ?_
      refine r_get C hK hP kw_X8 (ci := 6) rfl 0 5 (by decide) kf_X8_34 rfl rfl dX8_addWord_90 ?_
      refine lv_iload C.1 C.2.1 dX8_addWord_93 (lv_at hl 5 rfl) ?_
      refine r_astN C hK hP hD hS 2 rfl ⟨by omega, by omega⟩ dX8_addWord_95 (fun H locs hP hD hS => ?_)
      have hP : va_P g.1 vwCl [(v, .inr (6, [.ref v0, .ref v1, .ref v2, .ref v3, .ref v4, nV k, nV nc, nV nb, nV bi, nV mo])), (v0, cN g 8 (upN sg k (x + 6 * y + 24 * w))), (v1, cN g 8 (upN wo k z))] H := hP
      have hD : va_D A [(v, .inr (6, [.ref v0, .ref v1, .ref v2, .ref v3, .ref v4, nV k, nV nc, nV nb, nV bi, nV mo])), (v0, cN g 8 (upN sg k (x + 6 * y + 24 * w))), (v1, cN g 8 (upN wo k z))] := hD
      refine lv_aload_n C.1 C.2.1 dX8_addWord_96 rfl (lv_at hl 1 rfl) ?_
      refine lv_dup C.1 C.2.1 dX8_addWord_97 rfl ?_
      refine r_get C hK hP kw_X8 (ci := 6) rfl 0 5 (by decide) kf_X8_34 rfl rfl dX8_addWord_98 ?_
      refine r_iconst 1 C dX8_addWord_101 rfl ?_
      refine r_addN C dX8_addWord_102 ?_
      refine r_put (v := nV (k + 1)) C hK hP hD hS kw_X8 tyX8_ok nmX8 (ci := 6) rfl 0 5 (by decide) kf_X8_34 rfl rfl rfl rfl rfl (Nat.le_of_ble_eq_true rfl) dX8_addWord_103 (fun H locs hP hD hS => ?_)
      have hP : va_P g.1 vwCl [(v, .inr (6, [.ref v0, .ref v1, .ref v2, .ref v3, .ref v4, nV (k + 1), nV nc, nV nb, nV bi, nV mo])), (v0, cN g 8 (upN sg k (x + 6 * y + 24 * w))), (v1, cN g 8 (upN wo k z))] H := hP
      have hD : va_D A [(v, .inr (6, [.ref v0, .ref v1, .ref v2, .ref v3, .ref v4, nV (k + 1), nV nc, nV nb, nV bi, nV mo])), (v0, cN g 8 (upN sg k (x + 6 * y + 24 * w))), (v1, cN g 8 (upN wo k z))] := hD
      refine r_iconst 1 C dX8_addWord_106 rfl ?_
      exact ret (()) dX8_addWord_107 (by decide) hS (by have hf : aw sg k x y w = true := decide_eq_true ⟨by omega, by omega, by omega, by omega, by omega⟩; rw [if_pos hf, if_pos hf, if_pos hf]; exact hP) (bI_1 (decide_eq_true ⟨by omega, by omega, by omega, by omega, by omega⟩))
    refine r_iconst 0 C dX8_addWord_72 rfl ?_
    exact ret (()) dX8_addWord_73 (by decide) hS (by have hf : aw sg k x y w = false := decide_eq_false (by omega); rw [if_neg (by rw [hf]; decide), if_neg (by rw [hf]; decide), if_neg (by rw [hf]; decide)]; exact hP) (bI_z (by have hf : aw sg k x y w = false := decide_eq_false (by omega); rw [hf]; decide))
  refine r_iconst 0 C dX8_addWord_27 rfl ?_
  exact ret (()) dX8_addWord_28 (by decide) hS (by have hf : aw sg k x y w = false := decide_eq_false (by omega); rw [if_neg (by rw [hf]; decide), if_neg (by rw [hf]; decide), if_neg (by rw [hf]; decide)]; exact hP) (bI_z (by have hf : aw sg k x y w = false := decide_eq_false (by omega); rw [hf]; decide))
set_option maxHeartbeats 4000000 in
set_option maxRecDepth 100000 in
theorem c_X8_setLosses (l : Launch) (g : GG) (v : Nat) (v0 : Nat) (v1 : Nat) (v2 : Nat) (v3 : Nat) (v4 : Nat) (k : Nat) (nc : Nat) (nb : Nat) (bi : Nat) (mo : Nat) (x : Nat) (y : Nat) (hx : x < 100) (hy : y < 100) : WRi g l yX8_setLosses cX8_setLosses 3 (some .boolean) 2 [(v, .inr (6, [.ref v0, .ref v1, .ref v2, .ref v3, .ref v4, nV k, nV nc, nV nb, nV bi, nV mo]))] [.ref v, nV x, nV y] (fun r (_ : Unit) => r = bI (al x y = true)) (fun (_ : Unit) => [(v, .inr (6, [.ref v0, .ref v1, .ref v2, .ref v3, .ref v4, nV k, nV nc, nV nb, nV (if al x y = true then x else bi), nV (if al x y = true then y else mo)]))]) := by
  refine wr_startZ (by decide +kernel) (Nat.le_of_ble_eq_true rfl) ?_
  intro p e s m args below meth c Q A ls C hK hA ret hP hD hS hl
  have C : CT p s m args meth c cX8_setLosses RX8 3 := C
  have hl : lv_has ls 3 [(0, .ref v), (1, nV x), (2, nV y)] := hl
  refine lv_iload_n C.1 C.2.1 dX8_setLosses_0 rfl (lv_at hl 1 rfl) ?_
  refine r_iconst 1 C dX8_setLosses_1 rfl ?_
  refine r_bipush 9 C dX8_setLosses_2 (by decide) ?_
  refine ro_callSN (As := [nV x, nV 1, nV 9]) (rest := []) C hK (c_X9_within l g ((x : Nat) : Int) ((1 : Nat) : Int) ((9 : Nat) : Int) (by first | assumption | exact ⟨by omega, by omega⟩) (by first | assumption | exact ⟨by omega, by omega⟩) (by first | assumption | exact ⟨by omega, by omega⟩)) (hP.sub (ws' := []) [] rfl) kc_X9_within kx_X8_43 kn_X9 ks_X9_within nk_X9_within (rm_lt (by decide) (by decide)) hl rfl (Nat.le_of_ble_eq_true rfl) dX8_setLosses_4 (fun r_1 hr_2 => ?_)
  subst hr_2
  refine r_beq 20 C dX8_setLosses_7 rfl (fun h_3 => ?_) (fun h_3 => ?_)
  · skip
    refine r_iconst 0 C dX8_setLosses_20 rfl ?_
    exact ret (()) dX8_setLosses_21 (by decide) hS (by have hf : al x y = false := decide_eq_false (by omega); rw [if_neg (by rw [hf]; decide), if_neg (by rw [hf]; decide)]; exact hP) (bI_z (by have hf : al x y = false := decide_eq_false (by omega); rw [hf]; decide))
  refine lv_iload_n C.1 C.2.1 dX8_setLosses_10 rfl (lv_at hl 2 rfl) ?_
  refine r_iconst 1 C dX8_setLosses_11 rfl ?_
  refine r_bipush 9 C dX8_setLosses_12 (by decide) ?_
  refine ro_callSN (As := [nV y, nV 1, nV 9]) (rest := []) C hK (c_X9_within l g ((y : Nat) : Int) ((1 : Nat) : Int) ((9 : Nat) : Int) (by first | assumption | exact ⟨by omega, by omega⟩) (by first | assumption | exact ⟨by omega, by omega⟩) (by first | assumption | exact ⟨by omega, by omega⟩)) (hP.sub (ws' := []) [] rfl) kc_X9_within kx_X8_43 kn_X9 ks_X9_within nk_X9_within (rm_lt (by decide) (by decide)) hl rfl (Nat.le_of_ble_eq_true rfl) dX8_setLosses_14 (fun r_4 hr_5 => ?_)
  subst hr_5
  refine r_bne 22 C dX8_setLosses_17 rfl (fun h_6 => ?_) (fun h_6 => ?_)
  · skip
    refine lv_aload_n C.1 C.2.1 dX8_setLosses_22 rfl (lv_at hl 0 rfl) ?_
    refine lv_iload_n C.1 C.2.1 dX8_setLosses_23 rfl (lv_at hl 1 rfl) ?_
    refine r_put (v := nV x) C hK hP hD hS kw_X8 tyX8_ok nmX8 (ci := 6) rfl 0 8 (by decide) kf_X8_27 rfl rfl rfl rfl rfl (Nat.le_of_ble_eq_true rfl) dX8_setLosses_24 (fun H locs hP hD hS => ?_)
    have hP : va_P g.1 vwCl [(v, .inr (6, [.ref v0, .ref v1, .ref v2, .ref v3, .ref v4, nV k, nV nc, nV nb, nV x, nV mo]))] H := hP
    have hD : va_D A [(v, .inr (6, [.ref v0, .ref v1, .ref v2, .ref v3, .ref v4, nV k, nV nc, nV nb, nV x, nV mo]))] := hD
    refine lv_aload_n C.1 C.2.1 dX8_setLosses_27 rfl (lv_at hl 0 rfl) ?_
    refine lv_iload_n C.1 C.2.1 dX8_setLosses_28 rfl (lv_at hl 2 rfl) ?_
    refine r_put (v := nV y) C hK hP hD hS kw_X8 tyX8_ok nmX8 (ci := 6) rfl 0 9 (by decide) kf_X8_31 rfl rfl rfl rfl rfl (Nat.le_of_ble_eq_true rfl) dX8_setLosses_29 (fun H locs hP hD hS => ?_)
    have hP : va_P g.1 vwCl [(v, .inr (6, [.ref v0, .ref v1, .ref v2, .ref v3, .ref v4, nV k, nV nc, nV nb, nV x, nV y]))] H := hP
    have hD : va_D A [(v, .inr (6, [.ref v0, .ref v1, .ref v2, .ref v3, .ref v4, nV k, nV nc, nV nb, nV x, nV y]))] := hD
    refine r_iconst 1 C dX8_setLosses_32 rfl ?_
    exact ret (()) dX8_setLosses_33 (by decide) hS (by have hf : al x y = true := decide_eq_true (by omega); rw [if_pos hf, if_pos hf]; exact hP) (bI_1 (decide_eq_true (by omega)))
  refine r_iconst 0 C dX8_setLosses_20 rfl ?_
  exact ret (()) dX8_setLosses_21 (by decide) hS (by have hf : al x y = false := decide_eq_false (by omega); rw [if_neg (by rw [hf]; decide), if_neg (by rw [hf]; decide)]; exact hP) (bI_z (by have hf : al x y = false := decide_eq_false (by omega); rw [hf]; decide))
set_option maxHeartbeats 4000000 in
set_option maxRecDepth 100000 in
theorem c_X8_addCarrier (l : Launch) (g : GG) (v : Nat) (v0 : Nat) (v1 : Nat) (v2 : Nat) (v3 : Nat) (v4 : Nat) (hu : Nat → Nat) (mi : Nat → Nat) (k : Nat) (nc : Nat) (nb : Nat) (bi : Nat) (mo : Nat) (x : Nat) (y : Nat) (hx : x < 100) (hy : y < 100) (hnc : nc ≤ 5) : WRi g l yX8_addCarrier cX8_addCarrier 3 (some .boolean) 2 [(v, .inr (6, [.ref v0, .ref v1, .ref v2, .ref v3, .ref v4, nV k, nV nc, nV nb, nV bi, nV mo])), (v2, cN g 5 hu), (v3, cN g 5 mi)] [.ref v, nV x, nV y] (fun r (_ : Unit) => r = bI (ac nc x y = true)) (fun (_ : Unit) => [(v, .inr (6, [.ref v0, .ref v1, .ref v2, .ref v3, .ref v4, nV k, nV (if ac nc x y = true then nc + 1 else nc), nV nb, nV bi, nV mo])), (v2, cN g 5 (if ac nc x y = true then upN hu nc x else hu)), (v3, cN g 5 (if ac nc x y = true then upN mi nc y else mi))]) := by
  refine wr_startZ (by decide +kernel) (Nat.le_of_ble_eq_true rfl) ?_
  intro p e s m args below meth c Q A ls C hK hA ret hP hD hS hl
  have C : CT p s m args meth c cX8_addCarrier RX8 3 := C
  have hl : lv_has ls 3 [(0, .ref v), (1, nV x), (2, nV y)] := hl
  refine lv_iload_n C.1 C.2.1 dX8_addCarrier_0 rfl (lv_at hl 1 rfl) ?_
  refine r_iconst 0 C dX8_addCarrier_1 rfl ?_
  refine r_bipush 9 C dX8_addCarrier_2 (by decide) ?_
  refine ro_callSN (As := [nV x, nV 0, nV 9]) (rest := []) C hK (c_X9_within l g ((x : Nat) : Int) ((0 : Nat) : Int) ((9 : Nat) : Int) (by first | assumption | exact ⟨by omega, by omega⟩) (by first | assumption | exact ⟨by omega, by omega⟩) (by first | assumption | exact ⟨by omega, by omega⟩)) (hP.sub (ws' := []) [] rfl) kc_X9_within kx_X8_43 kn_X9 ks_X9_within nk_X9_within (rm_lt (by decide) (by decide)) hl rfl (Nat.le_of_ble_eq_true rfl) dX8_addCarrier_4 (fun r_1 hr_2 => ?_)
  subst hr_2
  refine r_beq 32 C dX8_addCarrier_7 rfl (fun h_3 => ?_) (fun h_3 => ?_)
  · skip
    refine r_iconst 0 C dX8_addCarrier_32 rfl ?_
    exact ret (()) dX8_addCarrier_33 (by decide) hS (by have hf : ac nc x y = false := decide_eq_false (by omega); rw [if_neg (by rw [hf]; decide), if_neg (by rw [hf]; decide), if_neg (by rw [hf]; decide)]; exact hP) (bI_z (by have hf : ac nc x y = false := decide_eq_false (by omega); rw [hf]; decide))
  refine lv_iload_n C.1 C.2.1 dX8_addCarrier_10 rfl (lv_at hl 2 rfl) ?_
  refine r_iconst 1 C dX8_addCarrier_11 rfl ?_
  refine r_bipush 6 C dX8_addCarrier_12 (by decide) ?_
  refine ro_callSN (As := [nV y, nV 1, nV 6]) (rest := []) C hK (c_X9_within l g ((y : Nat) : Int) ((1 : Nat) : Int) ((6 : Nat) : Int) (by first | assumption | exact ⟨by omega, by omega⟩) (by first | assumption | exact ⟨by omega, by omega⟩) (by first | assumption | exact ⟨by omega, by omega⟩)) (hP.sub (ws' := []) [] rfl) kc_X9_within kx_X8_43 kn_X9 ks_X9_within nk_X9_within (rm_lt (by decide) (by decide)) hl rfl (Nat.le_of_ble_eq_true rfl) dX8_addCarrier_14 (fun r_4 hr_5 => ?_)
  subst hr_5
  refine r_beq 32 C dX8_addCarrier_17 rfl (fun h_6 => ?_) (fun h_6 => ?_)
  · skip
    refine r_iconst 0 C dX8_addCarrier_32 rfl ?_
    exact ret (()) dX8_addCarrier_33 (by decide) hS (by have hf : ac nc x y = false := decide_eq_false (by omega); rw [if_neg (by rw [hf]; decide), if_neg (by rw [hf]; decide), if_neg (by rw [hf]; decide)]; exact hP) (bI_z (by have hf : ac nc x y = false := decide_eq_false (by omega); rw [hf]; decide))
  refine lv_aload_n C.1 C.2.1 dX8_addCarrier_20 rfl (lv_at hl 0 rfl) ?_
  refine r_get C hK hP kw_X8 (ci := 6) rfl 0 6 (by decide) kf_X8_37 rfl rfl dX8_addCarrier_21 ?_
  refine r_iconst 0 C dX8_addCarrier_24 rfl ?_
  refine r_iconst 4 C dX8_addCarrier_25 rfl ?_
  refine ro_callSN (As := [nV nc, nV 0, nV 4]) (rest := []) C hK (c_X9_within l g ((nc : Nat) : Int) ((0 : Nat) : Int) ((4 : Nat) : Int) (by first | assumption | exact ⟨by omega, by omega⟩) (by first | assumption | exact ⟨by omega, by omega⟩) (by first | assumption | exact ⟨by omega, by omega⟩)) (hP.sub (ws' := []) [] rfl) kc_X9_within kx_X8_43 kn_X9 ks_X9_within nk_X9_within (rm_lt (by decide) (by decide)) hl rfl (Nat.le_of_ble_eq_true rfl) dX8_addCarrier_26 (fun r_7 hr_8 => ?_)
  subst hr_8
  refine r_bne 34 C dX8_addCarrier_29 rfl (fun h_9 => ?_) (fun h_9 => ?_)
  · skip
    refine lv_aload_n C.1 C.2.1 dX8_addCarrier_34 rfl (lv_at hl 0 rfl) ?_
    refine r_get C hK hP kw_X8 (ci := 6) rfl 0 2 (by decide) kf_X8_18 rfl rfl dX8_addCarrier_35 ?_
    refine lv_aload_n C.1 C.2.1 dX8_addCarrier_38 rfl (lv_at hl 0 rfl) ?_
    refine r_get C hK hP kw_X8 (ci := 6) rfl 0 6 (by decide) kf_X8_37 rfl rfl dX8_addCarrier_39 ?_
    refine lv_iload_n C.1 C.2.1 dX8_addCarrier_42 rfl (lv_at hl 1 rfl) ?_
    refine r_astN C hK hP hD hS 1 rfl ⟨by omega, by omega⟩ dX8_addCarrier_43 (fun H locs hP hD hS => ?_)
    have hP : va_P g.1 vwCl [(v, .inr (6, [.ref v0, .ref v1, .ref v2, .ref v3, .ref v4, nV k, nV nc, nV nb, nV bi, nV mo])), (v2, cN g 5 (upN hu nc x)), (v3, cN g 5 mi)] H := hP
    have hD : va_D A [(v, .inr (6, [.ref v0, .ref v1, .ref v2, .ref v3, .ref v4, nV k, nV nc, nV nb, nV bi, nV mo])), (v2, cN g 5 (upN hu nc x)), (v3, cN g 5 mi)] := hD
    refine lv_aload_n C.1 C.2.1 dX8_addCarrier_44 rfl (lv_at hl 0 rfl) ?_
    refine r_get C hK hP kw_X8 (ci := 6) rfl 0 3 (by decide) kf_X8_21 rfl rfl dX8_addCarrier_45 ?_
    refine lv_aload_n C.1 C.2.1 dX8_addCarrier_48 rfl (lv_at hl 0 rfl) ?_
    refine r_get C hK hP kw_X8 (ci := 6) rfl 0 6 (by decide) kf_X8_37 rfl rfl dX8_addCarrier_49 ?_
    refine lv_iload_n C.1 C.2.1 dX8_addCarrier_52 rfl (lv_at hl 2 rfl) ?_
    refine r_astN C hK hP hD hS 2 rfl ⟨by omega, by omega⟩ dX8_addCarrier_53 (fun H locs hP hD hS => ?_)
    have hP : va_P g.1 vwCl [(v, .inr (6, [.ref v0, .ref v1, .ref v2, .ref v3, .ref v4, nV k, nV nc, nV nb, nV bi, nV mo])), (v2, cN g 5 (upN hu nc x)), (v3, cN g 5 (upN mi nc y))] H := hP
    have hD : va_D A [(v, .inr (6, [.ref v0, .ref v1, .ref v2, .ref v3, .ref v4, nV k, nV nc, nV nb, nV bi, nV mo])), (v2, cN g 5 (upN hu nc x)), (v3, cN g 5 (upN mi nc y))] := hD
    refine lv_aload_n C.1 C.2.1 dX8_addCarrier_54 rfl (lv_at hl 0 rfl) ?_
    refine lv_dup C.1 C.2.1 dX8_addCarrier_55 rfl ?_
    refine r_get C hK hP kw_X8 (ci := 6) rfl 0 6 (by decide) kf_X8_37 rfl rfl dX8_addCarrier_56 ?_
    refine r_iconst 1 C dX8_addCarrier_59 rfl ?_
    refine r_addN C dX8_addCarrier_60 ?_
    refine r_put (v := nV (nc + 1)) C hK hP hD hS kw_X8 tyX8_ok nmX8 (ci := 6) rfl 0 6 (by decide) kf_X8_37 rfl rfl rfl rfl rfl (Nat.le_of_ble_eq_true rfl) dX8_addCarrier_61 (fun H locs hP hD hS => ?_)
    have hP : va_P g.1 vwCl [(v, .inr (6, [.ref v0, .ref v1, .ref v2, .ref v3, .ref v4, nV k, nV (nc + 1), nV nb, nV bi, nV mo])), (v2, cN g 5 (upN hu nc x)), (v3, cN g 5 (upN mi nc y))] H := hP
    have hD : va_D A [(v, .inr (6, [.ref v0, .ref v1, .ref v2, .ref v3, .ref v4, nV k, nV (nc + 1), nV nb, nV bi, nV mo])), (v2, cN g 5 (upN hu nc x)), (v3, cN g 5 (upN mi nc y))] := hD
    refine r_iconst 1 C dX8_addCarrier_64 rfl ?_
    exact ret (()) dX8_addCarrier_65 (by decide) hS (by have hf : ac nc x y = true := decide_eq_true (by omega); rw [if_pos hf, if_pos hf, if_pos hf]; exact hP) (bI_1 (decide_eq_true (by omega)))
  refine r_iconst 0 C dX8_addCarrier_32 rfl ?_
  exact ret (()) dX8_addCarrier_33 (by decide) hS (by have hf : ac nc x y = false := decide_eq_false (by omega); rw [if_neg (by rw [hf]; decide), if_neg (by rw [hf]; decide), if_neg (by rw [hf]; decide)]; exact hP) (bI_z (by have hf : ac nc x y = false := decide_eq_false (by omega); rw [hf]; decide))
set_option maxHeartbeats 4000000 in
set_option maxRecDepth 100000 in
theorem c_X8_addBaker (l : Launch) (g : GG) (v : Nat) (v0 : Nat) (v1 : Nat) (v2 : Nat) (v3 : Nat) (v4 : Nat) (kn : Nat → Nat) (k : Nat) (nc : Nat) (nb : Nat) (bi : Nat) (mo : Nat) (x : Nat) (hx : x < 100) (hnb : nb ≤ 5) : WRi g l yX8_addBaker cX8_addBaker 2 (some .boolean) 2 [(v, .inr (6, [.ref v0, .ref v1, .ref v2, .ref v3, .ref v4, nV k, nV nc, nV nb, nV bi, nV mo])), (v4, cN g 5 kn)] [.ref v, nV x] (fun r (_ : Unit) => r = bI (ab nb x = true)) (fun (_ : Unit) => [(v, .inr (6, [.ref v0, .ref v1, .ref v2, .ref v3, .ref v4, nV k, nV nc, nV (if ab nb x = true then nb + 1 else nb), nV bi, nV mo])), (v4, cN g 5 (if ab nb x = true then upN kn nb x else kn))]) := by
  refine wr_startZ (by decide +kernel) (Nat.le_of_ble_eq_true rfl) ?_
  intro p e s m args below meth c Q A ls C hK hA ret hP hD hS hl
  have C : CT p s m args meth c cX8_addBaker RX8 2 := C
  have hl : lv_has ls 2 [(0, .ref v), (1, nV x)] := hl
  refine lv_iload_n C.1 C.2.1 dX8_addBaker_0 rfl (lv_at hl 1 rfl) ?_
  refine r_iconst 0 C dX8_addBaker_1 rfl ?_
  refine r_bipush 63 C dX8_addBaker_2 (by decide) ?_
  refine ro_callSN (As := [nV x, nV 0, nV 63]) (rest := []) C hK (c_X9_within l g ((x : Nat) : Int) ((0 : Nat) : Int) ((63 : Nat) : Int) (by first | assumption | exact ⟨by omega, by omega⟩) (by first | assumption | exact ⟨by omega, by omega⟩) (by first | assumption | exact ⟨by omega, by omega⟩)) (hP.sub (ws' := []) [] rfl) kc_X9_within kx_X8_43 kn_X9 ks_X9_within nk_X9_within (rm_lt (by decide) (by decide)) hl rfl (Nat.le_of_ble_eq_true rfl) dX8_addBaker_4 (fun r_1 hr_2 => ?_)
  subst hr_2
  refine r_beq 22 C dX8_addBaker_7 rfl (fun h_3 => ?_) (fun h_3 => ?_)
  · skip
    refine r_iconst 0 C dX8_addBaker_22 rfl ?_
    exact ret (()) dX8_addBaker_23 (by decide) hS (by have hf : ab nb x = false := decide_eq_false (by omega); rw [if_neg (by rw [hf]; decide), if_neg (by rw [hf]; decide)]; exact hP) (bI_z (by have hf : ab nb x = false := decide_eq_false (by omega); rw [hf]; decide))
  refine lv_aload_n C.1 C.2.1 dX8_addBaker_10 rfl (lv_at hl 0 rfl) ?_
  refine r_get C hK hP kw_X8 (ci := 6) rfl 0 7 (by decide) kf_X8_40 rfl rfl dX8_addBaker_11 ?_
  refine r_iconst 0 C dX8_addBaker_14 rfl ?_
  refine r_iconst 4 C dX8_addBaker_15 rfl ?_
  refine ro_callSN (As := [nV nb, nV 0, nV 4]) (rest := []) C hK (c_X9_within l g ((nb : Nat) : Int) ((0 : Nat) : Int) ((4 : Nat) : Int) (by first | assumption | exact ⟨by omega, by omega⟩) (by first | assumption | exact ⟨by omega, by omega⟩) (by first | assumption | exact ⟨by omega, by omega⟩)) (hP.sub (ws' := []) [] rfl) kc_X9_within kx_X8_43 kn_X9 ks_X9_within nk_X9_within (rm_lt (by decide) (by decide)) hl rfl (Nat.le_of_ble_eq_true rfl) dX8_addBaker_16 (fun r_4 hr_5 => ?_)
  subst hr_5
  refine r_bne 24 C dX8_addBaker_19 rfl (fun h_6 => ?_) (fun h_6 => ?_)
  · skip
    refine lv_aload_n C.1 C.2.1 dX8_addBaker_24 rfl (lv_at hl 0 rfl) ?_
    refine r_get C hK hP kw_X8 (ci := 6) rfl 0 4 (by decide) kf_X8_24 rfl rfl dX8_addBaker_25 ?_
    refine lv_aload_n C.1 C.2.1 dX8_addBaker_28 rfl (lv_at hl 0 rfl) ?_
    refine r_get C hK hP kw_X8 (ci := 6) rfl 0 7 (by decide) kf_X8_40 rfl rfl dX8_addBaker_29 ?_
    refine lv_iload_n C.1 C.2.1 dX8_addBaker_32 rfl (lv_at hl 1 rfl) ?_
    refine r_astN C hK hP hD hS 1 rfl ⟨by omega, by omega⟩ dX8_addBaker_33 (fun H locs hP hD hS => ?_)
    have hP : va_P g.1 vwCl [(v, .inr (6, [.ref v0, .ref v1, .ref v2, .ref v3, .ref v4, nV k, nV nc, nV nb, nV bi, nV mo])), (v4, cN g 5 (upN kn nb x))] H := hP
    have hD : va_D A [(v, .inr (6, [.ref v0, .ref v1, .ref v2, .ref v3, .ref v4, nV k, nV nc, nV nb, nV bi, nV mo])), (v4, cN g 5 (upN kn nb x))] := hD
    refine lv_aload_n C.1 C.2.1 dX8_addBaker_34 rfl (lv_at hl 0 rfl) ?_
    refine lv_dup C.1 C.2.1 dX8_addBaker_35 rfl ?_
    refine r_get C hK hP kw_X8 (ci := 6) rfl 0 7 (by decide) kf_X8_40 rfl rfl dX8_addBaker_36 ?_
    refine r_iconst 1 C dX8_addBaker_39 rfl ?_
    refine r_addN C dX8_addBaker_40 ?_
    refine r_put (v := nV (nb + 1)) C hK hP hD hS kw_X8 tyX8_ok nmX8 (ci := 6) rfl 0 7 (by decide) kf_X8_40 rfl rfl rfl rfl rfl (Nat.le_of_ble_eq_true rfl) dX8_addBaker_41 (fun H locs hP hD hS => ?_)
    have hP : va_P g.1 vwCl [(v, .inr (6, [.ref v0, .ref v1, .ref v2, .ref v3, .ref v4, nV k, nV nc, nV (nb + 1), nV bi, nV mo])), (v4, cN g 5 (upN kn nb x))] H := hP
    have hD : va_D A [(v, .inr (6, [.ref v0, .ref v1, .ref v2, .ref v3, .ref v4, nV k, nV nc, nV (nb + 1), nV bi, nV mo])), (v4, cN g 5 (upN kn nb x))] := hD
    refine r_iconst 1 C dX8_addBaker_44 rfl ?_
    exact ret (()) dX8_addBaker_45 (by decide) hS (by have hf : ab nb x = true := decide_eq_true (by omega); rw [if_pos hf, if_pos hf]; exact hP) (bI_1 (decide_eq_true (by omega)))
  refine r_iconst 0 C dX8_addBaker_22 rfl ?_
  exact ret (()) dX8_addBaker_23 (by decide) hS (by have hf : ab nb x = false := decide_eq_false (by omega); rw [if_neg (by rw [hf]; decide), if_neg (by rw [hf]; decide)]; exact hP) (bI_z (by have hf : ab nb x = false := decide_eq_false (by omega); rw [hf]; decide))
