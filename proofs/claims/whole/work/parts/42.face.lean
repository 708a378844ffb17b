set_option maxHeartbeats 4000000 in
set_option maxRecDepth 100000 in
theorem c_X9_isWord (l : Launch) (g : GG) (x0 : Nat) (t : Nat) (rd0 : Nat) (q : Nat) (us : Nat) (ks : Nat) (rc0 : Nat) (se : Nat) (v : Nat) (vd : Nat) (v0 : Nat) (v1 : Nat) (v2 : Nat) (v3 : Nat) (v4 : Nat) (k : Nat) (nc : Nat) (nb : Nat) (bi : Nat) (mo : Nat) (x : Int) (hk : k ≤ 8) (hx : rg x) : ROi g l yX9_isWord cX9_isWord 2 (some .boolean) 2 [(x0, .inr (7, [.ref t, .ref rd0, .ref q, .ref us, .ref ks, .ref rc0, .ref se, .ref v, .ref vd])), (v, .inr (6, [.ref v0, .ref v1, .ref v2, .ref v3, .ref v4, nV k, nV nc, nV nb, nV bi, nV mo]))] [.ref x0, zV x] (fun r => r = bI (0 ≤ x ∧ x < (k : Int))) := by
  refine ro_startZ (by decide +kernel) (Nat.le_of_ble_eq_true rfl) ?_
  intro p e s m args below meth c Q ls C hK hP ret hl
  have C : CT p s m args meth c cX9_isWord RX9 2 := C
  have hl : lv_has ls 2 [(0, .ref x0), (1, zV x)] := hl
  refine lv_iload_n C.1 C.2.1 dX9_isWord_0 rfl (lv_at hl 1 rfl) ?_
  refine r_iconst 0 C dX9_isWord_1 rfl ?_
  refine lv_aload_n C.1 C.2.1 dX9_isWord_2 rfl (lv_at hl 0 rfl) ?_
  refine r_get C hK hP kw_X9 (ci := 7) rfl 0 7 (by decide) kf_X9_61 rfl rfl dX9_isWord_3 ?_
  refine ro_callV (As := []) (rest := [nV 0, zV x]) C hK (c_X8_words l g v v0 v1 v2 v3 v4 k nc nb bi mo) (hP.sub (ws' := [(v, .inr (6, [.ref v0, .ref v1, .ref v2, .ref v3, .ref v4, nV k, nV nc, nV nb, nV bi, nV mo]))]) [1] rfl) (ci := 6) (q0 := 0) rfl rfl kc_X8_words kl_X9_95 kn_X8 ki_X8_words ke_X8_words nk_X8_words (rm_lt (by decide) (by decide)) hl rfl (Nat.le_of_ble_eq_true rfl) dX9_isWord_6 (fun r_1 hr_2 => ?_)
  subst hr_2
  refine r_iconst 1 C dX9_isWord_9 rfl ?_
  refine r_subZ C dX9_isWord_10 ?_
  refine ro_callS (As := [zV x, nV 0, zV (((k : Nat) : Int) - ((1 : Nat) : Int))]) (rest := []) C hK (c_X9_within l g x ((0 : Nat) : Int) (((k : Nat) : Int) - ((1 : Nat) : Int)) (by first | assumption | exact ⟨by omega, by omega⟩) (by first | assumption | exact ⟨by omega, by omega⟩) (by first | assumption | exact ⟨by omega, by omega⟩)) (hP.sub (ws' := []) [] rfl) kc_X9_within kl_X9_72 kn_X9 ks_X9_within nk_X9_within (rm_lt (by decide) (by decide)) hl rfl (Nat.le_of_ble_eq_true rfl) dX9_isWord_11 (fun r_3 hr_4 => ?_)
  subst hr_4
  exact ret dX9_isWord_14 bI_nar (bI_congr (by omega))
set_option maxHeartbeats 4000000 in
set_option maxRecDepth 100000 in
theorem c_X9_isCarrier (l : Launch) (g : GG) (x0 : Nat) (t : Nat) (rd0 : Nat) (q : Nat) (us : Nat) (ks : Nat) (rc0 : Nat) (se : Nat) (v : Nat) (vd : Nat) (v0 : Nat) (v1 : Nat) (v2 : Nat) (v3 : Nat) (v4 : Nat) (k : Nat) (nc : Nat) (nb : Nat) (bi : Nat) (mo : Nat) (x : Int) (hnc : nc ≤ 5) (hx : rg x) : ROi g l yX9_isCarrier cX9_isCarrier 2 (some .boolean) 2 [(x0, .inr (7, [.ref t, .ref rd0, .ref q, .ref us, .ref ks, .ref rc0, .ref se, .ref v, .ref vd])), (v, .inr (6, [.ref v0, .ref v1, .ref v2, .ref v3, .ref v4, nV k, nV nc, nV nb, nV bi, nV mo]))] [.ref x0, zV x] (fun r => r = bI (0 ≤ x ∧ x < (nc : Int))) := by
  refine ro_startZ (by decide +kernel) (Nat.le_of_ble_eq_true rfl) ?_
  intro p e s m args below meth c Q ls C hK hP ret hl
  have C : CT p s m args meth c cX9_isCarrier RX9 2 := C
  have hl : lv_has ls 2 [(0, .ref x0), (1, zV x)] := hl
  refine lv_iload_n C.1 C.2.1 dX9_isCarrier_0 rfl (lv_at hl 1 rfl) ?_
  refine r_iconst 0 C dX9_isCarrier_1 rfl ?_
  refine lv_aload_n C.1 C.2.1 dX9_isCarrier_2 rfl (lv_at hl 0 rfl) ?_
  refine r_get C hK hP kw_X9 (ci := 7) rfl 0 7 (by decide) kf_X9_61 rfl rfl dX9_isCarrier_3 ?_
  refine ro_callV (As := []) (rest := [nV 0, zV x]) C hK (c_X8_carriers l g v v0 v1 v2 v3 v4 k nc nb bi mo) (hP.sub (ws' := [(v, .inr (6, [.ref v0, .ref v1, .ref v2, .ref v3, .ref v4, nV k, nV nc, nV nb, nV bi, nV mo]))]) [1] rfl) (ci := 6) (q0 := 0) rfl rfl kc_X8_carriers kl_X9_234 kn_X8 ki_X8_carriers ke_X8_carriers nk_X8_carriers (rm_lt (by decide) (by decide)) hl rfl (Nat.le_of_ble_eq_true rfl) dX9_isCarrier_6 (fun r_1 hr_2 => ?_)
  subst hr_2
  refine r_iconst 1 C dX9_isCarrier_9 rfl ?_
  refine r_subZ C dX9_isCarrier_10 ?_
  refine ro_callS (As := [zV x, nV 0, zV (((nc : Nat) : Int) - ((1 : Nat) : Int))]) (rest := []) C hK (c_X9_within l g x ((0 : Nat) : Int) (((nc : Nat) : Int) - ((1 : Nat) : Int)) (by first | assumption | exact ⟨by omega, by omega⟩) (by first | assumption | exact ⟨by omega, by omega⟩) (by first | assumption | exact ⟨by omega, by omega⟩)) (hP.sub (ws' := []) [] rfl) kc_X9_within kl_X9_72 kn_X9 ks_X9_within nk_X9_within (rm_lt (by decide) (by decide)) hl rfl (Nat.le_of_ble_eq_true rfl) dX9_isCarrier_11 (fun r_3 hr_4 => ?_)
  subst hr_4
  exact ret dX9_isCarrier_14 bI_nar (bI_congr (by omega))
set_option maxHeartbeats 4000000 in
set_option maxRecDepth 100000 in
theorem c_X9_wordBehind (l : Launch) (g : GG) (x0 : Nat) (t : Nat) (rd0 : Nat) (q : Nat) (us : Nat) (ks : Nat) (rc0 : Nat) (se : Nat) (v : Nat) (vd : Nat) (v0 : Nat) (v1 : Nat) (v2 : Nat) (v3 : Nat) (v4 : Nat) (k : Nat) (nc : Nat) (nb : Nat) (bi : Nat) (mo : Nat) (x : Nat) (hk : k ≤ 8) (hx : x < k) : ROi g l yX9_wordBehind cX9_wordBehind 2 (some .int) 2 [(x0, .inr (7, [.ref t, .ref rd0, .ref q, .ref us, .ref ks, .ref rc0, .ref se, .ref v, .ref vd])), (v, .inr (6, [.ref v0, .ref v1, .ref v2, .ref v3, .ref v4, nV k, nV nc, nV nb, nV bi, nV mo]))] [.ref x0, nV x] (fun r => r = iI (((x + 1) % k : Nat) : Int)) := by
  refine ro_startI (by decide +kernel) (Nat.le_of_ble_eq_true rfl) ?_
  intro p e s m args below meth c Q ls C hK hP ret hl
  have C : CT p s m args meth c cX9_wordBehind RX9 2 := C
  have hl : lv_has ls 2 [(0, .ref x0), (1, nV x)] := hl
  refine lv_iload_n C.1 C.2.1 dX9_wordBehind_0 rfl (lv_at hl 1 rfl) ?_
  refine r_iconst 1 C dX9_wordBehind_1 rfl ?_
  refine r_addN C dX9_wordBehind_2 ?_
  refine lv_aload_n C.1 C.2.1 dX9_wordBehind_3 rfl (lv_at hl 0 rfl) ?_
  refine r_get C hK hP kw_X9 (ci := 7) rfl 0 7 (by decide) kf_X9_61 rfl rfl dX9_wordBehind_4 ?_
  refine ro_callV (As := []) (rest := [nV (x + 1)]) C hK (c_X8_words l g v v0 v1 v2 v3 v4 k nc nb bi mo) (hP.sub (ws' := [(v, .inr (6, [.ref v0, .ref v1, .ref v2, .ref v3, .ref v4, nV k, nV nc, nV nb, nV bi, nV mo]))]) [1] rfl) (ci := 6) (q0 := 0) rfl rfl kc_X8_words kl_X9_95 kn_X8 ki_X8_words ke_X8_words nk_X8_words (rm_lt (by decide) (by decide)) hl rfl (Nat.le_of_ble_eq_true rfl) dX9_wordBehind_7 (fun r_1 hr_2 => ?_)
  subst hr_2
  refine r_cge 19 C dX9_wordBehind_10 rfl ⟨rgN (by omega), rgN (by omega)⟩ (fun h_3 => ?_) (fun h_3 => ?_)
  · skip
    refine r_iconst 0 C dX9_wordBehind_19 rfl ?_
    exact ret dX9_wordBehind_20 (iI_cast (congrArg (fun q : Nat => (q : Int)) (by rw [show x + 1 = k by omega, Nat.mod_self])))
  refine lv_iload_n C.1 C.2.1 dX9_wordBehind_13 rfl (lv_at hl 1 rfl) ?_
  refine r_iconst 1 C dX9_wordBehind_14 rfl ?_
  refine r_addN C dX9_wordBehind_15 ?_
  refine r_goto 20 C dX9_wordBehind_16 rfl ?_
  exact ret dX9_wordBehind_20 (iI_cast (congrArg (fun q : Nat => (q : Int)) (Nat.mod_eq_of_lt (by omega)).symm))
set_option maxHeartbeats 4000000 in
set_option maxRecDepth 100000 in
theorem c_X9_signNow (l : Launch) (g : GG) (x0 : Nat) (t : Nat) (rd0 : Nat) (q : Nat) (us : Nat) (ks : Nat) (rc0 : Nat) (se : Nat) (v : Nat) (vd : Nat) (q0 : Nat) (ce : Nat → Nat) (v0 : Nat) (v1 : Nat) (v2 : Nat) (v3 : Nat) (v4 : Nat) (k : Nat) (nc : Nat) (nb : Nat) (bi : Nat) (mo : Nat) (x : Nat) (hbm : (1 ≤ bi ∧ bi ≤ 9) ∧ (1 ≤ mo ∧ mo ≤ 9)) (hlo : LOK ce) (hx : x < ce 40) : ROi g l yX9_signNow cX9_signNow 5 (some .int) 4 [(x0, .inr (7, [.ref t, .ref rd0, .ref q, .ref us, .ref ks, .ref rc0, .ref se, .ref v, .ref vd])), (q, .inr (1, [.ref q0])), (q0, cN g 42 ce), (v, .inr (6, [.ref v0, .ref v1, .ref v2, .ref v3, .ref v4, nV k, nV nc, nV nb, nV bi, nV mo]))] [.ref x0, nV x] (fun r => r = iI ((sNow bi mo ce x : Nat) : Int)) := by
  refine ro_startI (by decide +kernel) (Nat.le_of_ble_eq_true rfl) ?_
  intro p e s m args below meth c Q ls C hK hP ret hl
  have C : CT p s m args meth c cX9_signNow RX9 5 := C
  have hl : lv_has ls 5 [(0, .ref x0), (1, nV x)] := hl
  have hpt := hlo.2 x hx
  have h40 := hlo.1
  refine lv_aload_n C.1 C.2.1 dX9_signNow_0 rfl (lv_at hl 0 rfl) ?_
  refine r_get C hK hP kw_X9 (ci := 7) rfl 0 2 (by decide) kf_X9_26 rfl rfl dX9_signNow_1 ?_
  refine lv_iload_n C.1 C.2.1 dX9_signNow_4 rfl (lv_at hl 1 rfl) ?_
  refine r_iconst 1 C dX9_signNow_5 rfl ?_
  refine ro_callV (As := [nV x, nV 1]) (rest := []) C hK (c_X1_part l g q q0 ce x 1 (by first | assumption | omega) (by first | assumption | omega) (by first | assumption | omega)) (hP.sub (ws' := [(q, .inr (1, [.ref q0])), (q0, cN g 42 ce)]) [1, 2] rfl) (ci := 1) (q0 := 0) rfl rfl kc_X1_part kl_X9_146 kn_X1 ki_X1_part ke_X1_part nk_X1_part (rm_lt (by decide) (by decide)) hl rfl (Nat.le_of_ble_eq_true rfl) dX9_signNow_6 (fun r_1 hr_2 => ?_)
  subst hr_2
  refine lv_istore_n (lv' := [(2, nV (ce (x * 5 + 1))), (0, .ref x0), (1, nV x)]) C.1 C.2.1 dX9_signNow_9 rfl hl (by decide) rfl (fun ls hl => ?_)
  refine lv_aload_n C.1 C.2.1 dX9_signNow_10 rfl (lv_at hl 1 rfl) ?_
  refine r_get C hK hP kw_X9 (ci := 7) rfl 0 2 (by decide) kf_X9_26 rfl rfl dX9_signNow_11 ?_
  refine lv_iload_n C.1 C.2.1 dX9_signNow_14 rfl (lv_at hl 2 rfl) ?_
  refine r_iconst 2 C dX9_signNow_15 rfl ?_
  refine ro_callV (As := [nV x, nV 2]) (rest := []) C hK (c_X1_part l g q q0 ce x 2 (by first | assumption | omega) (by first | assumption | omega) (by first | assumption | omega)) (hP.sub (ws' := [(q, .inr (1, [.ref q0])), (q0, cN g 42 ce)]) [1, 2] rfl) (ci := 1) (q0 := 0) rfl rfl kc_X1_part kl_X9_146 kn_X1 ki_X1_part ke_X1_part nk_X1_part (rm_lt (by decide) (by decide)) hl rfl (Nat.le_of_ble_eq_true rfl) dX9_signNow_16 (fun r_3 hr_4 => ?_)
  subst hr_4
  refine lv_istore_n (lv' := [(3, nV (ce (x * 5 + 2))), (2, nV (ce (x * 5 + 1))), (0, .ref x0), (1, nV x)]) C.1 C.2.1 dX9_signNow_19 rfl hl (by decide) rfl (fun ls hl => ?_)
  refine lv_aload_n C.1 C.2.1 dX9_signNow_20 rfl (lv_at hl 2 rfl) ?_
  refine r_get C hK hP kw_X9 (ci := 7) rfl 0 2 (by decide) kf_X9_26 rfl rfl dX9_signNow_21 ?_
  refine lv_iload_n C.1 C.2.1 dX9_signNow_24 rfl (lv_at hl 3 rfl) ?_
  refine r_iconst 3 C dX9_signNow_25 rfl ?_
  refine ro_callV (As := [nV x, nV 3]) (rest := []) C hK (c_X1_part l g q q0 ce x 3 (by first | assumption | omega) (by first | assumption | omega) (by first | assumption | omega)) (hP.sub (ws' := [(q, .inr (1, [.ref q0])), (q0, cN g 42 ce)]) [1, 2] rfl) (ci := 1) (q0 := 0) rfl rfl kc_X1_part kl_X9_146 kn_X1 ki_X1_part ke_X1_part nk_X1_part (rm_lt (by decide) (by decide)) hl rfl (Nat.le_of_ble_eq_true rfl) dX9_signNow_26 (fun r_5 hr_6 => ?_)
  subst hr_6
  refine lv_istore (lv' := [(4, nV (ce (x * 5 + 3))), (3, nV (ce (x * 5 + 2))), (2, nV (ce (x * 5 + 1))), (0, .ref x0), (1, nV x)]) C.1 C.2.1 dX9_signNow_29 hl (by decide) rfl (fun ls hl => ?_)
  refine lv_aload_n C.1 C.2.1 dX9_signNow_31 rfl (lv_at hl 3 rfl) ?_
  refine r_get C hK hP kw_X9 (ci := 7) rfl 0 7 (by decide) kf_X9_61 rfl rfl dX9_signNow_32 ?_
  refine lv_aload_n C.1 C.2.1 dX9_signNow_35 rfl (lv_at hl 3 rfl) ?_
  refine r_get C hK hP kw_X9 (ci := 7) rfl 0 2 (by decide) kf_X9_26 rfl rfl dX9_signNow_36 ?_
  refine lv_iload_n C.1 C.2.1 dX9_signNow_39 rfl (lv_at hl 4 rfl) ?_
  refine r_iconst 4 C dX9_signNow_40 rfl ?_
  refine ro_callV (As := [nV x, nV 4]) (rest := [.ref v]) C hK (c_X1_part l g q q0 ce x 4 (by first | assumption | omega) (by first | assumption | omega) (by first | assumption | omega)) (hP.sub (ws' := [(q, .inr (1, [.ref q0])), (q0, cN g 42 ce)]) [1, 2] rfl) (ci := 1) (q0 := 0) rfl rfl kc_X1_part kl_X9_146 kn_X1 ki_X1_part ke_X1_part nk_X1_part (rm_lt (by decide) (by decide)) hl rfl (Nat.le_of_ble_eq_true rfl) dX9_signNow_41 (fun r_7 hr_8 => ?_)
  subst hr_8
  refine lv_iload_n C.1 C.2.1 dX9_signNow_44 rfl (lv_at hl 2 rfl) ?_
  refine r_iconst 1 C dX9_signNow_45 rfl ?_
  refine r_cne 55 C dX9_signNow_46 rfl ⟨rgN (by omega), rgN (by decide)⟩ (fun g1 => ?_) (fun g1 => ?_)
  · skip
    refine lv_iload_n C.1 C.2.1 dX9_signNow_55 rfl (lv_at hl 1 rfl) ?_
    refine lv_iload_n C.1 C.2.1 dX9_signNow_56 rfl (lv_at hl 2 rfl) ?_
    refine r_iconst 2 C dX9_signNow_57 rfl ?_
    refine r_cne 65 C dX9_signNow_58 rfl ⟨rgN (by omega), rgN (by decide)⟩ (fun g2 => ?_) (fun g2 => ?_)
    · skip
      refine lv_iload C.1 C.2.1 dX9_signNow_65 (lv_at hl 0 rfl) ?_
      refine ro_callV (As := [nV (ce (x * 5 + 4)), nV (ce (x * 5 + 2)), nV (ce (x * 5 + 3))]) (rest := []) C hK (c_X8_turned l g v v0 v1 v2 v3 v4 k nc nb bi mo (ce (x * 5 + 4)) (ce (x * 5 + 2)) (ce (x * 5 + 3)) (by first | assumption | omega) (by first | assumption | omega) (by first | assumption | omega) (by first | assumption | omega)) (hP.sub (ws' := [(v, .inr (6, [.ref v0, .ref v1, .ref v2, .ref v3, .ref v4, nV k, nV nc, nV nb, nV bi, nV mo]))]) [3] rfl) (ci := 6) (q0 := 0) rfl rfl kc_X8_turned kl_X9_172 kn_X8 ki_X8_turned ke_X8_turned nk_X8_turned (rm_lt (by decide) (by decide)) hl rfl (Nat.le_of_ble_eq_true rfl) dX9_signNow_67 (fun r_9 hr_10 => ?_)
      subst hr_10
      have hf_11 := tn_bd (bi) (mo) ((ce (x * 5 + 4))) ((ce (x * 5 + 2))) ((ce (x * 5 + 3))) (by omega)
      exact ret dX9_signNow_70 (by unfold sNow; first | rw [if_pos (by omega), if_pos (by omega)] | rw [if_pos (by omega), if_neg (by omega)] | rw [if_neg (by omega), if_pos (by omega)] | rw [if_neg (by omega), if_neg (by omega)])
    refine r_iconst 0 C dX9_signNow_61 rfl ?_
    refine r_goto 67 C dX9_signNow_62 rfl ?_
    refine ro_callV (As := [nV (ce (x * 5 + 4)), nV (ce (x * 5 + 2)), nV 0]) (rest := []) C hK (c_X8_turned l g v v0 v1 v2 v3 v4 k nc nb bi mo (ce (x * 5 + 4)) (ce (x * 5 + 2)) 0 (by first | assumption | omega) (by first | assumption | omega) (by first | assumption | omega) (by first | assumption | omega)) (hP.sub (ws' := [(v, .inr (6, [.ref v0, .ref v1, .ref v2, .ref v3, .ref v4, nV k, nV nc, nV nb, nV bi, nV mo]))]) [3] rfl) (ci := 6) (q0 := 0) rfl rfl kc_X8_turned kl_X9_172 kn_X8 ki_X8_turned ke_X8_turned nk_X8_turned (rm_lt (by decide) (by decide)) hl rfl (Nat.le_of_ble_eq_true rfl) dX9_signNow_67 (fun r_12 hr_13 => ?_)
    subst hr_13
    have hf_14 := tn_bd (bi) (mo) ((ce (x * 5 + 4))) ((ce (x * 5 + 2))) (0) (by omega)
    exact ret dX9_signNow_70 (by unfold sNow; first | rw [if_pos (by omega), if_pos (by omega)] | rw [if_pos (by omega), if_neg (by omega)] | rw [if_neg (by omega), if_pos (by omega)] | rw [if_neg (by omega), if_neg (by omega)])
  refine lv_iload_n C.1 C.2.1 dX9_signNow_49 rfl (lv_at hl 1 rfl) ?_
  refine r_iconst 2 C dX9_signNow_50 rfl ?_
  refine r_divN C dX9_signNow_51 (by omega) (by decide) ?_
  refine r_goto 56 C dX9_signNow_52 rfl ?_
  refine lv_iload_n C.1 C.2.1 dX9_signNow_56 rfl (lv_at hl 2 rfl) ?_
  refine r_iconst 2 C dX9_signNow_57 rfl ?_
  refine r_cne 65 C dX9_signNow_58 rfl ⟨rgN (by omega), rgN (by decide)⟩ (fun g2 => ?_) (fun g2 => ?_)
  · skip
    refine lv_iload C.1 C.2.1 dX9_signNow_65 (lv_at hl 0 rfl) ?_
    refine ro_callV (As := [nV (ce (x * 5 + 4)), nV ((ce (x * 5 + 2)) / 2), nV (ce (x * 5 + 3))]) (rest := []) C hK (c_X8_turned l g v v0 v1 v2 v3 v4 k nc nb bi mo (ce (x * 5 + 4)) ((ce (x * 5 + 2)) / 2) (ce (x * 5 + 3)) (by first | assumption | omega) (by first | assumption | omega) (by first | assumption | omega) (by first | assumption | omega)) (hP.sub (ws' := [(v, .inr (6, [.ref v0, .ref v1, .ref v2, .ref v3, .ref v4, nV k, nV nc, nV nb, nV bi, nV mo]))]) [3] rfl) (ci := 6) (q0 := 0) rfl rfl kc_X8_turned kl_X9_172 kn_X8 ki_X8_turned ke_X8_turned nk_X8_turned (rm_lt (by decide) (by decide)) hl rfl (Nat.le_of_ble_eq_true rfl) dX9_signNow_67 (fun r_15 hr_16 => ?_)
    subst hr_16
    have hf_17 := tn_bd (bi) (mo) ((ce (x * 5 + 4))) (((ce (x * 5 + 2)) / 2)) ((ce (x * 5 + 3))) (by omega)
    exact ret dX9_signNow_70 (by unfold sNow; first | rw [if_pos (by omega), if_pos (by omega)] | rw [if_pos (by omega), if_neg (by omega)] | rw [if_neg (by omega), if_pos (by omega)] | rw [if_neg (by omega), if_neg (by omega)])
  refine r_iconst 0 C dX9_signNow_61 rfl ?_
  refine r_goto 67 C dX9_signNow_62 rfl ?_
  refine ro_callV (As := [nV (ce (x * 5 + 4)), nV ((ce (x * 5 + 2)) / 2), nV 0]) (rest := []) C hK (c_X8_turned l g v v0 v1 v2 v3 v4 k nc nb bi mo (ce (x * 5 + 4)) ((ce (x * 5 + 2)) / 2) 0 (by first | assumption | omega) (by first | assumption | omega) (by first | assumption | omega) (by first | assumption | omega)) (hP.sub (ws' := [(v, .inr (6, [.ref v0, .ref v1, .ref v2, .ref v3, .ref v4, nV k, nV nc, nV nb, nV bi, nV mo]))]) [3] rfl) (ci := 6) (q0 := 0) rfl rfl kc_X8_turned kl_X9_172 kn_X8 ki_X8_turned ke_X8_turned nk_X8_turned (rm_lt (by decide) (by decide)) hl rfl (Nat.le_of_ble_eq_true rfl) dX9_signNow_67 (fun r_18 hr_19 => ?_)
  subst hr_19
  have hf_20 := tn_bd (bi) (mo) ((ce (x * 5 + 4))) (((ce (x * 5 + 2)) / 2)) (0) (by omega)
  exact ret dX9_signNow_70 (by unfold sNow; first | rw [if_pos (by omega), if_pos (by omega)] | rw [if_pos (by omega), if_neg (by omega)] | rw [if_neg (by omega), if_pos (by omega)] | rw [if_neg (by omega), if_neg (by omega)])
set_option maxHeartbeats 4000000 in
set_option maxRecDepth 100000 in
theorem c_X9_readingOf (l : Launch) (g : GG) (x0 : Nat) (t : Nat) (rd0 : Nat) (q : Nat) (us : Nat) (ks : Nat) (rc0 : Nat) (se : Nat) (v : Nat) (vd : Nat) (q0 : Nat) (ce : Nat → Nat) (v0 : Nat) (v1 : Nat) (v2 : Nat) (v3 : Nat) (v4 : Nat) (sg : Nat → Nat) (k : Nat) (nc : Nat) (nb : Nat) (bi : Nat) (mo : Nat) (x : Nat) (hbm : (1 ≤ bi ∧ bi ≤ 9) ∧ (1 ≤ mo ∧ mo ≤ 9)) (hsg : ∀ j, sg j < 72) (hk : k ≤ 8) (hlo : LOK ce) (hx : x < ce 40) : ROi g l yX9_readingOf cX9_readingOf 2 (some .int) 5 [(x0, .inr (7, [.ref t, .ref rd0, .ref q, .ref us, .ref ks, .ref rc0, .ref se, .ref v, .ref vd])), (q, .inr (1, [.ref q0])), (q0, cN g 42 ce), (v, .inr (6, [.ref v0, .ref v1, .ref v2, .ref v3, .ref v4, nV k, nV nc, nV nb, nV bi, nV mo])), (v0, cN g 8 sg)] [.ref x0, nV x] (fun r => r = iI (rd sg k (sNow bi mo ce x))) := by
  refine ro_startI (by decide +kernel) (Nat.le_of_ble_eq_true rfl) ?_
  intro p e s m args below meth c Q ls C hK hP ret hl
  have C : CT p s m args meth c cX9_readingOf RX9 2 := C
  have hl : lv_has ls 2 [(0, .ref x0), (1, nV x)] := hl
  refine lv_aload_n C.1 C.2.1 dX9_readingOf_0 rfl (lv_at hl 0 rfl) ?_
  refine r_get C hK hP kw_X9 (ci := 7) rfl 0 7 (by decide) kf_X9_61 rfl rfl dX9_readingOf_1 ?_
  refine lv_aload_n C.1 C.2.1 dX9_readingOf_4 rfl (lv_at hl 0 rfl) ?_
  refine lv_iload_n C.1 C.2.1 dX9_readingOf_5 rfl (lv_at hl 1 rfl) ?_
  refine ro_callV (As := [nV x]) (rest := [.ref v]) C hK (c_X9_signNow l g x0 t rd0 q us ks rc0 se v vd q0 ce v0 v1 v2 v3 v4 k nc nb bi mo x (by first | assumption | omega) (by first | assumption | omega) (by first | assumption | omega)) (hP.sub (ws' := [(x0, .inr (7, [.ref t, .ref rd0, .ref q, .ref us, .ref ks, .ref rc0, .ref se, .ref v, .ref vd])), (q, .inr (1, [.ref q0])), (q0, cN g 42 ce), (v, .inr (6, [.ref v0, .ref v1, .ref v2, .ref v3, .ref v4, nV k, nV nc, nV nb, nV bi, nV mo]))]) [0, 1, 2, 3] rfl) (ci := 7) (q0 := 0) rfl rfl kc_X9_signNow kl_X9_162 kn_X9 ki_X9_signNow ke_X9_signNow nk_X9_signNow (rm_lt (by decide) (by decide)) hl rfl (Nat.le_of_ble_eq_true rfl) dX9_readingOf_6 (fun r_1 hr_2 => ?_)
  subst hr_2
  have hf_3 := sNow_bd (bi := bi) (mo := mo) hlo (show x < ce 40 by omega)
  refine ro_callV (As := [nV (sNow bi mo ce x)]) (rest := []) C hK (c_X8_readAs l g v v0 v1 v2 v3 v4 sg k nc nb bi mo (sNow bi mo ce x) (by first | assumption | omega) (by first | assumption | omega) (by first | assumption | omega)) (hP.sub (ws' := [(v, .inr (6, [.ref v0, .ref v1, .ref v2, .ref v3, .ref v4, nV k, nV nc, nV nb, nV bi, nV mo])), (v0, cN g 8 sg)]) [3, 4] rfl) (ci := 6) (q0 := 0) rfl rfl kc_X8_readAs kl_X9_257 kn_X8 ki_X8_readAs ke_X8_readAs nk_X8_readAs (rm_lt (by decide) (by decide)) hl rfl (Nat.le_of_ble_eq_true rfl) dX9_readingOf_9 (fun r_4 hr_5 => ?_)
  subst hr_5
  have hf_6 := rd_bd sg (k) ((sNow bi mo ce x))
  exact ret dX9_readingOf_12 (by first | rfl | exact iI_cast (by omega) | exact congrArg lI (by omega) | omega)
set_option maxHeartbeats 4000000 in
set_option maxRecDepth 100000 in
theorem c_X9_word (l : Launch) (g : GG) (x0 : Nat) (t : Nat) (rd0 : Nat) (q : Nat) (us : Nat) (ks : Nat) (rc0 : Nat) (se : Nat) (v : Nat) (vd : Nat) (v0 : Nat) (v1 : Nat) (v2 : Nat) (v3 : Nat) (v4 : Nat) (sg : Nat → Nat) (wo : Nat → Nat) (k : Nat) (nc : Nat) (nb : Nat) (bi : Nat) (mo : Nat) (x : Int) (y : Int) (hk : k ≤ 8) (hsg : ∀ j, sg j < 72) (hx : rg x) (hy : rg y) : ROi g l yX9_word cX9_word 3 (some .int) 4 [(x0, .inr (7, [.ref t, .ref rd0, .ref q, .ref us, .ref ks, .ref rc0, .ref se, .ref v, .ref vd])), (v, .inr (6, [.ref v0, .ref v1, .ref v2, .ref v3, .ref v4, nV k, nV nc, nV nb, nV bi, nV mo])), (v0, cN g 8 sg), (v1, cN g 8 wo)] [.ref x0, zV x, zV y] (fun r => r = iI (sWord sg wo k x y)) := by
  refine ro_startI (by decide +kernel) (Nat.le_of_ble_eq_true rfl) ?_
  intro p e s m args below meth c Q ls C hK hP ret hl
  have C : CT p s m args meth c cX9_word RX9 3 := C
  have hl : lv_has ls 3 [(0, .ref x0), (1, zV x), (2, zV y)] := hl
  refine lv_aload_n C.1 C.2.1 dX9_word_0 rfl (lv_at hl 0 rfl) ?_
  refine lv_iload_n C.1 C.2.1 dX9_word_1 rfl (lv_at hl 1 rfl) ?_
  refine ro_callV (As := [zV x]) (rest := []) C hK (c_X9_isWord l g x0 t rd0 q us ks rc0 se v vd v0 v1 v2 v3 v4 k nc nb bi mo x (by first | assumption | omega) (by first | assumption | exact ⟨by omega, by omega⟩)) (hP.sub (ws' := [(x0, .inr (7, [.ref t, .ref rd0, .ref q, .ref us, .ref ks, .ref rc0, .ref se, .ref v, .ref vd])), (v, .inr (6, [.ref v0, .ref v1, .ref v2, .ref v3, .ref v4, nV k, nV nc, nV nb, nV bi, nV mo]))]) [0, 1] rfl) (ci := 7) (q0 := 0) rfl rfl kc_X9_isWord kl_X9_100 kn_X9 ki_X9_isWord ke_X9_isWord nk_X9_isWord (rm_lt (by decide) (by decide)) hl rfl (Nat.le_of_ble_eq_true rfl) dX9_word_2 (fun r_1 hr_2 => ?_)
  subst hr_2
  refine r_bne 10 C dX9_word_5 rfl (fun h_3 => ?_) (fun h_3 => ?_)
  · skip
    obtain ⟨xn, rfl⟩ : ∃ n : Nat, x = (n : Int) := ⟨x.toNat, by omega⟩
    have hl : lv_has ls 3 [(0, .ref x0), (1, nV xn), (2, zV y)] := hl
    refine lv_iload_n C.1 C.2.1 dX9_word_10 rfl (lv_at hl 2 rfl) ?_
    by_cases hs_4 : y = 0
    · refine r_tsw 0 36 C dX9_word_11 (⟨by omega, by omega⟩) (by omega) (by decide) rfl rfl ?_
      refine lv_aload_n C.1 C.2.1 dX9_word_36 rfl (lv_at hl 0 rfl) ?_
      refine r_get C hK hP kw_X9 (ci := 7) rfl 0 7 (by decide) kf_X9_61 rfl rfl dX9_word_37 ?_
      refine lv_iload_n C.1 C.2.1 dX9_word_40 rfl (lv_at hl 1 rfl) ?_
      refine ro_callV (As := [nV xn]) (rest := []) C hK (c_X8_signOf l g v v0 v1 v2 v3 v4 sg k nc nb bi mo xn (by first | assumption | omega)) (hP.sub (ws' := [(v, .inr (6, [.ref v0, .ref v1, .ref v2, .ref v3, .ref v4, nV k, nV nc, nV nb, nV bi, nV mo])), (v0, cN g 8 sg)]) [1, 2] rfl) (ci := 6) (q0 := 0) rfl rfl kc_X8_signOf kl_X9_103 kn_X8 ki_X8_signOf ke_X8_signOf nk_X8_signOf (rm_lt (by decide) (by decide)) hl rfl (Nat.le_of_ble_eq_true rfl) dX9_word_41 (fun r_5 hr_6 => ?_)
      subst hr_6
      have hf_7 := hsg (xn)
      exact ret dX9_word_44 (by unfold sWord; rw [if_pos (by omega), if_pos (by omega)]; rfl)
    by_cases hs_8 : y = 1
    · refine r_tsw 1 45 C dX9_word_11 (⟨by omega, by omega⟩) (by omega) (by decide) rfl rfl ?_
      refine lv_aload_n C.1 C.2.1 dX9_word_45 rfl (lv_at hl 0 rfl) ?_
      refine r_get C hK hP kw_X9 (ci := 7) rfl 0 7 (by decide) kf_X9_61 rfl rfl dX9_word_46 ?_
      refine lv_iload_n C.1 C.2.1 dX9_word_49 rfl (lv_at hl 1 rfl) ?_
      refine ro_callV (As := [nV xn]) (rest := []) C hK (c_X8_worthOf l g v v0 v1 v2 v3 v4 wo k nc nb bi mo xn (by first | assumption | omega)) (hP.sub (ws' := [(v, .inr (6, [.ref v0, .ref v1, .ref v2, .ref v3, .ref v4, nV k, nV nc, nV nb, nV bi, nV mo])), (v1, cN g 8 wo)]) [1, 3] rfl) (ci := 6) (q0 := 0) rfl rfl kc_X8_worthOf kl_X9_107 kn_X8 ki_X8_worthOf ke_X8_worthOf nk_X8_worthOf (rm_lt (by decide) (by decide)) hl rfl (Nat.le_of_ble_eq_true rfl) dX9_word_50 (fun r_9 hr_10 => ?_)
      subst hr_10
      exact ret dX9_word_53 (by unfold sWord; rw [if_pos (by omega), if_neg (by omega), if_pos (by omega)]; rfl)
    by_cases hs_11 : y = 2
    · refine r_tsw 2 54 C dX9_word_11 (⟨by omega, by omega⟩) (by omega) (by decide) rfl rfl ?_
      refine lv_aload_n C.1 C.2.1 dX9_word_54 rfl (lv_at hl 0 rfl) ?_
      refine r_get C hK hP kw_X9 (ci := 7) rfl 0 7 (by decide) kf_X9_61 rfl rfl dX9_word_55 ?_
      refine lv_iload_n C.1 C.2.1 dX9_word_58 rfl (lv_at hl 1 rfl) ?_
      refine ro_callV (As := [nV xn]) (rest := []) C hK (c_X8_signOf l g v v0 v1 v2 v3 v4 sg k nc nb bi mo xn (by first | assumption | omega)) (hP.sub (ws' := [(v, .inr (6, [.ref v0, .ref v1, .ref v2, .ref v3, .ref v4, nV k, nV nc, nV nb, nV bi, nV mo])), (v0, cN g 8 sg)]) [1, 2] rfl) (ci := 6) (q0 := 0) rfl rfl kc_X8_signOf kl_X9_103 kn_X8 ki_X8_signOf ke_X8_signOf nk_X8_signOf (rm_lt (by decide) (by decide)) hl rfl (Nat.le_of_ble_eq_true rfl) dX9_word_59 (fun r_12 hr_13 => ?_)
      subst hr_13
      have hf_14 := hsg (xn)
      refine ro_callS (As := [nV (sg xn)]) (rest := []) C hK (c_X6_flour l g (sg xn) (by first | assumption | omega)) (hP.sub (ws' := []) [] rfl) kc_X6_flour kl_X9_110 kn_X6 ks_X6_flour nk_X6_flour (rm_lt (by decide) (by decide)) hl rfl (Nat.le_of_ble_eq_true rfl) dX9_word_62 (fun r_15 hr_16 => ?_)
      subst hr_16
      exact ret dX9_word_65 (by unfold sWord; rw [if_pos (by omega), if_neg (by omega), if_neg (by omega)]; rfl)
    refine r_tswD 66 C dX9_word_11 (⟨by omega, by omega⟩) (by omega) rfl ?_
    refine r_iconstZ C dX9_word_66 ?_
    exact ret dX9_word_67 (by unfold sWord; rw [if_neg (by omega)])
  refine r_iconstZ C dX9_word_8 ?_
  exact ret dX9_word_9 (by unfold sWord; rw [if_neg (by omega)])
set_option maxHeartbeats 4000000 in
set_option maxRecDepth 100000 in
theorem c_X9_loaf (l : Launch) (g : GG) (x0 : Nat) (t : Nat) (rd0 : Nat) (q : Nat) (us : Nat) (ks : Nat) (rc0 : Nat) (se : Nat) (v : Nat) (vd : Nat) (q0 : Nat) (ce : Nat → Nat) (v0 : Nat) (v1 : Nat) (v2 : Nat) (v3 : Nat) (v4 : Nat) (sg : Nat → Nat) (k : Nat) (nc : Nat) (nb : Nat) (bi : Nat) (mo : Nat) (x : Int) (y : Int) (hbm : (1 ≤ bi ∧ bi ≤ 9) ∧ (1 ≤ mo ∧ mo ≤ 9)) (hsg : ∀ j, sg j < 72) (hk : k ≤ 8) (hlo : LOK ce) (hx : rg x) (hy : rg y) : ROi g l yX9_loaf cX9_loaf 3 (some .int) 6 [(x0, .inr (7, [.ref t, .ref rd0, .ref q, .ref us, .ref ks, .ref rc0, .ref se, .ref v, .ref vd])), (q, .inr (1, [.ref q0])), (q0, cN g 42 ce), (v, .inr (6, [.ref v0, .ref v1, .ref v2, .ref v3, .ref v4, nV k, nV nc, nV nb, nV bi, nV mo])), (v0, cN g 8 sg)] [.ref x0, zV x, zV y] (fun r => r = iI (sLoaf sg k bi mo ce x y)) := by
  refine ro_startI (by decide +kernel) (Nat.le_of_ble_eq_true rfl) ?_
  intro p e s m args below meth c Q ls C hK hP ret hl
  have C : CT p s m args meth c cX9_loaf RX9 3 := C
  have hl : lv_has ls 3 [(0, .ref x0), (1, zV x), (2, zV y)] := hl
  have h40 := hlo.1
  refine lv_aload_n C.1 C.2.1 dX9_loaf_0 rfl (lv_at hl 0 rfl) ?_
  refine r_get C hK hP kw_X9 (ci := 7) rfl 0 2 (by decide) kf_X9_26 rfl rfl dX9_loaf_1 ?_
  refine lv_iload_n C.1 C.2.1 dX9_loaf_4 rfl (lv_at hl 1 rfl) ?_
  refine ro_callV (As := [zV x]) (rest := []) C hK (c_X1_holds l g q q0 ce x (by first | assumption | omega) (by first | assumption | exact ⟨by omega, by omega⟩)) (hP.sub (ws' := [(q, .inr (1, [.ref q0])), (q0, cN g 42 ce)]) [1, 2] rfl) (ci := 1) (q0 := 0) rfl rfl kc_X1_holds kl_X9_149 kn_X1 ki_X1_holds ke_X1_holds nk_X1_holds (rm_lt (by decide) (by decide)) hl rfl (Nat.le_of_ble_eq_true rfl) dX9_loaf_5 (fun r_1 hr_2 => ?_)
  subst hr_2
  refine r_bne 13 C dX9_loaf_8 rfl (fun h_3 => ?_) (fun h_3 => ?_)
  · skip
    obtain ⟨xn, rfl⟩ : ∃ n : Nat, x = (n : Int) := ⟨x.toNat, by omega⟩
    have hl : lv_has ls 3 [(0, .ref x0), (1, nV xn), (2, zV y)] := hl
    refine lv_iload_n C.1 C.2.1 dX9_loaf_13 rfl (lv_at hl 2 rfl) ?_
    by_cases hs_4 : y = 0
    · refine r_tsw 0 52 C dX9_loaf_14 (⟨by omega, by omega⟩) (by omega) (by decide) rfl rfl ?_
      refine lv_aload_n C.1 C.2.1 dX9_loaf_52 rfl (lv_at hl 0 rfl) ?_
      refine r_get C hK hP kw_X9 (ci := 7) rfl 0 2 (by decide) kf_X9_26 rfl rfl dX9_loaf_53 ?_
      refine lv_iload_n C.1 C.2.1 dX9_loaf_56 rfl (lv_at hl 1 rfl) ?_
      refine r_iconst 0 C dX9_loaf_57 rfl ?_
      refine ro_callV (As := [nV xn, nV 0]) (rest := []) C hK (c_X1_part l g q q0 ce xn 0 (by first | assumption | omega) (by first | assumption | omega) (by first | assumption | omega)) (hP.sub (ws' := [(q, .inr (1, [.ref q0])), (q0, cN g 42 ce)]) [1, 2] rfl) (ci := 1) (q0 := 0) rfl rfl kc_X1_part kl_X9_146 kn_X1 ki_X1_part ke_X1_part nk_X1_part (rm_lt (by decide) (by decide)) hl rfl (Nat.le_of_ble_eq_true rfl) dX9_loaf_58 (fun r_5 hr_6 => ?_)
      subst hr_6
      exact ret dX9_loaf_61 (by unfold sLoaf; rw [if_pos (by omega), if_pos (by omega)]; rw [show y = 0 by omega]; rfl)
    by_cases hs_7 : y = 1
    · refine r_tsw 1 62 C dX9_loaf_14 (⟨by omega, by omega⟩) (by omega) (by decide) rfl rfl ?_
      refine lv_aload_n C.1 C.2.1 dX9_loaf_62 rfl (lv_at hl 0 rfl) ?_
      refine r_get C hK hP kw_X9 (ci := 7) rfl 0 2 (by decide) kf_X9_26 rfl rfl dX9_loaf_63 ?_
      refine lv_iload_n C.1 C.2.1 dX9_loaf_66 rfl (lv_at hl 1 rfl) ?_
      refine r_iconst 1 C dX9_loaf_67 rfl ?_
      refine ro_callV (As := [nV xn, nV 1]) (rest := []) C hK (c_X1_part l g q q0 ce xn 1 (by first | assumption | omega) (by first | assumption | omega) (by first | assumption | omega)) (hP.sub (ws' := [(q, .inr (1, [.ref q0])), (q0, cN g 42 ce)]) [1, 2] rfl) (ci := 1) (q0 := 0) rfl rfl kc_X1_part kl_X9_146 kn_X1 ki_X1_part ke_X1_part nk_X1_part (rm_lt (by decide) (by decide)) hl rfl (Nat.le_of_ble_eq_true rfl) dX9_loaf_68 (fun r_8 hr_9 => ?_)
      subst hr_9
      exact ret dX9_loaf_71 (by unfold sLoaf; rw [if_pos (by omega), if_pos (by omega)]; rw [show y = 1 by omega]; rfl)
    by_cases hs_10 : y = 2
    · refine r_tsw 2 72 C dX9_loaf_14 (⟨by omega, by omega⟩) (by omega) (by decide) rfl rfl ?_
      refine lv_aload_n C.1 C.2.1 dX9_loaf_72 rfl (lv_at hl 0 rfl) ?_
      refine r_get C hK hP kw_X9 (ci := 7) rfl 0 2 (by decide) kf_X9_26 rfl rfl dX9_loaf_73 ?_
      refine lv_iload_n C.1 C.2.1 dX9_loaf_76 rfl (lv_at hl 1 rfl) ?_
      refine r_iconst 2 C dX9_loaf_77 rfl ?_
      refine ro_callV (As := [nV xn, nV 2]) (rest := []) C hK (c_X1_part l g q q0 ce xn 2 (by first | assumption | omega) (by first | assumption | omega) (by first | assumption | omega)) (hP.sub (ws' := [(q, .inr (1, [.ref q0])), (q0, cN g 42 ce)]) [1, 2] rfl) (ci := 1) (q0 := 0) rfl rfl kc_X1_part kl_X9_146 kn_X1 ki_X1_part ke_X1_part nk_X1_part (rm_lt (by decide) (by decide)) hl rfl (Nat.le_of_ble_eq_true rfl) dX9_loaf_78 (fun r_11 hr_12 => ?_)
      subst hr_12
      exact ret dX9_loaf_81 (by unfold sLoaf; rw [if_pos (by omega), if_pos (by omega)]; rw [show y = 2 by omega]; rfl)
    by_cases hs_13 : y = 3
    · refine r_tsw 3 82 C dX9_loaf_14 (⟨by omega, by omega⟩) (by omega) (by decide) rfl rfl ?_
      refine lv_aload_n C.1 C.2.1 dX9_loaf_82 rfl (lv_at hl 0 rfl) ?_
      refine r_get C hK hP kw_X9 (ci := 7) rfl 0 2 (by decide) kf_X9_26 rfl rfl dX9_loaf_83 ?_
      refine lv_iload_n C.1 C.2.1 dX9_loaf_86 rfl (lv_at hl 1 rfl) ?_
      refine r_iconst 3 C dX9_loaf_87 rfl ?_
      refine ro_callV (As := [nV xn, nV 3]) (rest := []) C hK (c_X1_part l g q q0 ce xn 3 (by first | assumption | omega) (by first | assumption | omega) (by first | assumption | omega)) (hP.sub (ws' := [(q, .inr (1, [.ref q0])), (q0, cN g 42 ce)]) [1, 2] rfl) (ci := 1) (q0 := 0) rfl rfl kc_X1_part kl_X9_146 kn_X1 ki_X1_part ke_X1_part nk_X1_part (rm_lt (by decide) (by decide)) hl rfl (Nat.le_of_ble_eq_true rfl) dX9_loaf_88 (fun r_14 hr_15 => ?_)
      subst hr_15
      exact ret dX9_loaf_91 (by unfold sLoaf; rw [if_pos (by omega), if_pos (by omega)]; rw [show y = 3 by omega]; rfl)
    by_cases hs_16 : y = 4
    · refine r_tsw 4 92 C dX9_loaf_14 (⟨by omega, by omega⟩) (by omega) (by decide) rfl rfl ?_
      refine lv_aload_n C.1 C.2.1 dX9_loaf_92 rfl (lv_at hl 0 rfl) ?_
      refine lv_iload_n C.1 C.2.1 dX9_loaf_93 rfl (lv_at hl 1 rfl) ?_
      refine ro_callV (As := [nV xn]) (rest := []) C hK (c_X9_signNow l g x0 t rd0 q us ks rc0 se v vd q0 ce v0 v1 v2 v3 v4 k nc nb bi mo xn (by first | assumption | omega) (by first | assumption | omega) (by first | assumption | omega)) (hP.sub (ws' := [(x0, .inr (7, [.ref t, .ref rd0, .ref q, .ref us, .ref ks, .ref rc0, .ref se, .ref v, .ref vd])), (q, .inr (1, [.ref q0])), (q0, cN g 42 ce), (v, .inr (6, [.ref v0, .ref v1, .ref v2, .ref v3, .ref v4, nV k, nV nc, nV nb, nV bi, nV mo]))]) [0, 1, 2, 3] rfl) (ci := 7) (q0 := 0) rfl rfl kc_X9_signNow kl_X9_162 kn_X9 ki_X9_signNow ke_X9_signNow nk_X9_signNow (rm_lt (by decide) (by decide)) hl rfl (Nat.le_of_ble_eq_true rfl) dX9_loaf_94 (fun r_17 hr_18 => ?_)
      subst hr_18
      have hf_19 := sNow_bd (bi := bi) (mo := mo) hlo (show xn < ce 40 by omega)
      exact ret dX9_loaf_97 (by unfold sLoaf; rw [if_pos (by omega), if_neg (by omega), if_pos (by omega)]; rfl)
    by_cases hs_20 : y = 5
    · refine r_tsw 5 98 C dX9_loaf_14 (⟨by omega, by omega⟩) (by omega) (by decide) rfl rfl ?_
      refine lv_aload_n C.1 C.2.1 dX9_loaf_98 rfl (lv_at hl 0 rfl) ?_
      refine lv_iload_n C.1 C.2.1 dX9_loaf_99 rfl (lv_at hl 1 rfl) ?_
      refine ro_callV (As := [nV xn]) (rest := []) C hK (c_X9_readingOf l g x0 t rd0 q us ks rc0 se v vd q0 ce v0 v1 v2 v3 v4 sg k nc nb bi mo xn (by first | assumption | omega) (by first | assumption | omega) (by first | assumption | omega) (by first | assumption | omega) (by first | assumption | omega)) hP (ci := 7) (q0 := 0) rfl rfl kc_X9_readingOf kl_X9_143 kn_X9 ki_X9_readingOf ke_X9_readingOf nk_X9_readingOf (rm_lt (by decide) (by decide)) hl rfl (Nat.le_of_ble_eq_true rfl) dX9_loaf_100 (fun r_21 hr_22 => ?_)
      subst hr_22
      have hf_23 := rd_bd sg (k) (sNow bi mo ce xn)
      exact ret dX9_loaf_103 (by unfold sLoaf; rw [if_pos (by omega), if_neg (by omega), if_neg (by omega)]; rfl)
    refine r_tswD 104 C dX9_loaf_14 (⟨by omega, by omega⟩) (by omega) rfl ?_
    refine r_iconstZ C dX9_loaf_104 ?_
    exact ret dX9_loaf_105 (by unfold sLoaf; rw [if_neg (by omega)])
  refine r_iconstZ C dX9_loaf_11 ?_
  exact ret dX9_loaf_12 (by unfold sLoaf; rw [if_neg (by omega)])
set_option maxHeartbeats 4000000 in
set_option maxRecDepth 100000 in
theorem c_X9_becomes (l : Launch) (g : GG) (x0 : Nat) (t : Nat) (rd0 : Nat) (q : Nat) (us : Nat) (ks : Nat) (rc0 : Nat) (se : Nat) (v : Nat) (vd : Nat) (v0 : Nat) (v1 : Nat) (v2 : Nat) (v3 : Nat) (v4 : Nat) (k : Nat) (nc : Nat) (nb : Nat) (bi : Nat) (mo : Nat) (x : Int) (y : Int) (w : Int) (hbm : (1 ≤ bi ∧ bi ≤ 9) ∧ (1 ≤ mo ∧ mo ≤ 9)) (hx : rg x) (hy : rg y) (hw : rg w) : ROi g l yX9_becomes cX9_becomes 4 (some .int) 4 [(x0, .inr (7, [.ref t, .ref rd0, .ref q, .ref us, .ref ks, .ref rc0, .ref se, .ref v, .ref vd])), (v, .inr (6, [.ref v0, .ref v1, .ref v2, .ref v3, .ref v4, nV k, nV nc, nV nb, nV bi, nV mo]))] [.ref x0, zV x, zV y, zV w] (fun r => r = iI (sBec bi mo x y w)) := by
  refine ro_startI (by decide +kernel) (Nat.le_of_ble_eq_true rfl) ?_
  intro p e s m args below meth c Q ls C hK hP ret hl
  have C : CT p s m args meth c cX9_becomes RX9 4 := C
  have hl : lv_has ls 4 [(0, .ref x0), (1, zV x), (2, zV y), (3, zV w)] := hl
  refine lv_iload_n C.1 C.2.1 dX9_becomes_0 rfl (lv_at hl 1 rfl) ?_
  refine ro_callS (As := [zV x]) (rest := []) C hK (c_X9_isSign l g x (by first | assumption | exact ⟨by omega, by omega⟩)) (hP.sub (ws' := []) [] rfl) kc_X9_isSign kl_X9_165 kn_X9 ks_X9_isSign nk_X9_isSign (rm_lt (by decide) (by decide)) hl rfl (Nat.le_of_ble_eq_true rfl) dX9_becomes_1 (fun r_1 hr_2 => ?_)
  subst hr_2
  refine r_beq 15 C dX9_becomes_4 rfl (fun h_3 => ?_) (fun h_3 => ?_)
  · skip
    refine r_iconstZ C dX9_becomes_15 ?_
    exact ret dX9_becomes_16 (by unfold sBec; rw [if_neg (by omega)])
  refine lv_iload_n C.1 C.2.1 dX9_becomes_7 rfl (lv_at hl 2 rfl) ?_
  refine lv_iload_n C.1 C.2.1 dX9_becomes_8 rfl (lv_at hl 3 rfl) ?_
  refine ro_callS (As := [zV y, zV w]) (rest := []) C hK (c_X9_isLoss l g y w (by first | assumption | exact ⟨by omega, by omega⟩) (by first | assumption | exact ⟨by omega, by omega⟩)) (hP.sub (ws' := []) [] rfl) kc_X9_isLoss kl_X9_168 kn_X9 ks_X9_isLoss nk_X9_isLoss (rm_lt (by decide) (by decide)) hl rfl (Nat.le_of_ble_eq_true rfl) dX9_becomes_9 (fun r_4 hr_5 => ?_)
  subst hr_5
  refine r_bne 17 C dX9_becomes_12 rfl (fun h_6 => ?_) (fun h_6 => ?_)
  · skip
    obtain ⟨xn, rfl⟩ : ∃ n : Nat, x = (n : Int) := ⟨x.toNat, by omega⟩
    obtain ⟨yn, rfl⟩ : ∃ n : Nat, y = (n : Int) := ⟨y.toNat, by omega⟩
    obtain ⟨wn, rfl⟩ : ∃ n : Nat, w = (n : Int) := ⟨w.toNat, by omega⟩
    have hl : lv_has ls 4 [(0, .ref x0), (1, nV xn), (2, nV yn), (3, nV wn)] := hl
    refine lv_aload_n C.1 C.2.1 dX9_becomes_17 rfl (lv_at hl 0 rfl) ?_
    refine r_get C hK hP kw_X9 (ci := 7) rfl 0 7 (by decide) kf_X9_61 rfl rfl dX9_becomes_18 ?_
    refine lv_iload_n C.1 C.2.1 dX9_becomes_21 rfl (lv_at hl 1 rfl) ?_
    refine lv_iload_n C.1 C.2.1 dX9_becomes_22 rfl (lv_at hl 2 rfl) ?_
    refine lv_iload_n C.1 C.2.1 dX9_becomes_23 rfl (lv_at hl 3 rfl) ?_
    refine ro_callV (As := [nV xn, nV yn, nV wn]) (rest := []) C hK (c_X8_turned l g v v0 v1 v2 v3 v4 k nc nb bi mo xn yn wn (by first | assumption | omega) (by first | assumption | omega) (by first | assumption | omega) (by first | assumption | omega)) (hP.sub (ws' := [(v, .inr (6, [.ref v0, .ref v1, .ref v2, .ref v3, .ref v4, nV k, nV nc, nV nb, nV bi, nV mo]))]) [1] rfl) (ci := 6) (q0 := 0) rfl rfl kc_X8_turned kl_X9_172 kn_X8 ki_X8_turned ke_X8_turned nk_X8_turned (rm_lt (by decide) (by decide)) hl rfl (Nat.le_of_ble_eq_true rfl) dX9_becomes_24 (fun r_7 hr_8 => ?_)
    subst hr_8
    have hf_9 := tn_bd (bi) (mo) (xn) (yn) (wn) (by omega)
    exact ret dX9_becomes_27 (by unfold sBec; rw [if_pos (by omega)]; rfl)
  refine r_iconstZ C dX9_becomes_15 ?_
  exact ret dX9_becomes_16 (by unfold sBec; rw [if_neg (by omega)])
set_option maxHeartbeats 4000000 in
set_option maxRecDepth 100000 in
theorem c_X9_half (l : Launch) (g : GG) (x0 : Nat) (t : Nat) (rd0 : Nat) (q : Nat) (us : Nat) (ks : Nat) (rc0 : Nat) (se : Nat) (v : Nat) (vd : Nat) (v0 : Nat) (v1 : Nat) (v2 : Nat) (v3 : Nat) (v4 : Nat) (sg : Nat → Nat) (k : Nat) (nc : Nat) (nb : Nat) (bi : Nat) (mo : Nat) (x : Int) (y : Int) (w : Int) (hsg : ∀ j, sg j < 72) (hk : k ≤ 8) (hx : rg x) (hy : rg y) (hw : rg w) : ROi g l yX9_half cX9_half 7 (some .int) 4 [(x0, .inr (7, [.ref t, .ref rd0, .ref q, .ref us, .ref ks, .ref rc0, .ref se, .ref v, .ref vd])), (v, .inr (6, [.ref v0, .ref v1, .ref v2, .ref v3, .ref v4, nV k, nV nc, nV nb, nV bi, nV mo])), (v0, cN g 8 sg)] [.ref x0, zV x, zV y, zV w] (fun r => r = sHalf sg k x y w) := by
  refine ro_startI (by decide +kernel) (Nat.le_of_ble_eq_true rfl) ?_
  intro p e s m args below meth c Q ls C hK hP ret hl
  have C : CT p s m args meth c cX9_half RX9 7 := C
  have hl : lv_has ls 7 [(0, .ref x0), (1, zV x), (2, zV y), (3, zV w)] := hl
  refine lv_iload_n C.1 C.2.1 dX9_half_0 rfl (lv_at hl 1 rfl) ?_
  refine r_iconst 0 C dX9_half_1 rfl ?_
  refine r_iconst 5 C dX9_half_2 rfl ?_
  refine ro_callS (As := [zV x, nV 0, nV 5]) (rest := []) C hK (c_X9_within l g x ((0 : Nat) : Int) ((5 : Nat) : Int) (by first | assumption | exact ⟨by omega, by omega⟩) (by first | assumption | exact ⟨by omega, by omega⟩) (by first | assumption | exact ⟨by omega, by omega⟩)) (hP.sub (ws' := []) [] rfl) kc_X9_within kl_X9_72 kn_X9 ks_X9_within nk_X9_within (rm_lt (by decide) (by decide)) hl rfl (Nat.le_of_ble_eq_true rfl) dX9_half_3 (fun r_1 hr_2 => ?_)
  subst hr_2
  refine r_beq 27 C dX9_half_6 rfl (fun h_3 => ?_) (fun h_3 => ?_)
  · skip
    refine r_iconstZ C dX9_half_27 ?_
    exact ret dX9_half_28 (by unfold sHalf; rw [if_neg (by omega)])
  refine lv_iload_n C.1 C.2.1 dX9_half_9 rfl (lv_at hl 2 rfl) ?_
  refine r_iconst 0 C dX9_half_10 rfl ?_
  refine r_iconst 3 C dX9_half_11 rfl ?_
  refine ro_callS (As := [zV y, nV 0, nV 3]) (rest := []) C hK (c_X9_within l g y ((0 : Nat) : Int) ((3 : Nat) : Int) (by first | assumption | exact ⟨by omega, by omega⟩) (by first | assumption | exact ⟨by omega, by omega⟩) (by first | assumption | exact ⟨by omega, by omega⟩)) (hP.sub (ws' := []) [] rfl) kc_X9_within kl_X9_72 kn_X9 ks_X9_within nk_X9_within (rm_lt (by decide) (by decide)) hl rfl (Nat.le_of_ble_eq_true rfl) dX9_half_12 (fun r_4 hr_5 => ?_)
  subst hr_5
  refine r_beq 27 C dX9_half_15 rfl (fun h_6 => ?_) (fun h_6 => ?_)
  · skip
    refine r_iconstZ C dX9_half_27 ?_
    exact ret dX9_half_28 (by unfold sHalf; rw [if_neg (by omega)])
  refine lv_iload_n C.1 C.2.1 dX9_half_18 rfl (lv_at hl 3 rfl) ?_
  refine r_iconst 0 C dX9_half_19 rfl ?_
  refine r_iconst 2 C dX9_half_20 rfl ?_
  refine ro_callS (As := [zV w, nV 0, nV 2]) (rest := []) C hK (c_X9_within l g w ((0 : Nat) : Int) ((2 : Nat) : Int) (by first | assumption | exact ⟨by omega, by omega⟩) (by first | assumption | exact ⟨by omega, by omega⟩) (by first | assumption | exact ⟨by omega, by omega⟩)) (hP.sub (ws' := []) [] rfl) kc_X9_within kl_X9_72 kn_X9 ks_X9_within nk_X9_within (rm_lt (by decide) (by decide)) hl rfl (Nat.le_of_ble_eq_true rfl) dX9_half_21 (fun r_7 hr_8 => ?_)
  subst hr_8
  refine r_bne 29 C dX9_half_24 rfl (fun h_9 => ?_) (fun h_9 => ?_)
  · skip
    obtain ⟨xn, rfl⟩ : ∃ n : Nat, x = (n : Int) := ⟨x.toNat, by omega⟩
    obtain ⟨yn, rfl⟩ : ∃ n : Nat, y = (n : Int) := ⟨y.toNat, by omega⟩
    obtain ⟨wn, rfl⟩ : ∃ n : Nat, w = (n : Int) := ⟨w.toNat, by omega⟩
    have hl : lv_has ls 7 [(0, .ref x0), (1, nV xn), (2, nV yn), (3, nV wn)] := hl
    refine r_iconst 0 C dX9_half_29 rfl ?_
    refine lv_istore (lv' := [(4, nV 0), (0, .ref x0), (1, nV xn), (2, nV yn), (3, nV wn)]) C.1 C.2.1 dX9_half_30 hl (by decide) rfl (fun ls hl => ?_)
    refine r_iconst 0 C dX9_half_32 rfl ?_
    refine lv_istore (lv' := [(5, nV 0), (4, nV 0), (0, .ref x0), (1, nV xn), (2, nV yn), (3, nV wn)]) C.1 C.2.1 dX9_half_33 hl (by decide) rfl (fun ls hl => ?_)
    have L35 : ∀ (n_35 : Nat) (i : Nat) (t : Int32) (ls : Array Slot) (hi : i ≤ k) (ht : t = bset (fun w => decide (xn ≤ sg w % 6 ∧ yn ≤ sg w / 6 % 4 ∧ sg w / 24 = wn)) i) (hm : k - i < n_35) (hl : lv_has ls 7 [(5, nV i), (4, .int t), (0, .ref x0), (1, nV xn), (2, nV yn), (3, nV wn)]), W p l e (rD 4) s m args below meth c s.heap [] 0 0 Q (F0 m 35 ls []) := by
      intro n_35
      induction n_35 with
      | zero => intro i t ls hi ht hm hl; exact absurd hm (Nat.not_lt_zero _)
      | succ n_35 ih_35 =>
        intro i t ls hi ht hm hl
        refine lv_iload C.1 C.2.1 dX9_half_35 (lv_at hl 0 rfl) ?_
        refine lv_aload_n C.1 C.2.1 dX9_half_37 rfl (lv_at hl 2 rfl) ?_
        refine r_get C hK hP kw_X9 (ci := 7) rfl 0 7 (by decide) kf_X9_61 rfl rfl dX9_half_38 ?_
        refine ro_callV (As := []) (rest := [nV i]) C hK (c_X8_words l g v v0 v1 v2 v3 v4 k nc nb bi mo) (hP.sub (ws' := [(v, .inr (6, [.ref v0, .ref v1, .ref v2, .ref v3, .ref v4, nV k, nV nc, nV nb, nV bi, nV mo]))]) [1] rfl) (ci := 6) (q0 := 0) rfl rfl kc_X8_words kl_X9_95 kn_X8 ki_X8_words ke_X8_words nk_X8_words (rm_lt (by decide) (by decide)) hl rfl (Nat.le_of_ble_eq_true rfl) dX9_half_41 (fun r_10 hr_11 => ?_)
        subst hr_11
        refine r_cge 100 C dX9_half_44 rfl ⟨rgN (by omega), rgN (by omega)⟩ (fun h_12 => ?_) (fun h_12 => ?_)
        · skip
          refine lv_iload C.1 C.2.1 dX9_half_100 (lv_at hl 1 rfl) ?_
          exact ret dX9_half_102 (by unfold sHalf; rw [if_pos (by omega), ht, show i = k by omega]; rfl)
        refine lv_aload_n C.1 C.2.1 dX9_half_47 rfl (lv_at hl 2 rfl) ?_
        refine r_get C hK hP kw_X9 (ci := 7) rfl 0 7 (by decide) kf_X9_61 rfl rfl dX9_half_48 ?_
        refine lv_iload C.1 C.2.1 dX9_half_51 (lv_at hl 0 rfl) ?_
        refine ro_callV (As := [nV i]) (rest := []) C hK (c_X8_signOf l g v v0 v1 v2 v3 v4 sg k nc nb bi mo i (by first | assumption | omega)) (hP.sub (ws' := [(v, .inr (6, [.ref v0, .ref v1, .ref v2, .ref v3, .ref v4, nV k, nV nc, nV nb, nV bi, nV mo])), (v0, cN g 8 sg)]) [1, 2] rfl) (ci := 6) (q0 := 0) rfl rfl kc_X8_signOf kl_X9_103 kn_X8 ki_X8_signOf ke_X8_signOf nk_X8_signOf (rm_lt (by decide) (by decide)) hl rfl (Nat.le_of_ble_eq_true rfl) dX9_half_53 (fun r_13 hr_14 => ?_)
        subst hr_14
        have hf_15 := hsg (i)
        refine lv_istore (lv' := [(6, nV (sg i)), (5, nV i), (4, .int t), (0, .ref x0), (1, nV xn), (2, nV yn), (3, nV wn)]) C.1 C.2.1 dX9_half_56 hl (by decide) rfl (fun ls hl => ?_)
        refine lv_iload C.1 C.2.1 dX9_half_58 (lv_at hl 0 rfl) ?_
        refine ro_callS (As := [nV (sg i)]) (rest := []) C hK (c_X6_seeds l g (sg i) (by first | assumption | omega)) (hP.sub (ws' := []) [] rfl) kc_X6_seeds kl_X9_185 kn_X6 ks_X6_seeds nk_X6_seeds (rm_lt (by decide) (by decide)) hl rfl (Nat.le_of_ble_eq_true rfl) dX9_half_60 (fun r_16 hr_17 => ?_)
        subst hr_17
        refine lv_iload_n C.1 C.2.1 dX9_half_63 rfl (lv_at hl 4 rfl) ?_
        refine r_clt 94 C dX9_half_64 rfl ⟨rgN (by omega), rgN (by omega)⟩ (fun h_18 => ?_) (fun h_18 => ?_)
        · skip
          refine r_incN (k := 1) (n := 1) [(5, nV (i + 1)), (6, nV (sg i)), (4, .int t), (0, .ref x0), (1, nV xn), (2, nV yn), (3, nV wn)] C dX9_half_94 hl rfl rfl (by decide) rfl (fun ls hl => ?_)
          refine r_goto 35 C dX9_half_97 rfl ?_
          exact ih_35 (i + 1) t _ (by first | assumption | omega) (by rw [ht]; show _ = (if decide (xn ≤ sg i % 6 ∧ yn ≤ sg i / 6 % 4 ∧ sg i / 24 = wn) = true then _ else _); first | (rw [if_pos (decide_eq_true ⟨by omega, by omega, by omega⟩)]; done) | rw [if_neg (by simp; omega)]) (by omega) (lv_sub hl [0, 2, 3, 4, 5, 6] rfl)
        refine lv_iload C.1 C.2.1 dX9_half_67 (lv_at hl 0 rfl) ?_
        refine ro_callS (As := [nV (sg i)]) (rest := []) C hK (c_X6_cuts l g (sg i) (by first | assumption | omega)) (hP.sub (ws' := []) [] rfl) kc_X6_cuts kl_X9_188 kn_X6 ks_X6_cuts nk_X6_cuts (rm_lt (by decide) (by decide)) hl rfl (Nat.le_of_ble_eq_true rfl) dX9_half_69 (fun r_19 hr_20 => ?_)
        subst hr_20
        refine lv_iload_n C.1 C.2.1 dX9_half_72 rfl (lv_at hl 5 rfl) ?_
        refine r_clt 94 C dX9_half_73 rfl ⟨rgN (by omega), rgN (by omega)⟩ (fun h_21 => ?_) (fun h_21 => ?_)
        · skip
          refine r_incN (k := 1) (n := 1) [(5, nV (i + 1)), (6, nV (sg i)), (4, .int t), (0, .ref x0), (1, nV xn), (2, nV yn), (3, nV wn)] C dX9_half_94 hl rfl rfl (by decide) rfl (fun ls hl => ?_)
          refine r_goto 35 C dX9_half_97 rfl ?_
          exact ih_35 (i + 1) t _ (by first | assumption | omega) (by rw [ht]; show _ = (if decide (xn ≤ sg i % 6 ∧ yn ≤ sg i / 6 % 4 ∧ sg i / 24 = wn) = true then _ else _); first | (rw [if_pos (decide_eq_true ⟨by omega, by omega, by omega⟩)]; done) | rw [if_neg (by simp; omega)]) (by omega) (lv_sub hl [0, 2, 3, 4, 5, 6] rfl)
        refine lv_iload C.1 C.2.1 dX9_half_76 (lv_at hl 0 rfl) ?_
        refine ro_callS (As := [nV (sg i)]) (rest := []) C hK (c_X6_filling l g (sg i) (by first | assumption | omega)) (hP.sub (ws' := []) [] rfl) kc_X6_filling kl_X9_191 kn_X6 ks_X6_filling nk_X6_filling (rm_lt (by decide) (by decide)) hl rfl (Nat.le_of_ble_eq_true rfl) dX9_half_78 (fun r_22 hr_23 => ?_)
        subst hr_23
        refine lv_iload_n C.1 C.2.1 dX9_half_81 rfl (lv_at hl 6 rfl) ?_
        refine r_cne 94 C dX9_half_82 rfl ⟨rgN (by omega), rgN (by omega)⟩ (fun h_24 => ?_) (fun h_24 => ?_)
        · skip
          refine r_incN (k := 1) (n := 1) [(5, nV (i + 1)), (6, nV (sg i)), (4, .int t), (0, .ref x0), (1, nV xn), (2, nV yn), (3, nV wn)] C dX9_half_94 hl rfl rfl (by decide) rfl (fun ls hl => ?_)
          refine r_goto 35 C dX9_half_97 rfl ?_
          exact ih_35 (i + 1) t _ (by first | assumption | omega) (by rw [ht]; show _ = (if decide (xn ≤ sg i % 6 ∧ yn ≤ sg i / 6 % 4 ∧ sg i / 24 = wn) = true then _ else _); first | (rw [if_pos (decide_eq_true ⟨by omega, by omega, by omega⟩)]; done) | rw [if_neg (by simp; omega)]) (by omega) (lv_sub hl [0, 2, 3, 4, 5, 6] rfl)
        refine lv_iload C.1 C.2.1 dX9_half_85 (lv_at hl 2 rfl) ?_
        refine r_iconst 1 C dX9_half_87 rfl ?_
        refine lv_iload C.1 C.2.1 dX9_half_88 (lv_at hl 1 rfl) ?_
        refine lv_ishl C.1 C.2.1 dX9_half_90 ?_
        refine lv_ior C.1 C.2.1 dX9_half_91 ?_
        refine lv_istore (lv' := [(4, .int (t ||| ((iI ((1 : Nat) : Int)) <<< ((iI ((i : Nat) : Int)) &&& 31)))), (6, nV (sg i)), (5, nV i), (0, .ref x0), (1, nV xn), (2, nV yn), (3, nV wn)]) C.1 C.2.1 dX9_half_92 hl (by decide) rfl (fun ls hl => ?_)
        refine r_incN (k := 2) (n := 1) [(5, nV (i + 1)), (4, .int (t ||| ((iI ((1 : Nat) : Int)) <<< ((iI ((i : Nat) : Int)) &&& 31)))), (6, nV (sg i)), (0, .ref x0), (1, nV xn), (2, nV yn), (3, nV wn)] C dX9_half_94 hl rfl rfl (by decide) rfl (fun ls hl => ?_)
        refine r_goto 35 C dX9_half_97 rfl ?_
        exact ih_35 (i + 1) (t ||| ((iI ((1 : Nat) : Int)) <<< ((iI ((i : Nat) : Int)) &&& 31))) _ (by first | assumption | omega) (by rw [ht]; show _ = (if decide (xn ≤ sg i % 6 ∧ yn ≤ sg i / 6 % 4 ∧ sg i / 24 = wn) = true then _ else _); first | (rw [if_pos (decide_eq_true ⟨by omega, by omega, by omega⟩)]; done) | rw [if_neg (by simp; omega)]) (by omega) (lv_sub hl [0, 1, 3, 4, 5, 6] rfl)
    exact L35 (k - 0 + 1) 0 (iI ((0 : Nat) : Int)) _ (by first | assumption | omega) (rfl) (Nat.lt_succ_self _) (lv_sub hl [0, 1, 2, 3, 4, 5] rfl)
  refine r_iconstZ C dX9_half_27 ?_
  exact ret dX9_half_28 (by unfold sHalf; rw [if_neg (by omega)])
set_option maxHeartbeats 4000000 in
set_option maxRecDepth 100000 in
theorem c_X9_sent (l : Launch) (g : GG) (x0 : Nat) (t : Nat) (rd0 : Nat) (q : Nat) (us : Nat) (ks : Nat) (rc0 : Nat) (se : Nat) (v : Nat) (vd : Nat) (v0 : Nat) (v1 : Nat) (v2 : Nat) (v3 : Nat) (v4 : Nat) (sg : Nat → Nat) (hu : Nat → Nat) (mi : Nat → Nat) (k : Nat) (nc : Nat) (nb : Nat) (bi : Nat) (mo : Nat) (x : Int) (y : Int) (w : Int) (z : Int) (hbm : (1 ≤ bi ∧ bi ≤ 9) ∧ (1 ≤ mo ∧ mo ≤ 9)) (hsg : ∀ j, sg j < 72) (hhu : ∀ j, hu j < 10) (hmi : ∀ j, mi j ≤ 6) (hk : k ≤ 8) (hnc : nc ≤ 5) (hx : rg x) (hy : rg y) (hw : rg w) (hz : rg z) : ROi g l yX9_sent cX9_sent 7 (some .int) 5 [(x0, .inr (7, [.ref t, .ref rd0, .ref q, .ref us, .ref ks, .ref rc0, .ref se, .ref v, .ref vd])), (v, .inr (6, [.ref v0, .ref v1, .ref v2, .ref v3, .ref v4, nV k, nV nc, nV nb, nV bi, nV mo])), (v0, cN g 8 sg), (v2, cN g 5 hu), (v3, cN g 5 mi)] [.ref x0, zV x, zV y, zV w, zV z] (fun r => r = iI (sSent sg hu mi k nc bi mo x y w z)) := by
  refine ro_startI (by decide +kernel) (Nat.le_of_ble_eq_true rfl) ?_
  intro p e s m args below meth c Q ls C hK hP ret hl
  have C : CT p s m args meth c cX9_sent RX9 7 := C
  have hl : lv_has ls 7 [(0, .ref x0), (1, zV x), (2, zV y), (3, zV w), (4, zV z)] := hl
  refine lv_aload_n C.1 C.2.1 dX9_sent_0 rfl (lv_at hl 0 rfl) ?_
  refine lv_iload_n C.1 C.2.1 dX9_sent_1 rfl (lv_at hl 1 rfl) ?_
  refine ro_callV (As := [zV x]) (rest := []) C hK (c_X9_isWord l g x0 t rd0 q us ks rc0 se v vd v0 v1 v2 v3 v4 k nc nb bi mo x (by first | assumption | omega) (by first | assumption | exact ⟨by omega, by omega⟩)) (hP.sub (ws' := [(x0, .inr (7, [.ref t, .ref rd0, .ref q, .ref us, .ref ks, .ref rc0, .ref se, .ref v, .ref vd])), (v, .inr (6, [.ref v0, .ref v1, .ref v2, .ref v3, .ref v4, nV k, nV nc, nV nb, nV bi, nV mo]))]) [0, 1] rfl) (ci := 7) (q0 := 0) rfl rfl kc_X9_isWord kl_X9_100 kn_X9 ki_X9_isWord ke_X9_isWord nk_X9_isWord (rm_lt (by decide) (by decide)) hl rfl (Nat.le_of_ble_eq_true rfl) dX9_sent_2 (fun r_1 hr_2 => ?_)
  subst hr_2
  refine r_beq 31 C dX9_sent_5 rfl (fun h_3 => ?_) (fun h_3 => ?_)
  · skip
    refine r_iconstZ C dX9_sent_31 ?_
    exact ret dX9_sent_32 (by unfold sSent; rw [if_neg (by omega)])
  refine lv_aload_n C.1 C.2.1 dX9_sent_8 rfl (lv_at hl 0 rfl) ?_
  refine lv_iload_n C.1 C.2.1 dX9_sent_9 rfl (lv_at hl 2 rfl) ?_
  refine ro_callV (As := [zV y]) (rest := []) C hK (c_X9_isCarrier l g x0 t rd0 q us ks rc0 se v vd v0 v1 v2 v3 v4 k nc nb bi mo y (by first | assumption | omega) (by first | assumption | exact ⟨by omega, by omega⟩)) (hP.sub (ws' := [(x0, .inr (7, [.ref t, .ref rd0, .ref q, .ref us, .ref ks, .ref rc0, .ref se, .ref v, .ref vd])), (v, .inr (6, [.ref v0, .ref v1, .ref v2, .ref v3, .ref v4, nV k, nV nc, nV nb, nV bi, nV mo]))]) [0, 1] rfl) (ci := 7) (q0 := 0) rfl rfl kc_X9_isCarrier kl_X9_204 kn_X9 ki_X9_isCarrier ke_X9_isCarrier nk_X9_isCarrier (rm_lt (by decide) (by decide)) hl rfl (Nat.le_of_ble_eq_true rfl) dX9_sent_10 (fun r_4 hr_5 => ?_)
  subst hr_5
  refine r_beq 31 C dX9_sent_13 rfl (fun h_6 => ?_) (fun h_6 => ?_)
  · skip
    refine r_iconstZ C dX9_sent_31 ?_
    exact ret dX9_sent_32 (by unfold sSent; rw [if_neg (by omega)])
  refine lv_iload_n C.1 C.2.1 dX9_sent_16 rfl (lv_at hl 3 rfl) ?_
  refine ro_callS (As := [zV w]) (rest := []) C hK (c_X9_isAge l g w (by first | assumption | exact ⟨by omega, by omega⟩)) (hP.sub (ws' := []) [] rfl) kc_X9_isAge kl_X9_207 kn_X9 ks_X9_isAge nk_X9_isAge (rm_lt (by decide) (by decide)) hl rfl (Nat.le_of_ble_eq_true rfl) dX9_sent_17 (fun r_7 hr_8 => ?_)
  subst hr_8
  refine r_beq 31 C dX9_sent_20 rfl (fun h_9 => ?_) (fun h_9 => ?_)
  · skip
    refine r_iconstZ C dX9_sent_31 ?_
    exact ret dX9_sent_32 (by unfold sSent; rw [if_neg (by omega)])
  refine lv_iload C.1 C.2.1 dX9_sent_23 (lv_at hl 4 rfl) ?_
  refine ro_callS (As := [zV z]) (rest := []) C hK (c_X9_isChoice l g z (by first | assumption | exact ⟨by omega, by omega⟩)) (hP.sub (ws' := []) [] rfl) kc_X9_isChoice kl_X9_210 kn_X9 ks_X9_isChoice nk_X9_isChoice (rm_lt (by decide) (by decide)) hl rfl (Nat.le_of_ble_eq_true rfl) dX9_sent_25 (fun r_10 hr_11 => ?_)
  subst hr_11
  refine r_bne 33 C dX9_sent_28 rfl (fun h_12 => ?_) (fun h_12 => ?_)
  · skip
    obtain ⟨xn, rfl⟩ : ∃ n : Nat, x = (n : Int) := ⟨x.toNat, by omega⟩
    obtain ⟨yn, rfl⟩ : ∃ n : Nat, y = (n : Int) := ⟨y.toNat, by omega⟩
    obtain ⟨wn, rfl⟩ : ∃ n : Nat, w = (n : Int) := ⟨w.toNat, by omega⟩
    obtain ⟨zn, rfl⟩ : ∃ n : Nat, z = (n : Int) := ⟨z.toNat, by omega⟩
    have hl : lv_has ls 7 [(0, .ref x0), (1, nV xn), (2, nV yn), (3, nV wn), (4, nV zn)] := hl
    refine r_ldc2N 10 C kv_X9_213 dX9_sent_33 rfl ?_
    refine lv_aload_n C.1 C.2.1 dX9_sent_36 rfl (lv_at hl 0 rfl) ?_
    refine r_get C hK hP kw_X9 (ci := 7) rfl 0 7 (by decide) kf_X9_61 rfl rfl dX9_sent_37 ?_
    refine lv_iload_n C.1 C.2.1 dX9_sent_40 rfl (lv_at hl 2 rfl) ?_
    refine ro_callV (As := [nV yn]) (rest := [mV 10]) C hK (c_X8_milesOf l g v v0 v1 v2 v3 v4 mi k nc nb bi mo yn (by first | assumption | omega)) (hP.sub (ws' := [(v, .inr (6, [.ref v0, .ref v1, .ref v2, .ref v3, .ref v4, nV k, nV nc, nV nb, nV bi, nV mo])), (v3, cN g 5 mi)]) [1, 4] rfl) (ci := 6) (q0 := 0) rfl rfl kc_X8_milesOf kl_X9_215 kn_X8 ki_X8_milesOf ke_X8_milesOf nk_X8_milesOf (rm_lt (by decide) (by decide)) hl rfl (Nat.le_of_ble_eq_true rfl) dX9_sent_41 (fun r_13 hr_14 => ?_)
    subst hr_14
    have hf_15 := hmi (yn)
    refine ro_callSL (As := [mV 10, nV (mi yn)]) (rest := []) C hK (c_X2_power l g 10 (mi yn) (by first | assumption | omega)) (hP.sub (ws' := []) [] rfl) kc_X2_power kl_X9_218 kn_X2 ks_X2_power nk_X2_power (rm_lt (by decide) (by decide)) hl rfl (Nat.le_of_ble_eq_true rfl) dX9_sent_44 (fun r_16 hr_17 => ?_)
    subst hr_17
    have tb1 := ten_bd (hmi yn)
    refine r_nameM (fun p1 hp1 => ?_)
    refine lv_lstore (lv' := [(5, mV p1), (0, .ref x0), (1, nV xn), (2, nV yn), (3, nV wn), (4, nV zn)]) C.1 C.2.1 dX9_sent_47 hl (by decide) rfl (fun ls hl => ?_)
    refine lv_aload_n C.1 C.2.1 dX9_sent_49 rfl (lv_at hl 1 rfl) ?_
    refine r_get C hK hP kw_X9 (ci := 7) rfl 0 7 (by decide) kf_X9_61 rfl rfl dX9_sent_50 ?_
    refine lv_iload_n C.1 C.2.1 dX9_sent_53 rfl (lv_at hl 2 rfl) ?_
    refine lv_iload_n C.1 C.2.1 dX9_sent_54 rfl (lv_at hl 3 rfl) ?_
    refine lv_iload_n C.1 C.2.1 dX9_sent_55 rfl (lv_at hl 4 rfl) ?_
    refine ro_callVL (As := [nV xn, nV yn, nV wn]) (rest := []) C hK (c_X8_waysRead l g v v0 v1 v2 v3 v4 sg hu mi k nc nb bi mo xn yn wn (by first | assumption | omega) (by first | assumption | omega) (by first | assumption | omega) (by first | assumption | omega) (by first | assumption | omega) (by first | assumption | omega) (by first | assumption | omega)) (hP.sub (ws' := [(v, .inr (6, [.ref v0, .ref v1, .ref v2, .ref v3, .ref v4, nV k, nV nc, nV nb, nV bi, nV mo])), (v0, cN g 8 sg), (v2, cN g 5 hu), (v3, cN g 5 mi)]) [1, 2, 3, 4] rfl) (ci := 6) (q0 := 0) rfl rfl kc_X8_waysRead kl_X9_224 kn_X8 ki_X8_waysRead ke_X8_waysRead nk_X8_waysRead (rm_lt (by decide) (by decide)) hl rfl (Nat.le_of_ble_eq_true rfl) dX9_sent_56 (fun r_18 hr_19 => ?_)
    subst hr_19
    have wb1 := wy_bd bi mo (sg xn) wn (hu yn) (mi yn) (hhu yn) (hmi yn)
    refine r_nameM (fun p2 hp2 => ?_)
    refine lv_lload C.1 C.2.1 dX9_sent_59 (lv_at hl 0 rfl) ?_
    refine lv_iload C.1 C.2.1 dX9_sent_61 (lv_at hl 5 rfl) ?_
    refine ro_callSL (As := [mV p2, mV p1, nV zn]) (rest := []) C hK (c_X2_lowest l g p2 p1 zn (by first | assumption | omega) (by first | assumption | omega) (by first | assumption | omega)) (hP.sub (ws' := []) [] rfl) kc_X2_lowest kl_X9_228 kn_X2 ks_X2_lowest nk_X2_lowest (rm_lt (by decide) (by decide)) hl rfl (Nat.le_of_ble_eq_true rfl) dX9_sent_63 (fun r_20 hr_21 => ?_)
    subst hr_21
    refine r_l2i C dX9_sent_66 ?_
    exact ret dX9_sent_67 (by unfold sSent; rw [if_pos (by omega), hp2, hp1]; rfl)
  refine r_iconstZ C dX9_sent_31 ?_
  exact ret dX9_sent_32 (by unfold sSent; rw [if_neg (by omega)])
set_option maxHeartbeats 4000000 in
set_option maxRecDepth 100000 in
theorem c_X9_whom (l : Launch) (g : GG) (x0 : Nat) (t : Nat) (rd0 : Nat) (q : Nat) (us : Nat) (ks : Nat) (rc0 : Nat) (se : Nat) (v : Nat) (vd : Nat) (v0 : Nat) (v1 : Nat) (v2 : Nat) (v3 : Nat) (v4 : Nat) (sg : Nat → Nat) (hu : Nat → Nat) (mi : Nat → Nat) (k : Nat) (nc : Nat) (nb : Nat) (bi : Nat) (mo : Nat) (x : Int) (y : Int) (hbm : (1 ≤ bi ∧ bi ≤ 9) ∧ (1 ≤ mo ∧ mo ≤ 9)) (hsg : ∀ j, sg j < 72) (hhu : ∀ j, hu j < 10) (hmi : ∀ j, mi j ≤ 6) (hk : k ≤ 8) (hnc : nc ≤ 5) (hx : rg x) (hy : rg y) : ROi g l yX9_whom cX9_whom 11 (some .int) 5 [(x0, .inr (7, [.ref t, .ref rd0, .ref q, .ref us, .ref ks, .ref rc0, .ref se, .ref v, .ref vd])), (v, .inr (6, [.ref v0, .ref v1, .ref v2, .ref v3, .ref v4, nV k, nV nc, nV nb, nV bi, nV mo])), (v0, cN g 8 sg), (v2, cN g 5 hu), (v3, cN g 5 mi)] [.ref x0, zV x, zV y] (fun r => r = iI (sWhom sg hu mi k nc bi mo x y)) := by
  refine ro_startI (by decide +kernel) (Nat.le_of_ble_eq_true rfl) ?_
  intro p e s m args below meth c Q ls C hK hP ret hl
  have C : CT p s m args meth c cX9_whom RX9 11 := C
  have hl : lv_has ls 11 [(0, .ref x0), (1, zV x), (2, zV y)] := hl
  refine lv_aload_n C.1 C.2.1 dX9_whom_0 rfl (lv_at hl 0 rfl) ?_
  refine lv_iload_n C.1 C.2.1 dX9_whom_1 rfl (lv_at hl 1 rfl) ?_
  refine ro_callV (As := [zV x]) (rest := []) C hK (c_X9_isWord l g x0 t rd0 q us ks rc0 se v vd v0 v1 v2 v3 v4 k nc nb bi mo x (by first | assumption | omega) (by first | assumption | exact ⟨by omega, by omega⟩)) (hP.sub (ws' := [(x0, .inr (7, [.ref t, .ref rd0, .ref q, .ref us, .ref ks, .ref rc0, .ref se, .ref v, .ref vd])), (v, .inr (6, [.ref v0, .ref v1, .ref v2, .ref v3, .ref v4, nV k, nV nc, nV nb, nV bi, nV mo]))]) [0, 1] rfl) (ci := 7) (q0 := 0) rfl rfl kc_X9_isWord kl_X9_100 kn_X9 ki_X9_isWord ke_X9_isWord nk_X9_isWord (rm_lt (by decide) (by decide)) hl rfl (Nat.le_of_ble_eq_true rfl) dX9_whom_2 (fun r_1 hr_2 => ?_)
  subst hr_2
  refine r_beq 15 C dX9_whom_5 rfl (fun h_3 => ?_) (fun h_3 => ?_)
  · skip
    refine r_iconstZ C dX9_whom_15 ?_
    exact ret dX9_whom_16 (by unfold sWhom; rw [if_neg (by omega)])
  refine lv_iload_n C.1 C.2.1 dX9_whom_8 rfl (lv_at hl 2 rfl) ?_
  refine ro_callS (As := [zV y]) (rest := []) C hK (c_X9_isAge l g y (by first | assumption | exact ⟨by omega, by omega⟩)) (hP.sub (ws' := []) [] rfl) kc_X9_isAge kl_X9_207 kn_X9 ks_X9_isAge nk_X9_isAge (rm_lt (by decide) (by decide)) hl rfl (Nat.le_of_ble_eq_true rfl) dX9_whom_9 (fun r_4 hr_5 => ?_)
  subst hr_5
  refine r_bne 17 C dX9_whom_12 rfl (fun h_6 => ?_) (fun h_6 => ?_)
  · skip
    obtain ⟨xn, rfl⟩ : ∃ n : Nat, x = (n : Int) := ⟨x.toNat, by omega⟩
    obtain ⟨yn, rfl⟩ : ∃ n : Nat, y = (n : Int) := ⟨y.toNat, by omega⟩
    have hl : lv_has ls 11 [(0, .ref x0), (1, nV xn), (2, nV yn)] := hl
    refine r_bipushZ C dX9_whom_17 (by decide) ?_
    refine lv_istore_n (lv' := [(3, zV (-4)), (0, .ref x0), (1, nV xn), (2, nV yn)]) C.1 C.2.1 dX9_whom_19 rfl hl (by decide) rfl (fun ls hl => ?_)
    refine r_ldc2 (-1) C kv_X9_232 dX9_whom_20 rfl ?_
    refine lv_lstore (lv' := [(4, jV (-1)), (3, zV (-4)), (0, .ref x0), (1, nV xn), (2, nV yn)]) C.1 C.2.1 dX9_whom_23 hl (by decide) rfl (fun ls hl => ?_)
    refine r_iconst 0 C dX9_whom_25 rfl ?_
    refine lv_istore (lv' := [(6, nV 0), (4, jV (-1)), (3, zV (-4)), (0, .ref x0), (1, nV xn), (2, nV yn)]) C.1 C.2.1 dX9_whom_26 hl (by decide) rfl (fun ls hl => ?_)
    have L28 : ∀ (n_28 : Nat) (i : Nat) (bb : Int) (mm : Int) (ls : Array Slot) (hi : i ≤ nc) (hst : whF sg hu mi bi mo xn yn i = (bb, mm)) (hm : nc - i < n_28) (hl : lv_has ls 11 [(6, nV i), (4, jV mm), (3, zV bb), (0, .ref x0), (1, nV xn), (2, nV yn)]), W p l e (rD 5) s m args below meth c s.heap [] 0 0 Q (F0 m 28 ls []) := by
      intro n_28
      induction n_28 with
      | zero => intro i bb mm ls hi hst hm hl; exact absurd hm (Nat.not_lt_zero _)
      | succ n_28 ih_28 =>
        intro i bb mm ls hi hst hm hl
        have hwb := whF_bd (sg := sg) (bi := bi) (mo := mo) (w := xn) (a := yn) hhu hmi i
        have hwb2 := whF_bd (sg := sg) (bi := bi) (mo := mo) (w := xn) (a := yn) hhu hmi (i + 1)
        rw [hst] at hwb
        refine lv_iload C.1 C.2.1 dX9_whom_28 (lv_at hl 0 rfl) ?_
        refine lv_aload_n C.1 C.2.1 dX9_whom_30 rfl (lv_at hl 3 rfl) ?_
        refine r_get C hK hP kw_X9 (ci := 7) rfl 0 7 (by decide) kf_X9_61 rfl rfl dX9_whom_31 ?_
        refine ro_callV (As := []) (rest := [nV i]) C hK (c_X8_carriers l g v v0 v1 v2 v3 v4 k nc nb bi mo) (hP.sub (ws' := [(v, .inr (6, [.ref v0, .ref v1, .ref v2, .ref v3, .ref v4, nV k, nV nc, nV nb, nV bi, nV mo]))]) [1] rfl) (ci := 6) (q0 := 0) rfl rfl kc_X8_carriers kl_X9_234 kn_X8 ki_X8_carriers ke_X8_carriers nk_X8_carriers (rm_lt (by decide) (by decide)) hl rfl (Nat.le_of_ble_eq_true rfl) dX9_whom_34 (fun r_7 hr_8 => ?_)
        subst hr_8
        refine r_cge 97 C dX9_whom_37 rfl ⟨rgN (by omega), rgN (by omega)⟩ (fun h_9 => ?_) (fun h_9 => ?_)
        · skip
          refine lv_iload_n C.1 C.2.1 dX9_whom_97 rfl (lv_at hl 2 rfl) ?_
          exact ret dX9_whom_98 (by unfold sWhom; rw [if_pos (by omega)]; show _ = iI (whF sg hu mi bi mo xn yn nc).1; rw [show nc = i by omega, hst])
        refine r_ldc2N 10 C kv_X9_213 dX9_whom_40 rfl ?_
        refine r_bipush 6 C dX9_whom_43 (by decide) ?_
        refine lv_aload_n C.1 C.2.1 dX9_whom_45 rfl (lv_at hl 3 rfl) ?_
        refine r_get C hK hP kw_X9 (ci := 7) rfl 0 7 (by decide) kf_X9_61 rfl rfl dX9_whom_46 ?_
        refine lv_iload C.1 C.2.1 dX9_whom_49 (lv_at hl 0 rfl) ?_
        refine ro_callV (As := [nV i]) (rest := [nV 6, mV 10]) C hK (c_X8_milesOf l g v v0 v1 v2 v3 v4 mi k nc nb bi mo i (by first | assumption | omega)) (hP.sub (ws' := [(v, .inr (6, [.ref v0, .ref v1, .ref v2, .ref v3, .ref v4, nV k, nV nc, nV nb, nV bi, nV mo])), (v3, cN g 5 mi)]) [1, 4] rfl) (ci := 6) (q0 := 0) rfl rfl kc_X8_milesOf kl_X9_215 kn_X8 ki_X8_milesOf ke_X8_milesOf nk_X8_milesOf (rm_lt (by decide) (by decide)) hl rfl (Nat.le_of_ble_eq_true rfl) dX9_whom_51 (fun r_10 hr_11 => ?_)
        subst hr_11
        have hf_12 := hmi (i)
        refine r_subN C dX9_whom_54 (by omega) ?_
        refine ro_callSL (As := [mV 10, nV (6 - (mi i))]) (rest := []) C hK (c_X2_power l g 10 (6 - (mi i)) (by first | assumption | omega)) (hP.sub (ws' := []) [] rfl) kc_X2_power kl_X9_218 kn_X2 ks_X2_power nk_X2_power (rm_lt (by decide) (by decide)) hl rfl (Nat.le_of_ble_eq_true rfl) dX9_whom_55 (fun r_13 hr_14 => ?_)
        subst hr_14
        refine lv_lstore (lv' := [(7, mV (10 ^ (6 - (mi i)))), (6, nV i), (4, jV mm), (3, zV bb), (0, .ref x0), (1, nV xn), (2, nV yn)]) C.1 C.2.1 dX9_whom_58 hl (by decide) rfl (fun ls hl => ?_)
        refine lv_aload_n C.1 C.2.1 dX9_whom_60 rfl (lv_at hl 4 rfl) ?_
        refine r_get C hK hP kw_X9 (ci := 7) rfl 0 7 (by decide) kf_X9_61 rfl rfl dX9_whom_61 ?_
        refine lv_iload_n C.1 C.2.1 dX9_whom_64 rfl (lv_at hl 5 rfl) ?_
        refine lv_iload C.1 C.2.1 dX9_whom_65 (lv_at hl 1 rfl) ?_
        refine lv_iload_n C.1 C.2.1 dX9_whom_67 rfl (lv_at hl 6 rfl) ?_
        refine ro_callVL (As := [nV xn, nV i, nV yn]) (rest := []) C hK (c_X8_waysRead l g v v0 v1 v2 v3 v4 sg hu mi k nc nb bi mo xn i yn (by first | assumption | omega) (by first | assumption | omega) (by first | assumption | omega) (by first | assumption | omega) (by first | assumption | omega) (by first | assumption | omega) (by first | assumption | omega)) (hP.sub (ws' := [(v, .inr (6, [.ref v0, .ref v1, .ref v2, .ref v3, .ref v4, nV k, nV nc, nV nb, nV bi, nV mo])), (v0, cN g 8 sg), (v2, cN g 5 hu), (v3, cN g 5 mi)]) [1, 2, 3, 4] rfl) (ci := 6) (q0 := 0) rfl rfl kc_X8_waysRead kl_X9_224 kn_X8 ki_X8_waysRead ke_X8_waysRead nk_X8_waysRead (rm_lt (by decide) (by decide)) hl rfl (Nat.le_of_ble_eq_true rfl) dX9_whom_68 (fun r_15 hr_16 => ?_)
        subst hr_16
        refine lv_lload C.1 C.2.1 dX9_whom_71 (lv_at hl 0 rfl) ?_
        refine r_lmulN C dX9_whom_73 ?_
        refine r_nameM (fun p9 hp9 => ?_)
        have hp8 : p9 ≤ 1000000 := by
          have h1 := wy_bd bi mo (sg xn) yn (hu i) (mi i) (hhu i) (hmi i)
          have h3 : 10 ^ mi i * 10 ^ (6 - mi i) = 1000000 := by rw [← Nat.pow_add, show mi i + (6 - mi i) = 6 by have := hmi i; omega]
          rw [hp9, ← h3]; exact Nat.mul_le_mul h1 (Nat.le_refl _)
        refine lv_lstore (lv' := [(9, mV p9), (7, mV (10 ^ (6 - (mi i)))), (6, nV i), (4, jV mm), (3, zV bb), (0, .ref x0), (1, nV xn), (2, nV yn)]) C.1 C.2.1 dX9_whom_74 hl (by decide) rfl (fun ls hl => ?_)
        refine lv_lload C.1 C.2.1 dX9_whom_76 (lv_at hl 0 rfl) ?_
        refine lv_lload C.1 C.2.1 dX9_whom_78 (lv_at hl 3 rfl) ?_
        refine r_lle 91 C dX9_whom_80 dX9_whom_81 rfl ⟨rlN (by omega), ⟨by omega, by omega⟩⟩ (fun g1 => ?_) (fun g1 => ?_)
        · skip
          refine r_incN (k := 2) (n := 1) [(6, nV (i + 1)), (9, mV p9), (7, mV (10 ^ (6 - (mi i)))), (4, jV mm), (3, zV bb), (0, .ref x0), (1, nV xn), (2, nV yn)] C dX9_whom_91 hl rfl rfl (by decide) rfl (fun ls hl => ?_)
          refine r_goto 28 C dX9_whom_94 rfl ?_
          exact ih_28 (i + 1) bb mm _ (by first | assumption | omega) (by show (if (whF sg hu mi bi mo xn yn i).2 < ((wy bi mo (sg xn) yn (hu i) (mi i) (mi i + 1) * 10 ^ (6 - mi i) : Nat) : Int) then _ else _) = _; rw [hst, ← hp9]; exact if_neg (by show ¬ mm < _; omega)) (by omega) (lv_sub hl [0, 3, 4, 5, 6, 7] rfl)
        refine lv_lload C.1 C.2.1 dX9_whom_84 (lv_at hl 0 rfl) ?_
        refine lv_lstore (lv' := [(4, mV p9), (9, mV p9), (7, mV (10 ^ (6 - (mi i)))), (6, nV i), (3, zV bb), (0, .ref x0), (1, nV xn), (2, nV yn)]) C.1 C.2.1 dX9_whom_86 hl (by decide) rfl (fun ls hl => ?_)
        refine lv_iload C.1 C.2.1 dX9_whom_88 (lv_at hl 3 rfl) ?_
        refine lv_istore_n (lv' := [(3, nV i), (4, mV p9), (9, mV p9), (7, mV (10 ^ (6 - (mi i)))), (6, nV i), (0, .ref x0), (1, nV xn), (2, nV yn)]) C.1 C.2.1 dX9_whom_90 rfl hl (by decide) rfl (fun ls hl => ?_)
        refine r_incN (k := 4) (n := 1) [(6, nV (i + 1)), (3, nV i), (4, mV p9), (9, mV p9), (7, mV (10 ^ (6 - (mi i)))), (0, .ref x0), (1, nV xn), (2, nV yn)] C dX9_whom_91 hl rfl rfl (by decide) rfl (fun ls hl => ?_)
        refine r_goto 28 C dX9_whom_94 rfl ?_
        exact ih_28 (i + 1) ((i : Nat) : Int) ((p9 : Nat) : Int) _ (by first | assumption | omega) (by show (if (whF sg hu mi bi mo xn yn i).2 < ((wy bi mo (sg xn) yn (hu i) (mi i) (mi i + 1) * 10 ^ (6 - mi i) : Nat) : Int) then _ else _) = _; rw [hst, ← hp9]; exact if_pos g1) (by omega) (lv_sub hl [0, 2, 1, 5, 6, 7] rfl)
    exact L28 (nc - 0 + 1) 0 (-4) (-1) _ (by first | assumption | omega) (rfl) (Nat.lt_succ_self _) (lv_sub hl [0, 1, 2, 3, 4, 5] rfl)
  refine r_iconstZ C dX9_whom_15 ?_
  exact ret dX9_whom_16 (by unfold sWhom; rw [if_neg (by omega)])
set_option maxHeartbeats 4000000 in
set_option maxRecDepth 100000 in
theorem c_X9_two (l : Launch) (g : GG) (x0 : Nat) (t : Nat) (rd0 : Nat) (q : Nat) (us : Nat) (ks : Nat) (rc0 : Nat) (se : Nat) (v : Nat) (vd : Nat) (v0 : Nat) (v1 : Nat) (v2 : Nat) (v3 : Nat) (v4 : Nat) (sg : Nat → Nat) (hu : Nat → Nat) (mi : Nat → Nat) (k : Nat) (nc : Nat) (nb : Nat) (bi : Nat) (mo : Nat) (x : Int) (y : Int) (w : Int) (z : Int) (z2 : Int) (hbm : (1 ≤ bi ∧ bi ≤ 9) ∧ (1 ≤ mo ∧ mo ≤ 9)) (hsg : ∀ j, sg j < 72) (hhu : ∀ j, hu j < 10) (hmi : ∀ j, mi j ≤ 6) (hk : k ≤ 8) (hnc : nc ≤ 5) (hx : rg x) (hy : rg y) (hw : rg w) (hz : rg z) (hz2 : rg z2) : ROl g l yX9_two cX9_two 14 (some .long) 5 [(x0, .inr (7, [.ref t, .ref rd0, .ref q, .ref us, .ref ks, .ref rc0, .ref se, .ref v, .ref vd])), (v, .inr (6, [.ref v0, .ref v1, .ref v2, .ref v3, .ref v4, nV k, nV nc, nV nb, nV bi, nV mo])), (v0, cN g 8 sg), (v2, cN g 5 hu), (v3, cN g 5 mi)] [.ref x0, zV x, zV y, zV w, zV z, zV z2] (fun r => r = lI (sTwo sg hu mi k nc bi mo x y w z z2)) := by
  refine ro_startL (by decide +kernel) (Nat.le_of_ble_eq_true rfl) ?_
  intro p e s m args below meth c Q ls C hK hP ret hl
  have C : CT p s m args meth c cX9_two RX9 14 := C
  have hl : lv_has ls 14 [(0, .ref x0), (1, zV x), (2, zV y), (3, zV w), (4, zV z), (5, zV z2)] := hl
  refine lv_aload_n C.1 C.2.1 dX9_two_0 rfl (lv_at hl 0 rfl) ?_
  refine lv_iload_n C.1 C.2.1 dX9_two_1 rfl (lv_at hl 1 rfl) ?_
  refine ro_callV (As := [zV x]) (rest := []) C hK (c_X9_isWord l g x0 t rd0 q us ks rc0 se v vd v0 v1 v2 v3 v4 k nc nb bi mo x (by first | assumption | omega) (by first | assumption | exact ⟨by omega, by omega⟩)) (hP.sub (ws' := [(x0, .inr (7, [.ref t, .ref rd0, .ref q, .ref us, .ref ks, .ref rc0, .ref se, .ref v, .ref vd])), (v, .inr (6, [.ref v0, .ref v1, .ref v2, .ref v3, .ref v4, nV k, nV nc, nV nb, nV bi, nV mo]))]) [0, 1] rfl) (ci := 7) (q0 := 0) rfl rfl kc_X9_isWord kl_X9_100 kn_X9 ki_X9_isWord ke_X9_isWord nk_X9_isWord (rm_lt (by decide) (by decide)) hl rfl (Nat.le_of_ble_eq_true rfl) dX9_two_2 (fun r_1 hr_2 => ?_)
  subst hr_2
  refine r_beq 45 C dX9_two_5 rfl (fun h_3 => ?_) (fun h_3 => ?_)
  · skip
    refine r_ldc2 (-1) C kv_X9_232 dX9_two_45 rfl ?_
    exact ret dX9_two_48 (by unfold sTwo; rw [if_neg (by omega)])
  refine lv_aload_n C.1 C.2.1 dX9_two_8 rfl (lv_at hl 0 rfl) ?_
  refine lv_iload_n C.1 C.2.1 dX9_two_9 rfl (lv_at hl 2 rfl) ?_
  refine ro_callV (As := [zV y]) (rest := []) C hK (c_X9_isCarrier l g x0 t rd0 q us ks rc0 se v vd v0 v1 v2 v3 v4 k nc nb bi mo y (by first | assumption | omega) (by first | assumption | exact ⟨by omega, by omega⟩)) (hP.sub (ws' := [(x0, .inr (7, [.ref t, .ref rd0, .ref q, .ref us, .ref ks, .ref rc0, .ref se, .ref v, .ref vd])), (v, .inr (6, [.ref v0, .ref v1, .ref v2, .ref v3, .ref v4, nV k, nV nc, nV nb, nV bi, nV mo]))]) [0, 1] rfl) (ci := 7) (q0 := 0) rfl rfl kc_X9_isCarrier kl_X9_204 kn_X9 ki_X9_isCarrier ke_X9_isCarrier nk_X9_isCarrier (rm_lt (by decide) (by decide)) hl rfl (Nat.le_of_ble_eq_true rfl) dX9_two_10 (fun r_4 hr_5 => ?_)
  subst hr_5
  refine r_beq 45 C dX9_two_13 rfl (fun h_6 => ?_) (fun h_6 => ?_)
  · skip
    refine r_ldc2 (-1) C kv_X9_232 dX9_two_45 rfl ?_
    exact ret dX9_two_48 (by unfold sTwo; rw [if_neg (by omega)])
  refine lv_aload_n C.1 C.2.1 dX9_two_16 rfl (lv_at hl 0 rfl) ?_
  refine lv_iload_n C.1 C.2.1 dX9_two_17 rfl (lv_at hl 3 rfl) ?_
  refine ro_callV (As := [zV w]) (rest := []) C hK (c_X9_isCarrier l g x0 t rd0 q us ks rc0 se v vd v0 v1 v2 v3 v4 k nc nb bi mo w (by first | assumption | omega) (by first | assumption | exact ⟨by omega, by omega⟩)) (hP.sub (ws' := [(x0, .inr (7, [.ref t, .ref rd0, .ref q, .ref us, .ref ks, .ref rc0, .ref se, .ref v, .ref vd])), (v, .inr (6, [.ref v0, .ref v1, .ref v2, .ref v3, .ref v4, nV k, nV nc, nV nb, nV bi, nV mo]))]) [0, 1] rfl) (ci := 7) (q0 := 0) rfl rfl kc_X9_isCarrier kl_X9_204 kn_X9 ki_X9_isCarrier ke_X9_isCarrier nk_X9_isCarrier (rm_lt (by decide) (by decide)) hl rfl (Nat.le_of_ble_eq_true rfl) dX9_two_18 (fun r_7 hr_8 => ?_)
  subst hr_8
  refine r_beq 45 C dX9_two_21 rfl (fun h_9 => ?_) (fun h_9 => ?_)
  · skip
    refine r_ldc2 (-1) C kv_X9_232 dX9_two_45 rfl ?_
    exact ret dX9_two_48 (by unfold sTwo; rw [if_neg (by omega)])
  refine lv_iload_n C.1 C.2.1 dX9_two_24 rfl (lv_at hl 2 rfl) ?_
  refine lv_iload_n C.1 C.2.1 dX9_two_25 rfl (lv_at hl 3 rfl) ?_
  refine r_ceq 45 C dX9_two_26 rfl ⟨⟨by omega, by omega⟩, ⟨by omega, by omega⟩⟩ (fun h_10 => ?_) (fun h_10 => ?_)
  · skip
    refine r_ldc2 (-1) C kv_X9_232 dX9_two_45 rfl ?_
    exact ret dX9_two_48 (by unfold sTwo; rw [if_neg (by omega)])
  refine lv_iload C.1 C.2.1 dX9_two_29 (lv_at hl 4 rfl) ?_
  refine ro_callS (As := [zV z]) (rest := []) C hK (c_X9_isAge l g z (by first | assumption | exact ⟨by omega, by omega⟩)) (hP.sub (ws' := []) [] rfl) kc_X9_isAge kl_X9_207 kn_X9 ks_X9_isAge nk_X9_isAge (rm_lt (by decide) (by decide)) hl rfl (Nat.le_of_ble_eq_true rfl) dX9_two_31 (fun r_11 hr_12 => ?_)
  subst hr_12
  refine r_beq 45 C dX9_two_34 rfl (fun h_13 => ?_) (fun h_13 => ?_)
  · skip
    refine r_ldc2 (-1) C kv_X9_232 dX9_two_45 rfl ?_
    exact ret dX9_two_48 (by unfold sTwo; rw [if_neg (by omega)])
  refine lv_iload C.1 C.2.1 dX9_two_37 (lv_at hl 5 rfl) ?_
  refine ro_callS (As := [zV z2]) (rest := []) C hK (c_X9_isChoice l g z2 (by first | assumption | exact ⟨by omega, by omega⟩)) (hP.sub (ws' := []) [] rfl) kc_X9_isChoice kl_X9_210 kn_X9 ks_X9_isChoice nk_X9_isChoice (rm_lt (by decide) (by decide)) hl rfl (Nat.le_of_ble_eq_true rfl) dX9_two_39 (fun r_14 hr_15 => ?_)
  subst hr_15
  refine r_bne 49 C dX9_two_42 rfl (fun h_16 => ?_) (fun h_16 => ?_)
  · skip
    obtain ⟨xn, rfl⟩ : ∃ n : Nat, x = (n : Int) := ⟨x.toNat, by omega⟩
    obtain ⟨yn, rfl⟩ : ∃ n : Nat, y = (n : Int) := ⟨y.toNat, by omega⟩
    obtain ⟨wn, rfl⟩ : ∃ n : Nat, w = (n : Int) := ⟨w.toNat, by omega⟩
    obtain ⟨zn, rfl⟩ : ∃ n : Nat, z = (n : Int) := ⟨z.toNat, by omega⟩
    obtain ⟨z2n, rfl⟩ : ∃ n : Nat, z2 = (n : Int) := ⟨z2.toNat, by omega⟩
    have hl : lv_has ls 14 [(0, .ref x0), (1, nV xn), (2, nV yn), (3, nV wn), (4, nV zn), (5, nV z2n)] := hl
    refine r_ldc2N 10 C kv_X9_213 dX9_two_49 rfl ?_
    refine lv_aload_n C.1 C.2.1 dX9_two_52 rfl (lv_at hl 0 rfl) ?_
    refine r_get C hK hP kw_X9 (ci := 7) rfl 0 7 (by decide) kf_X9_61 rfl rfl dX9_two_53 ?_
    refine lv_iload_n C.1 C.2.1 dX9_two_56 rfl (lv_at hl 2 rfl) ?_
    refine ro_callV (As := [nV yn]) (rest := [mV 10]) C hK (c_X8_milesOf l g v v0 v1 v2 v3 v4 mi k nc nb bi mo yn (by first | assumption | omega)) (hP.sub (ws' := [(v, .inr (6, [.ref v0, .ref v1, .ref v2, .ref v3, .ref v4, nV k, nV nc, nV nb, nV bi, nV mo])), (v3, cN g 5 mi)]) [1, 4] rfl) (ci := 6) (q0 := 0) rfl rfl kc_X8_milesOf kl_X9_215 kn_X8 ki_X8_milesOf ke_X8_milesOf nk_X8_milesOf (rm_lt (by decide) (by decide)) hl rfl (Nat.le_of_ble_eq_true rfl) dX9_two_57 (fun r_17 hr_18 => ?_)
    subst hr_18
    have hf_19 := hmi (yn)
    refine ro_callSL (As := [mV 10, nV (mi yn)]) (rest := []) C hK (c_X2_power l g 10 (mi yn) (by first | assumption | omega)) (hP.sub (ws' := []) [] rfl) kc_X2_power kl_X9_218 kn_X2 ks_X2_power nk_X2_power (rm_lt (by decide) (by decide)) hl rfl (Nat.le_of_ble_eq_true rfl) dX9_two_60 (fun r_20 hr_21 => ?_)
    subst hr_21
    have tb1 := ten_bd (hmi yn)
    refine r_nameM (fun p1 hp1 => ?_)
    refine lv_lstore (lv' := [(6, mV p1), (0, .ref x0), (1, nV xn), (2, nV yn), (3, nV wn), (4, nV zn), (5, nV z2n)]) C.1 C.2.1 dX9_two_63 hl (by decide) rfl (fun ls hl => ?_)
    refine r_ldc2N 10 C kv_X9_213 dX9_two_65 rfl ?_
    refine lv_aload_n C.1 C.2.1 dX9_two_68 rfl (lv_at hl 1 rfl) ?_
    refine r_get C hK hP kw_X9 (ci := 7) rfl 0 7 (by decide) kf_X9_61 rfl rfl dX9_two_69 ?_
    refine lv_iload_n C.1 C.2.1 dX9_two_72 rfl (lv_at hl 4 rfl) ?_
    refine ro_callV (As := [nV wn]) (rest := [mV 10]) C hK (c_X8_milesOf l g v v0 v1 v2 v3 v4 mi k nc nb bi mo wn (by first | assumption | omega)) (hP.sub (ws' := [(v, .inr (6, [.ref v0, .ref v1, .ref v2, .ref v3, .ref v4, nV k, nV nc, nV nb, nV bi, nV mo])), (v3, cN g 5 mi)]) [1, 4] rfl) (ci := 6) (q0 := 0) rfl rfl kc_X8_milesOf kl_X9_215 kn_X8 ki_X8_milesOf ke_X8_milesOf nk_X8_milesOf (rm_lt (by decide) (by decide)) hl rfl (Nat.le_of_ble_eq_true rfl) dX9_two_73 (fun r_22 hr_23 => ?_)
    subst hr_23
    have hf_24 := hmi (wn)
    refine ro_callSL (As := [mV 10, nV (mi wn)]) (rest := []) C hK (c_X2_power l g 10 (mi wn) (by first | assumption | omega)) (hP.sub (ws' := []) [] rfl) kc_X2_power kl_X9_218 kn_X2 ks_X2_power nk_X2_power (rm_lt (by decide) (by decide)) hl rfl (Nat.le_of_ble_eq_true rfl) dX9_two_76 (fun r_25 hr_26 => ?_)
    subst hr_26
    have tb2 := ten_bd (hmi wn)
    refine r_nameM (fun p2 hp2 => ?_)
    refine lv_lstore (lv' := [(8, mV p2), (6, mV p1), (0, .ref x0), (1, nV xn), (2, nV yn), (3, nV wn), (4, nV zn), (5, nV z2n)]) C.1 C.2.1 dX9_two_79 hl (by decide) rfl (fun ls hl => ?_)
    refine lv_lload C.1 C.2.1 dX9_two_81 (lv_at hl 1 rfl) ?_
    refine lv_aload_n C.1 C.2.1 dX9_two_83 rfl (lv_at hl 2 rfl) ?_
    refine r_get C hK hP kw_X9 (ci := 7) rfl 0 7 (by decide) kf_X9_61 rfl rfl dX9_two_84 ?_
    refine lv_iload_n C.1 C.2.1 dX9_two_87 rfl (lv_at hl 3 rfl) ?_
    refine lv_iload_n C.1 C.2.1 dX9_two_88 rfl (lv_at hl 4 rfl) ?_
    refine lv_iload C.1 C.2.1 dX9_two_89 (lv_at hl 6 rfl) ?_
    refine ro_callVL (As := [nV xn, nV yn, nV zn]) (rest := [mV p1]) C hK (c_X8_waysRead l g v v0 v1 v2 v3 v4 sg hu mi k nc nb bi mo xn yn zn (by first | assumption | omega) (by first | assumption | omega) (by first | assumption | omega) (by first | assumption | omega) (by first | assumption | omega) (by first | assumption | omega) (by first | assumption | omega)) (hP.sub (ws' := [(v, .inr (6, [.ref v0, .ref v1, .ref v2, .ref v3, .ref v4, nV k, nV nc, nV nb, nV bi, nV mo])), (v0, cN g 8 sg), (v2, cN g 5 hu), (v3, cN g 5 mi)]) [1, 2, 3, 4] rfl) (ci := 6) (q0 := 0) rfl rfl kc_X8_waysRead kl_X9_224 kn_X8 ki_X8_waysRead ke_X8_waysRead nk_X8_waysRead (rm_lt (by decide) (by decide)) hl rfl (Nat.le_of_ble_eq_true rfl) dX9_two_91 (fun r_27 hr_28 => ?_)
    subst hr_28
    have wb1 := wy_bd bi mo (sg xn) zn (hu yn) (mi yn) (hhu yn) (hmi yn)
    refine r_nameM (fun p3 hp3 => ?_)
    refine r_lsubN C dX9_two_94 (by omega) ?_
    refine lv_lload C.1 C.2.1 dX9_two_95 (lv_at hl 0 rfl) ?_
    refine lv_aload_n C.1 C.2.1 dX9_two_97 rfl (lv_at hl 2 rfl) ?_
    refine r_get C hK hP kw_X9 (ci := 7) rfl 0 7 (by decide) kf_X9_61 rfl rfl dX9_two_98 ?_
    refine lv_iload_n C.1 C.2.1 dX9_two_101 rfl (lv_at hl 3 rfl) ?_
    refine lv_iload_n C.1 C.2.1 dX9_two_102 rfl (lv_at hl 5 rfl) ?_
    refine lv_iload C.1 C.2.1 dX9_two_103 (lv_at hl 6 rfl) ?_
    refine ro_callVL (As := [nV xn, nV wn, nV zn]) (rest := [mV p2, mV (p1 - p3)]) C hK (c_X8_waysRead l g v v0 v1 v2 v3 v4 sg hu mi k nc nb bi mo xn wn zn (by first | assumption | omega) (by first | assumption | omega) (by first | assumption | omega) (by first | assumption | omega) (by first | assumption | omega) (by first | assumption | omega) (by first | assumption | omega)) (hP.sub (ws' := [(v, .inr (6, [.ref v0, .ref v1, .ref v2, .ref v3, .ref v4, nV k, nV nc, nV nb, nV bi, nV mo])), (v0, cN g 8 sg), (v2, cN g 5 hu), (v3, cN g 5 mi)]) [1, 2, 3, 4] rfl) (ci := 6) (q0 := 0) rfl rfl kc_X8_waysRead kl_X9_224 kn_X8 ki_X8_waysRead ke_X8_waysRead nk_X8_waysRead (rm_lt (by decide) (by decide)) hl rfl (Nat.le_of_ble_eq_true rfl) dX9_two_105 (fun r_29 hr_30 => ?_)
    subst hr_30
    have wb2 := wy_bd bi mo (sg xn) zn (hu wn) (mi wn) (hhu wn) (hmi wn)
    refine r_nameM (fun p4 hp4 => ?_)
    refine r_lsubN C dX9_two_108 (by omega) ?_
    refine r_lmulN C dX9_two_109 ?_
    refine r_nameM (fun p5 hp5 => ?_)
    refine lv_lstore (lv' := [(10, mV p5), (8, mV p2), (6, mV p1), (0, .ref x0), (1, nV xn), (2, nV yn), (3, nV wn), (4, nV zn), (5, nV z2n)]) C.1 C.2.1 dX9_two_110 hl (by decide) rfl (fun ls hl => ?_)
    refine lv_lload C.1 C.2.1 dX9_two_112 (lv_at hl 2 rfl) ?_
    refine lv_lload C.1 C.2.1 dX9_two_114 (lv_at hl 1 rfl) ?_
    refine r_lmulN C dX9_two_116 ?_
    refine r_nameM (fun p6 hp6 => ?_)
    have hp7 : p5 ≤ p6 := by rw [hp5, hp6]; exact Nat.mul_le_mul (Nat.sub_le _ _) (Nat.sub_le _ _)
    have hp8 : 1 ≤ p6 ∧ p6 ≤ 1000000000000 := by rw [hp6]; exact ⟨Nat.mul_pos (by omega) (by omega), Nat.le_trans (Nat.mul_le_mul (show p1 ≤ 1000000 by omega) (show p2 ≤ 1000000 by omega)) (by decide)⟩
    refine lv_lstore (lv' := [(12, mV p6), (10, mV p5), (8, mV p2), (6, mV p1), (0, .ref x0), (1, nV xn), (2, nV yn), (3, nV wn), (4, nV zn), (5, nV z2n)]) C.1 C.2.1 dX9_two_117 hl (by decide) rfl (fun ls hl => ?_)
    refine lv_lload C.1 C.2.1 dX9_two_119 (lv_at hl 0 rfl) ?_
    refine lv_lload C.1 C.2.1 dX9_two_121 (lv_at hl 1 rfl) ?_
    refine r_lsubN C dX9_two_123 (by omega) ?_
    refine lv_lload C.1 C.2.1 dX9_two_124 (lv_at hl 0 rfl) ?_
    refine lv_iload C.1 C.2.1 dX9_two_126 (lv_at hl 9 rfl) ?_
    refine ro_callSL (As := [mV (p6 - p5), mV p6, nV z2n]) (rest := []) C hK (c_X2_lowest l g (p6 - p5) p6 z2n (by first | assumption | omega) (by first | assumption | omega) (by first | assumption | omega)) (hP.sub (ws' := []) [] rfl) kc_X2_lowest kl_X9_228 kn_X2 ks_X2_lowest nk_X2_lowest (rm_lt (by decide) (by decide)) hl rfl (Nat.le_of_ble_eq_true rfl) dX9_two_128 (fun r_31 hr_32 => ?_)
    subst hr_32
    exact ret dX9_two_131 (by unfold sTwo; rw [if_pos (by omega)]; unfold tw; rw [hp6, hp5, hp4, hp3, hp2, hp1]; rfl)
  refine r_ldc2 (-1) C kv_X9_232 dX9_two_45 rfl ?_
  exact ret dX9_two_48 (by unfold sTwo; rw [if_neg (by omega)])
set_option maxHeartbeats 4000000 in
set_option maxRecDepth 100000 in
theorem c_X9_said (l : Launch) (g : GG) (x0 : Nat) (t : Nat) (rd0 : Nat) (q : Nat) (us : Nat) (ks : Nat) (rc0 : Nat) (se : Nat) (v : Nat) (vd : Nat) (v0 : Nat) (v1 : Nat) (v2 : Nat) (v3 : Nat) (v4 : Nat) (sg : Nat → Nat) (wo : Nat → Nat) (k : Nat) (nc : Nat) (nb : Nat) (bi : Nat) (mo : Nat) (x : Int) (y : Int) (hsg : ∀ j, sg j < 72) (hk : k ≤ 8) (hx : rg x) (hy : rg y) : ROi g l yX9_said cX9_said 7 (some .int) 4 [(x0, .inr (7, [.ref t, .ref rd0, .ref q, .ref us, .ref ks, .ref rc0, .ref se, .ref v, .ref vd])), (v, .inr (6, [.ref v0, .ref v1, .ref v2, .ref v3, .ref v4, nV k, nV nc, nV nb, nV bi, nV mo])), (v0, cN g 8 sg), (v1, cN g 8 wo)] [.ref x0, zV x, zV y] (fun r => r = sSaid sg wo k x y) := by
  refine ro_startI (by decide +kernel) (Nat.le_of_ble_eq_true rfl) ?_
  intro p e s m args below meth c Q ls C hK hP ret hl
  have C : CT p s m args meth c cX9_said RX9 7 := C
  have hl : lv_has ls 7 [(0, .ref x0), (1, zV x), (2, zV y)] := hl
  refine lv_iload_n C.1 C.2.1 dX9_said_0 rfl (lv_at hl 1 rfl) ?_
  refine r_iconst 0 C dX9_said_1 rfl ?_
  refine r_bipush 99 C dX9_said_2 (by decide) ?_
  refine ro_callS (As := [zV x, nV 0, nV 99]) (rest := []) C hK (c_X9_within l g x ((0 : Nat) : Int) ((99 : Nat) : Int) (by first | assumption | exact ⟨by omega, by omega⟩) (by first | assumption | exact ⟨by omega, by omega⟩) (by first | assumption | exact ⟨by omega, by omega⟩)) (hP.sub (ws' := []) [] rfl) kc_X9_within kl_X9_72 kn_X9 ks_X9_within nk_X9_within (rm_lt (by decide) (by decide)) hl rfl (Nat.le_of_ble_eq_true rfl) dX9_said_4 (fun r_1 hr_2 => ?_)
  subst hr_2
  refine r_beq 17 C dX9_said_7 rfl (fun h_3 => ?_) (fun h_3 => ?_)
  · skip
    refine r_iconstZ C dX9_said_17 ?_
    exact ret dX9_said_18 (by unfold sSaid; rw [if_neg (by omega)])
  refine lv_iload_n C.1 C.2.1 dX9_said_10 rfl (lv_at hl 2 rfl) ?_
  refine ro_callS (As := [zV y]) (rest := []) C hK (c_X9_isChoice l g y (by first | assumption | exact ⟨by omega, by omega⟩)) (hP.sub (ws' := []) [] rfl) kc_X9_isChoice kl_X9_210 kn_X9 ks_X9_isChoice nk_X9_isChoice (rm_lt (by decide) (by decide)) hl rfl (Nat.le_of_ble_eq_true rfl) dX9_said_11 (fun r_4 hr_5 => ?_)
  subst hr_5
  refine r_bne 19 C dX9_said_14 rfl (fun h_6 => ?_) (fun h_6 => ?_)
  · skip
    obtain ⟨xn, rfl⟩ : ∃ n : Nat, x = (n : Int) := ⟨x.toNat, by omega⟩
    have hl : lv_has ls 7 [(0, .ref x0), (1, nV xn), (2, zV y)] := hl
    refine r_iconst 0 C dX9_said_19 rfl ?_
    refine lv_istore_n (lv' := [(3, nV 0), (0, .ref x0), (1, nV xn), (2, zV y)]) C.1 C.2.1 dX9_said_20 rfl hl (by decide) rfl (fun ls hl => ?_)
    refine r_iconst 0 C dX9_said_21 rfl ?_
    refine lv_istore (lv' := [(4, nV 0), (3, nV 0), (0, .ref x0), (1, nV xn), (2, zV y)]) C.1 C.2.1 dX9_said_22 hl (by decide) rfl (fun ls hl => ?_)
    refine r_iconst 1 C dX9_said_24 rfl ?_
    refine lv_istore (lv' := [(5, nV 1), (4, nV 0), (3, nV 0), (0, .ref x0), (1, nV xn), (2, zV y)]) C.1 C.2.1 dX9_said_25 hl (by decide) rfl (fun ls hl => ?_)
    have L27 : ∀ (n_27 : Nat) (i : Nat) (bb : Nat) (mm : Int32) (ls : Array Slot) (hi : 1 ≤ i ∧ i ≤ 2 ^ k) (hst : sdF sg wo k xn (i - 1) = (bb, mm)) (hm : 2 ^ k - i < n_27) (hl : lv_has ls 7 [(5, nV i), (4, .int mm), (3, nV bb), (0, .ref x0), (1, nV xn), (2, zV y)]), W p l e (rD 4) s m args below meth c s.heap [] 0 0 Q (F0 m 27 ls []) := by
      intro n_27
      induction n_27 with
      | zero => intro i bb mm ls hi hst hm hl; exact absurd hm (Nat.not_lt_zero _)
      | succ n_27 ih_27 =>
        intro i bb mm ls hi hst hm hl
        have h2k := pw8 hk
        refine lv_iload C.1 C.2.1 dX9_said_27 (lv_at hl 0 rfl) ?_
        refine r_iconst 1 C dX9_said_29 rfl ?_
        refine lv_aload_n C.1 C.2.1 dX9_said_30 rfl (lv_at hl 3 rfl) ?_
        refine r_get C hK hP kw_X9 (ci := 7) rfl 0 7 (by decide) kf_X9_61 rfl rfl dX9_said_31 ?_
        refine ro_callV (As := []) (rest := [nV 1, nV i]) C hK (c_X8_words l g v v0 v1 v2 v3 v4 k nc nb bi mo) (hP.sub (ws' := [(v, .inr (6, [.ref v0, .ref v1, .ref v2, .ref v3, .ref v4, nV k, nV nc, nV nb, nV bi, nV mo]))]) [1] rfl) (ci := 6) (q0 := 0) rfl rfl kc_X8_words kl_X9_95 kn_X8 ki_X8_words ke_X8_words nk_X8_words (rm_lt (by decide) (by decide)) hl rfl (Nat.le_of_ble_eq_true rfl) dX9_said_34 (fun r_7 hr_8 => ?_)
        subst hr_8
        refine lv_ishl C.1 C.2.1 dX9_said_37 ?_
        refine r_topRN (2 ^ k) (by exact shl_1 k (by omega)) ?_
        refine r_cge 85 C dX9_said_38 rfl ⟨rgN (by omega), rgN (by omega)⟩ (fun h_9 => ?_) (fun h_9 => ?_)
        · skip
          refine lv_iload_n C.1 C.2.1 dX9_said_85 rfl (lv_at hl 5 rfl) ?_
          refine r_ine 93 C dX9_said_86 rfl (⟨by omega, by omega⟩) (fun h_10 => ?_) (fun h_10 => ?_)
          · skip
            refine lv_iload C.1 C.2.1 dX9_said_93 (lv_at hl 1 rfl) ?_
            exact ret dX9_said_95 (by unfold sSaid; rw [if_pos (by omega), if_neg (by omega)]; show _ = (sdF sg wo k xn (2 ^ k - 1)).2; rw [show 2 ^ k = i by omega, hst])
          refine lv_iload_n C.1 C.2.1 dX9_said_89 rfl (lv_at hl 2 rfl) ?_
          refine r_goto 95 C dX9_said_90 rfl ?_
          exact ret dX9_said_95 (by unfold sSaid; rw [if_pos (by omega), if_pos (by omega)]; show _ = iI (((sdF sg wo k xn (2 ^ k - 1)).1 : Nat) : Int); rw [show 2 ^ k = i by omega, hst])
        refine lv_aload_n C.1 C.2.1 dX9_said_41 rfl (lv_at hl 3 rfl) ?_
        refine r_get C hK hP kw_X9 (ci := 7) rfl 0 7 (by decide) kf_X9_61 rfl rfl dX9_said_42 ?_
        refine lv_iload C.1 C.2.1 dX9_said_45 (lv_at hl 0 rfl) ?_
        refine ro_callV (As := [nV i]) (rest := []) C hK (c_X8_worthOfSet l g v v0 v1 v2 v3 v4 wo k nc nb bi mo (iI ((i : Nat) : Int)) (by first | assumption | omega)) (hP.sub (ws' := [(v, .inr (6, [.ref v0, .ref v1, .ref v2, .ref v3, .ref v4, nV k, nV nc, nV nb, nV bi, nV mo])), (v1, cN g 8 wo)]) [1, 3] rfl) (ci := 6) (q0 := 0) rfl rfl kc_X8_worthOfSet kl_X9_237 kn_X8 ki_X8_worthOfSet ke_X8_worthOfSet nk_X8_worthOfSet (rm_lt (by decide) (by decide)) hl rfl (Nat.le_of_ble_eq_true rfl) dX9_said_47 (fun r_11 hr_12 => ?_)
        subst hr_12
        refine lv_istore (lv' := [(6, .int (wsum wo (iI ((i : Nat) : Int)) k)), (5, nV i), (4, .int mm), (3, nV bb), (0, .ref x0), (1, nV xn), (2, zV y)]) C.1 C.2.1 dX9_said_50 hl (by decide) rfl (fun ls hl => ?_)
        refine lv_iload C.1 C.2.1 dX9_said_52 (lv_at hl 0 rfl) ?_
        refine lv_iload C.1 C.2.1 dX9_said_54 (lv_at hl 2 rfl) ?_
        refine lv_icmp_le (tgt := 79) C.1 C.2.1 dX9_said_56 rfl (fun g1 => ?_) (fun g1 => ?_)
        · skip
          refine r_incN (k := 1) (n := 1) [(5, nV (i + 1)), (6, .int (wsum wo (iI ((i : Nat) : Int)) k)), (4, .int mm), (3, nV bb), (0, .ref x0), (1, nV xn), (2, zV y)] C dX9_said_79 hl rfl rfl (by decide) rfl (fun ls hl => ?_)
          refine r_goto 27 C dX9_said_82 rfl ?_
          exact ih_27 (i + 1) bb mm _ (by first | assumption | omega) (by obtain ⟨i2, rfl⟩ : ∃ i2, i = i2 + 1 := ⟨i - 1, by omega⟩; rw [Nat.add_sub_cancel] at hst ⊢; show (if (sdF sg wo k xn i2).2 < wsum wo (iI ((i2 + 1 : Nat) : Int)) k ∧ wsum (fun j => fl (sg j)) (iI ((i2 + 1 : Nat) : Int)) k ≤ iI ((xn : Nat) : Int) then _ else _) = _; rw [hst]; exact if_neg (fun q => by first | exact absurd g1 (Int32.not_le.mpr q.1) | exact absurd g2 (Int32.not_lt.mpr q.2))) (by omega) (lv_sub hl [0, 2, 3, 4, 5, 6] rfl)
        refine lv_aload_n C.1 C.2.1 dX9_said_59 rfl (lv_at hl 4 rfl) ?_
        refine r_get C hK hP kw_X9 (ci := 7) rfl 0 7 (by decide) kf_X9_61 rfl rfl dX9_said_60 ?_
        refine lv_iload C.1 C.2.1 dX9_said_63 (lv_at hl 1 rfl) ?_
        refine ro_callV (As := [nV i]) (rest := []) C hK (c_X8_flourOfSet l g v v0 v1 v2 v3 v4 sg k nc nb bi mo (iI ((i : Nat) : Int)) (by first | assumption | omega) (by first | assumption | omega)) (hP.sub (ws' := [(v, .inr (6, [.ref v0, .ref v1, .ref v2, .ref v3, .ref v4, nV k, nV nc, nV nb, nV bi, nV mo])), (v0, cN g 8 sg)]) [1, 2] rfl) (ci := 6) (q0 := 0) rfl rfl kc_X8_flourOfSet kl_X9_240 kn_X8 ki_X8_flourOfSet ke_X8_flourOfSet nk_X8_flourOfSet (rm_lt (by decide) (by decide)) hl rfl (Nat.le_of_ble_eq_true rfl) dX9_said_65 (fun r_13 hr_14 => ?_)
        subst hr_14
        refine lv_iload_n C.1 C.2.1 dX9_said_68 rfl (lv_at hl 5 rfl) ?_
        refine lv_icmp_gt (tgt := 79) C.1 C.2.1 dX9_said_69 rfl (fun g2 => ?_) (fun g2 => ?_)
        · skip
          refine r_incN (k := 1) (n := 1) [(5, nV (i + 1)), (6, .int (wsum wo (iI ((i : Nat) : Int)) k)), (4, .int mm), (3, nV bb), (0, .ref x0), (1, nV xn), (2, zV y)] C dX9_said_79 hl rfl rfl (by decide) rfl (fun ls hl => ?_)
          refine r_goto 27 C dX9_said_82 rfl ?_
          exact ih_27 (i + 1) bb mm _ (by first | assumption | omega) (by obtain ⟨i2, rfl⟩ : ∃ i2, i = i2 + 1 := ⟨i - 1, by omega⟩; rw [Nat.add_sub_cancel] at hst ⊢; show (if (sdF sg wo k xn i2).2 < wsum wo (iI ((i2 + 1 : Nat) : Int)) k ∧ wsum (fun j => fl (sg j)) (iI ((i2 + 1 : Nat) : Int)) k ≤ iI ((xn : Nat) : Int) then _ else _) = _; rw [hst]; exact if_neg (fun q => by first | exact absurd g1 (Int32.not_le.mpr q.1) | exact absurd g2 (Int32.not_lt.mpr q.2))) (by omega) (lv_sub hl [0, 2, 3, 4, 5, 6] rfl)
        refine lv_iload C.1 C.2.1 dX9_said_72 (lv_at hl 0 rfl) ?_
        refine lv_istore (lv' := [(4, .int (wsum wo (iI ((i : Nat) : Int)) k)), (6, .int (wsum wo (iI ((i : Nat) : Int)) k)), (5, nV i), (3, nV bb), (0, .ref x0), (1, nV xn), (2, zV y)]) C.1 C.2.1 dX9_said_74 hl (by decide) rfl (fun ls hl => ?_)
        refine lv_iload C.1 C.2.1 dX9_said_76 (lv_at hl 2 rfl) ?_
        refine lv_istore_n (lv' := [(3, nV i), (4, .int (wsum wo (iI ((i : Nat) : Int)) k)), (6, .int (wsum wo (iI ((i : Nat) : Int)) k)), (5, nV i), (0, .ref x0), (1, nV xn), (2, zV y)]) C.1 C.2.1 dX9_said_78 rfl hl (by decide) rfl (fun ls hl => ?_)
        refine r_incN (k := 3) (n := 1) [(5, nV (i + 1)), (3, nV i), (4, .int (wsum wo (iI ((i : Nat) : Int)) k)), (6, .int (wsum wo (iI ((i : Nat) : Int)) k)), (0, .ref x0), (1, nV xn), (2, zV y)] C dX9_said_79 hl rfl rfl (by decide) rfl (fun ls hl => ?_)
        refine r_goto 27 C dX9_said_82 rfl ?_
        exact ih_27 (i + 1) i (wsum wo (iI ((i : Nat) : Int)) k) _ (by first | assumption | omega) (by obtain ⟨i2, rfl⟩ : ∃ i2, i = i2 + 1 := ⟨i - 1, by omega⟩; rw [Nat.add_sub_cancel] at hst ⊢; show (if (sdF sg wo k xn i2).2 < wsum wo (iI ((i2 + 1 : Nat) : Int)) k ∧ wsum (fun j => fl (sg j)) (iI ((i2 + 1 : Nat) : Int)) k ≤ iI ((xn : Nat) : Int) then _ else _) = _; rw [hst]; exact if_pos ⟨Int32.not_le.mp g1, Int32.not_lt.mp g2⟩) (by omega) (lv_sub hl [0, 2, 1, 4, 5, 6] rfl)
    exact L27 (2 ^ k - 1 + 1) 1 0 (iI ((0 : Nat) : Int)) _ (⟨Nat.le_refl 1, Nat.one_le_two_pow⟩) (rfl) (Nat.lt_succ_self _) (lv_sub hl [0, 1, 2, 3, 4, 5] rfl)
  refine r_iconstZ C dX9_said_17 ?_
  exact ret dX9_said_18 (by unfold sSaid; rw [if_neg (by omega)])
set_option maxHeartbeats 4000000 in
set_option maxRecDepth 100000 in
theorem c_J6_bitCount_0f7a4 (l : Launch) (g : GG) (x : Nat) (hx : x < 32) : ROi g l yJ6_bitCount_0f7a4 cJ6_bitCount_0f7a4 1 (some .int) 1 [] [nV x] (fun r => r = iI ((ct x.testBit 8 : Nat) : Int)) := by
  refine ro_startI (by decide +kernel) (Nat.le_of_ble_eq_true rfl) ?_
  intro p e s m args below meth c Q ls C hK hP ret hl
  have C : CT p s m args meth c cJ6_bitCount_0f7a4 RJ6 1 := C
  have hl : lv_has ls 1 [(0, nV x)] := hl
  refine lv_iload_n C.1 C.2.1 dJ6_bitCount_0f7a4_0 rfl (lv_at hl 0 rfl) ?_
  refine lv_iload_n C.1 C.2.1 dJ6_bitCount_0f7a4_1 rfl (lv_at hl 0 rfl) ?_
  refine r_iconst 1 C dJ6_bitCount_0f7a4_2 rfl ?_
  refine lv_iushr C.1 C.2.1 dJ6_bitCount_0f7a4_3 rfl ?_
  refine r_ldcwR C kv_J6_265 dJ6_bitCount_0f7a4_4 ?_
  refine lv_iand C.1 C.2.1 dJ6_bitCount_0f7a4_7 ?_
  refine lv_isub C.1 C.2.1 dJ6_bitCount_0f7a4_8 ?_
  refine r_nameR (fun a1 ha1 => ?_)
  refine lv_istore_n (lv' := [(0, .int a1)]) C.1 C.2.1 dJ6_bitCount_0f7a4_9 rfl hl (by decide) rfl (fun ls hl => ?_)
  refine lv_iload_n C.1 C.2.1 dJ6_bitCount_0f7a4_10 rfl (lv_at hl 0 rfl) ?_
  refine r_ldcwR C kv_J6_266 dJ6_bitCount_0f7a4_11 ?_
  refine lv_iand C.1 C.2.1 dJ6_bitCount_0f7a4_14 ?_
  refine lv_iload_n C.1 C.2.1 dJ6_bitCount_0f7a4_15 rfl (lv_at hl 0 rfl) ?_
  refine r_iconst 2 C dJ6_bitCount_0f7a4_16 rfl ?_
  refine lv_iushr C.1 C.2.1 dJ6_bitCount_0f7a4_17 rfl ?_
  refine r_ldcwR C kv_J6_266 dJ6_bitCount_0f7a4_18 ?_
  refine lv_iand C.1 C.2.1 dJ6_bitCount_0f7a4_21 ?_
  refine lv_iadd C.1 C.2.1 dJ6_bitCount_0f7a4_22 ?_
  refine r_nameR (fun a2 ha2 => ?_)
  refine lv_istore_n (lv' := [(0, .int a2)]) C.1 C.2.1 dJ6_bitCount_0f7a4_23 rfl hl (by decide) rfl (fun ls hl => ?_)
  refine lv_iload_n C.1 C.2.1 dJ6_bitCount_0f7a4_24 rfl (lv_at hl 0 rfl) ?_
  refine lv_iload_n C.1 C.2.1 dJ6_bitCount_0f7a4_25 rfl (lv_at hl 0 rfl) ?_
  refine r_iconst 4 C dJ6_bitCount_0f7a4_26 rfl ?_
  refine lv_iushr C.1 C.2.1 dJ6_bitCount_0f7a4_27 rfl ?_
  refine lv_iadd C.1 C.2.1 dJ6_bitCount_0f7a4_28 ?_
  refine r_ldcwR C kv_J6_267 dJ6_bitCount_0f7a4_29 ?_
  refine lv_iand C.1 C.2.1 dJ6_bitCount_0f7a4_32 ?_
  refine r_nameR (fun a3 ha3 => ?_)
  refine lv_istore_n (lv' := [(0, .int a3)]) C.1 C.2.1 dJ6_bitCount_0f7a4_33 rfl hl (by decide) rfl (fun ls hl => ?_)
  refine lv_iload_n C.1 C.2.1 dJ6_bitCount_0f7a4_34 rfl (lv_at hl 0 rfl) ?_
  refine lv_iload_n C.1 C.2.1 dJ6_bitCount_0f7a4_35 rfl (lv_at hl 0 rfl) ?_
  refine r_bipush 8 C dJ6_bitCount_0f7a4_36 (by decide) ?_
  refine lv_iushr C.1 C.2.1 dJ6_bitCount_0f7a4_38 rfl ?_
  refine lv_iadd C.1 C.2.1 dJ6_bitCount_0f7a4_39 ?_
  refine r_nameR (fun a4 ha4 => ?_)
  refine lv_istore_n (lv' := [(0, .int a4)]) C.1 C.2.1 dJ6_bitCount_0f7a4_40 rfl hl (by decide) rfl (fun ls hl => ?_)
  refine lv_iload_n C.1 C.2.1 dJ6_bitCount_0f7a4_41 rfl (lv_at hl 0 rfl) ?_
  refine lv_iload_n C.1 C.2.1 dJ6_bitCount_0f7a4_42 rfl (lv_at hl 0 rfl) ?_
  refine r_bipush 16 C dJ6_bitCount_0f7a4_43 (by decide) ?_
  refine lv_iushr C.1 C.2.1 dJ6_bitCount_0f7a4_45 rfl ?_
  refine lv_iadd C.1 C.2.1 dJ6_bitCount_0f7a4_46 ?_
  refine r_nameR (fun a5 ha5 => ?_)
  refine lv_istore_n (lv' := [(0, .int a5)]) C.1 C.2.1 dJ6_bitCount_0f7a4_47 rfl hl (by decide) rfl (fun ls hl => ?_)
  refine lv_iload_n C.1 C.2.1 dJ6_bitCount_0f7a4_48 rfl (lv_at hl 0 rfl) ?_
  refine r_bipush 63 C dJ6_bitCount_0f7a4_49 (by decide) ?_
  refine lv_iand C.1 C.2.1 dJ6_bitCount_0f7a4_51 ?_
  exact ret dJ6_bitCount_0f7a4_52 (bi_ok hx ha1 ha2 ha3 ha4 ha5)
set_option maxHeartbeats 4000000 in
set_option maxRecDepth 100000 in
theorem c_J6_numberOfTrailingZeros_0f7a4 (l : Launch) (g : GG) (x : Nat) (hx : 1 ≤ x ∧ x < 32) : ROi g l yJ6_numberOfTrailingZeros_0f7a4 cJ6_numberOfTrailingZeros_0f7a4 2 (some .int) 1 [] [nV x] (fun r => r = iI ((ntz x : Nat) : Int)) := by
  refine ro_startI (by decide +kernel) (Nat.le_of_ble_eq_true rfl) ?_
  intro p e s m args below meth c Q ls C hK hP ret hl
  have C : CT p s m args meth c cJ6_numberOfTrailingZeros_0f7a4 RJ6 2 := C
  have hl : lv_has ls 2 [(0, nV x)] := hl
  refine lv_iload_n C.1 C.2.1 dJ6_numberOfTrailingZeros_0f7a4_0 rfl (lv_at hl 0 rfl) ?_
  refine r_iconstZ C dJ6_numberOfTrailingZeros_0f7a4_1 ?_
  refine lv_ixor C.1 C.2.1 dJ6_numberOfTrailingZeros_0f7a4_2 ?_
  refine lv_iload_n C.1 C.2.1 dJ6_numberOfTrailingZeros_0f7a4_3 rfl (lv_at hl 0 rfl) ?_
  refine r_iconst 1 C dJ6_numberOfTrailingZeros_0f7a4_4 rfl ?_
  refine r_subN C dJ6_numberOfTrailingZeros_0f7a4_5 (by omega) ?_
  refine lv_iand C.1 C.2.1 dJ6_numberOfTrailingZeros_0f7a4_6 ?_
  refine r_topRN (nz x) (by exact nz_ok hx.2 hx.1) ?_
  refine r_nameN (fun a1 ha1 => ?_)
  have hnz : a1 < 16 := by rw [ha1]; exact nz_bd hx.2
  refine lv_istore_n (lv' := [(0, nV a1)]) C.1 C.2.1 dJ6_numberOfTrailingZeros_0f7a4_7 rfl hl (by decide) rfl (fun ls hl => ?_)
  refine lv_iload_n C.1 C.2.1 dJ6_numberOfTrailingZeros_0f7a4_8 rfl (lv_at hl 0 rfl) ?_
  refine r_igt 17 C dJ6_numberOfTrailingZeros_0f7a4_9 rfl (rgN (by omega)) (fun g1 => ?_) (fun g1 => ?_)
  · skip
    refine r_iconst 1 C dJ6_numberOfTrailingZeros_0f7a4_17 rfl ?_
    refine lv_istore_n (lv' := [(1, nV 1), (0, nV a1)]) C.1 C.2.1 dJ6_numberOfTrailingZeros_0f7a4_18 rfl hl (by decide) rfl (fun ls hl => ?_)
    refine lv_iload_n C.1 C.2.1 dJ6_numberOfTrailingZeros_0f7a4_19 rfl (lv_at hl 1 rfl) ?_
    refine r_ldcwR C kv_J6_264 dJ6_numberOfTrailingZeros_0f7a4_20 ?_
    refine r_topRN (65536) (by decide) ?_
    refine r_cle 34 C dJ6_numberOfTrailingZeros_0f7a4_23 rfl ⟨rgN (by omega), rgN (by decide)⟩ (fun h_1 => ?_) (fun h_1 => ?_)
    rotate_left
    · exact absurd h_1 (by omega)
    refine lv_iload_n C.1 C.2.1 dJ6_numberOfTrailingZeros_0f7a4_34 rfl (lv_at hl 1 rfl) ?_
    refine r_sipush 256 C dJ6_numberOfTrailingZeros_0f7a4_35 (by decide) ?_
    refine r_cle 49 C dJ6_numberOfTrailingZeros_0f7a4_38 rfl ⟨rgN (by omega), rgN (by decide)⟩ (fun h_2 => ?_) (fun h_2 => ?_)
    rotate_left
    · exact absurd h_2 (by omega)
    refine lv_iload_n C.1 C.2.1 dJ6_numberOfTrailingZeros_0f7a4_49 rfl (lv_at hl 1 rfl) ?_
    refine r_bipush 16 C dJ6_numberOfTrailingZeros_0f7a4_50 (by decide) ?_
    refine r_cle 62 C dJ6_numberOfTrailingZeros_0f7a4_52 rfl ⟨rgN (by omega), rgN (by decide)⟩ (fun h_3 => ?_) (fun h_3 => ?_)
    rotate_left
    · exact absurd h_3 (by omega)
    refine lv_iload_n C.1 C.2.1 dJ6_numberOfTrailingZeros_0f7a4_62 rfl (lv_at hl 1 rfl) ?_
    refine r_iconst 4 C dJ6_numberOfTrailingZeros_0f7a4_63 rfl ?_
    refine r_cle 74 C dJ6_numberOfTrailingZeros_0f7a4_64 rfl ⟨rgN (by omega), rgN (by decide)⟩ (fun g4 => ?_) (fun g4 => ?_)
    · skip
      refine lv_iload_n C.1 C.2.1 dJ6_numberOfTrailingZeros_0f7a4_74 rfl (lv_at hl 0 rfl) ?_
      refine lv_iload_n C.1 C.2.1 dJ6_numberOfTrailingZeros_0f7a4_75 rfl (lv_at hl 1 rfl) ?_
      refine r_iconst 1 C dJ6_numberOfTrailingZeros_0f7a4_76 rfl ?_
      refine lv_iushr C.1 C.2.1 dJ6_numberOfTrailingZeros_0f7a4_77 rfl ?_
      refine r_topRN (a1 / 2) (by exact ush_N (by omega) 1 (by decide)) ?_
      refine r_addN C dJ6_numberOfTrailingZeros_0f7a4_78 ?_
      exact ret dJ6_numberOfTrailingZeros_0f7a4_79 (iI_cast (by have e := ntz_ok hx.2 hx.1; rw [← ha1, if_neg (by omega)] at e; first | (rw [if_pos (by omega)] at e; omega) | (rw [if_neg (by omega)] at e; omega)))
    refine r_incN (k := 0) (n := 2) [(1, nV (1 + 2)), (0, nV a1)] C dJ6_numberOfTrailingZeros_0f7a4_67 hl rfl rfl (by decide) rfl (fun ls hl => ?_)
    refine lv_iload_n C.1 C.2.1 dJ6_numberOfTrailingZeros_0f7a4_70 rfl (lv_at hl 1 rfl) ?_
    refine r_iconst 2 C dJ6_numberOfTrailingZeros_0f7a4_71 rfl ?_
    refine lv_iushr C.1 C.2.1 dJ6_numberOfTrailingZeros_0f7a4_72 rfl ?_
    refine r_topRN (a1 / 4) (by exact ush_N (by omega) 2 (by decide)) ?_
    refine lv_istore_n (lv' := [(0, nV (a1 / 4)), (1, nV (1 + 2))]) C.1 C.2.1 dJ6_numberOfTrailingZeros_0f7a4_73 rfl hl (by decide) rfl (fun ls hl => ?_)
    refine lv_iload_n C.1 C.2.1 dJ6_numberOfTrailingZeros_0f7a4_74 rfl (lv_at hl 1 rfl) ?_
    refine lv_iload_n C.1 C.2.1 dJ6_numberOfTrailingZeros_0f7a4_75 rfl (lv_at hl 0 rfl) ?_
    refine r_iconst 1 C dJ6_numberOfTrailingZeros_0f7a4_76 rfl ?_
    refine lv_iushr C.1 C.2.1 dJ6_numberOfTrailingZeros_0f7a4_77 rfl ?_
    refine r_topRN (a1 / 4 / 2) (by exact ush_N (by omega) 1 (by decide)) ?_
    refine r_addN C dJ6_numberOfTrailingZeros_0f7a4_78 ?_
    exact ret dJ6_numberOfTrailingZeros_0f7a4_79 (iI_cast (by have e := ntz_ok hx.2 hx.1; rw [← ha1, if_neg (by omega)] at e; first | (rw [if_pos (by omega)] at e; omega) | (rw [if_neg (by omega)] at e; omega)))
  refine lv_iload_n C.1 C.2.1 dJ6_numberOfTrailingZeros_0f7a4_12 rfl (lv_at hl 0 rfl) ?_
  refine r_bipush 32 C dJ6_numberOfTrailingZeros_0f7a4_13 (by decide) ?_
  refine lv_iand C.1 C.2.1 dJ6_numberOfTrailingZeros_0f7a4_15 ?_
  exact ret dJ6_numberOfTrailingZeros_0f7a4_16 (by have e := ntz_ok hx.2 hx.1; rw [← ha1, if_pos (by omega)] at e; rw [e, show a1 = 0 by omega]; rfl)
set_option maxHeartbeats 4000000 in
set_option maxRecDepth 100000 in
theorem c_X9_told (l : Launch) (g : GG) (x0 : Nat) (t : Nat) (rd0 : Nat) (q : Nat) (us : Nat) (ks : Nat) (rc0 : Nat) (se : Nat) (v : Nat) (vd : Nat) (v0 : Nat) (v1 : Nat) (v2 : Nat) (v3 : Nat) (v4 : Nat) (kn : Nat → Nat) (k : Nat) (nc : Nat) (nb : Nat) (bi : Nat) (mo : Nat) (x : Int) (y : Int) (hnb : nb ≤ 5) (hx : rg x) (hy : rg y) : ROi g l yX9_told cX9_told 4 (some .int) 4 [(x0, .inr (7, [.ref t, .ref rd0, .ref q, .ref us, .ref ks, .ref rc0, .ref se, .ref v, .ref vd])), (v, .inr (6, [.ref v0, .ref v1, .ref v2, .ref v3, .ref v4, nV k, nV nc, nV nb, nV bi, nV mo])), (v4, cN g 5 kn)] [.ref x0, zV x, zV y] (fun r => r = iI (sTold kn nb x y)) := by
  refine ro_startI (by decide +kernel) (Nat.le_of_ble_eq_true rfl) ?_
  intro p e s m args below meth c Q ls C hK hP ret hl
  have C : CT p s m args meth c cX9_told RX9 4 := C
  have hl : lv_has ls 4 [(0, .ref x0), (1, zV x), (2, zV y)] := hl
  refine lv_iload_n C.1 C.2.1 dX9_told_0 rfl (lv_at hl 1 rfl) ?_
  refine r_iconst 0 C dX9_told_1 rfl ?_
  refine r_bipush 63 C dX9_told_2 (by decide) ?_
  refine ro_callS (As := [zV x, nV 0, nV 63]) (rest := []) C hK (c_X9_within l g x ((0 : Nat) : Int) ((63 : Nat) : Int) (by first | assumption | exact ⟨by omega, by omega⟩) (by first | assumption | exact ⟨by omega, by omega⟩) (by first | assumption | exact ⟨by omega, by omega⟩)) (hP.sub (ws' := []) [] rfl) kc_X9_within kl_X9_72 kn_X9 ks_X9_within nk_X9_within (rm_lt (by decide) (by decide)) hl rfl (Nat.le_of_ble_eq_true rfl) dX9_told_4 (fun r_1 hr_2 => ?_)
  subst hr_2
  refine r_beq 17 C dX9_told_7 rfl (fun h_3 => ?_) (fun h_3 => ?_)
  · skip
    refine r_iconstZ C dX9_told_17 ?_
    exact ret dX9_told_18 (by unfold sTold; rw [if_neg (by omega)])
  refine lv_iload_n C.1 C.2.1 dX9_told_10 rfl (lv_at hl 2 rfl) ?_
  refine ro_callS (As := [zV y]) (rest := []) C hK (c_X9_isChoice l g y (by first | assumption | exact ⟨by omega, by omega⟩)) (hP.sub (ws' := []) [] rfl) kc_X9_isChoice kl_X9_210 kn_X9 ks_X9_isChoice nk_X9_isChoice (rm_lt (by decide) (by decide)) hl rfl (Nat.le_of_ble_eq_true rfl) dX9_told_11 (fun r_4 hr_5 => ?_)
  subst hr_5
  refine r_bne 19 C dX9_told_14 rfl (fun h_6 => ?_) (fun h_6 => ?_)
  · skip
    obtain ⟨xn, rfl⟩ : ∃ n : Nat, x = (n : Int) := ⟨x.toNat, by omega⟩
    have hl : lv_has ls 4 [(0, .ref x0), (1, nV xn), (2, zV y)] := hl
    refine lv_aload_n C.1 C.2.1 dX9_told_19 rfl (lv_at hl 0 rfl) ?_
    refine r_get C hK hP kw_X9 (ci := 7) rfl 0 7 (by decide) kf_X9_61 rfl rfl dX9_told_20 ?_
    refine lv_iload_n C.1 C.2.1 dX9_told_23 rfl (lv_at hl 1 rfl) ?_
    refine ro_callV (As := [nV xn]) (rest := []) C hK (c_X8_bakersKnowing l g v v0 v1 v2 v3 v4 kn k nc nb bi mo (iI ((xn : Nat) : Int)) (by first | assumption | omega)) (hP.sub (ws' := [(v, .inr (6, [.ref v0, .ref v1, .ref v2, .ref v3, .ref v4, nV k, nV nc, nV nb, nV bi, nV mo])), (v4, cN g 5 kn)]) [1, 2] rfl) (ci := 6) (q0 := 0) rfl rfl kc_X8_bakersKnowing kl_X9_243 kn_X8 ki_X8_bakersKnowing ke_X8_bakersKnowing nk_X8_bakersKnowing (rm_lt (by decide) (by decide)) hl rfl (Nat.le_of_ble_eq_true rfl) dX9_told_24 (fun r_7 hr_8 => ?_)
    subst hr_8
    refine r_topRN (bN (kno kn (iI ((xn : Nat) : Int))) nb) (by exact bset_N (kno kn (iI ((xn : Nat) : Int))) nb (by omega)) ?_
    refine r_nameN (fun a1 ha1 => ?_)
    have hb1 : a1 < 32 := by rw [ha1]; exact Nat.lt_of_lt_of_le (bN_lt _ nb) (Nat.pow_le_pow_right (by decide) hnb)
    refine lv_istore_n (lv' := [(3, nV a1), (0, .ref x0), (1, nV xn), (2, zV y)]) C.1 C.2.1 dX9_told_27 rfl hl (by decide) rfl (fun ls hl => ?_)
    refine lv_iload_n C.1 C.2.1 dX9_told_28 rfl (lv_at hl 3 rfl) ?_
    refine r_ine 34 C dX9_told_29 rfl (⟨by omega, by omega⟩) (fun h_9 => ?_) (fun h_9 => ?_)
    · skip
      refine lv_iload_n C.1 C.2.1 dX9_told_34 rfl (lv_at hl 0 rfl) ?_
      refine ro_callS (As := [nV a1]) (rest := []) C hK (c_J6_bitCount_0f7a4 l g a1 (by first | assumption | omega)) (hP.sub (ws' := []) [] rfl) kc_J6_bitCount_0f7a4 kl_X9_246 kn_J6 ks_J6_bitCount_0f7a4 nk_J6_bitCount_0f7a4 (rm_lt (by decide) (by decide)) hl rfl (Nat.le_of_ble_eq_true rfl) dX9_told_35 (fun r_10 hr_11 => ?_)
      subst hr_11
      have hf_12 := ct_le (a1).testBit 8
      refine r_iconst 1 C dX9_told_38 rfl ?_
      refine r_cne 49 C dX9_told_39 rfl ⟨rgN (by omega), rgN (by decide)⟩ (fun g1 => ?_) (fun g1 => ?_)
      · skip
        refine r_bipushZ C dX9_told_49 (by decide) ?_
        exact ret dX9_told_51 (by unfold sTold; rw [if_pos (by omega), if_neg (by omega), ← ha1]; first | (rw [if_pos (by omega)]; done) | (rw [if_neg (by omega)]; done))
      refine lv_iload_n C.1 C.2.1 dX9_told_42 rfl (lv_at hl 0 rfl) ?_
      refine ro_callS (As := [nV a1]) (rest := []) C hK (c_J6_numberOfTrailingZeros_0f7a4 l g a1 (⟨by rcases Nat.eq_zero_or_pos a1 with q | q; (rw [q] at g1; exact absurd g1 (by decide)); exact q, hb1⟩)) (hP.sub (ws' := []) [] rfl) kc_J6_numberOfTrailingZeros_0f7a4 kl_X9_251 kn_J6 ks_J6_numberOfTrailingZeros_0f7a4 nk_J6_numberOfTrailingZeros_0f7a4 (rm_lt (by decide) (by decide)) hl rfl (Nat.le_of_ble_eq_true rfl) dX9_told_43 (fun r_13 hr_14 => ?_)
      subst hr_14
      refine r_goto 51 C dX9_told_46 rfl ?_
      exact ret dX9_told_51 (by unfold sTold; rw [if_pos (by omega), if_neg (by omega), ← ha1]; first | (rw [if_pos (by omega)]; done) | (rw [if_neg (by omega)]; done))
    refine lv_iload_n C.1 C.2.1 dX9_told_32 rfl (lv_at hl 0 rfl) ?_
    exact ret dX9_told_33 (by unfold sTold; rw [if_pos (by omega), if_pos (by omega), ha1])
  refine r_iconstZ C dX9_told_17 ?_
  exact ret dX9_told_18 (by unfold sTold; rw [if_neg (by omega)])
set_option maxHeartbeats 4000000 in
set_option maxRecDepth 100000 in
theorem c_X9_month (l : Launch) (g : GG) (x0 : Nat) (t : Nat) (rd0 : Nat) (q : Nat) (us : Nat) (ks : Nat) (rc0 : Nat) (se : Nat) (v : Nat) (vd : Nat) (v0 : Nat) (v1 : Nat) (v2 : Nat) (v3 : Nat) (v4 : Nat) (sg : Nat → Nat) (k : Nat) (nc : Nat) (nb : Nat) (bi : Nat) (mo : Nat) (x : Int) (y : Int) (w : Int) (hbm : (1 ≤ bi ∧ bi ≤ 9) ∧ (1 ≤ mo ∧ mo ≤ 9)) (hsg : ∀ j, sg j < 72) (hk : k ≤ 8) (hk1 : 1 ≤ k) (hx : rg x) (hy : rg y) (hw : rg w) : ROi g l yX9_month cX9_month 10 (some .int) 4 [(x0, .inr (7, [.ref t, .ref rd0, .ref q, .ref us, .ref ks, .ref rc0, .ref se, .ref v, .ref vd])), (v, .inr (6, [.ref v0, .ref v1, .ref v2, .ref v3, .ref v4, nV k, nV nc, nV nb, nV bi, nV mo])), (v0, cN g 8 sg)] [.ref x0, zV x, zV y, zV w] (fun r => r = iI (sMon sg k bi mo x y w)) := by
  refine ro_startI (by decide +kernel) (Nat.le_of_ble_eq_true rfl) ?_
  intro p e s m args below meth c Q ls C hK hP ret hl
  have C : CT p s m args meth c cX9_month RX9 10 := C
  have hl : lv_has ls 10 [(0, .ref x0), (1, zV x), (2, zV y), (3, zV w)] := hl
  refine lv_iload_n C.1 C.2.1 dX9_month_0 rfl (lv_at hl 1 rfl) ?_
  refine r_iconst 0 C dX9_month_1 rfl ?_
  refine r_sipush 9999 C dX9_month_2 (by decide) ?_
  refine ro_callS (As := [zV x, nV 0, nV 9999]) (rest := []) C hK (c_X9_within l g x ((0 : Nat) : Int) ((9999 : Nat) : Int) (by first | assumption | exact ⟨by omega, by omega⟩) (by first | assumption | exact ⟨by omega, by omega⟩) (by first | assumption | exact ⟨by omega, by omega⟩)) (hP.sub (ws' := []) [] rfl) kc_X9_within kl_X9_72 kn_X9 ks_X9_within nk_X9_within (rm_lt (by decide) (by decide)) hl rfl (Nat.le_of_ble_eq_true rfl) dX9_month_5 (fun r_1 hr_2 => ?_)
  subst hr_2
  refine r_beq 28 C dX9_month_8 rfl (fun h_3 => ?_) (fun h_3 => ?_)
  · skip
    refine r_iconstZ C dX9_month_28 ?_
    exact ret dX9_month_29 (by unfold sMon; rw [if_neg (by omega)])
  refine lv_iload_n C.1 C.2.1 dX9_month_11 rfl (lv_at hl 2 rfl) ?_
  refine r_iconst 1 C dX9_month_12 rfl ?_
  refine r_bipush 30 C dX9_month_13 (by decide) ?_
  refine ro_callS (As := [zV y, nV 1, nV 30]) (rest := []) C hK (c_X9_within l g y ((1 : Nat) : Int) ((30 : Nat) : Int) (by first | assumption | exact ⟨by omega, by omega⟩) (by first | assumption | exact ⟨by omega, by omega⟩) (by first | assumption | exact ⟨by omega, by omega⟩)) (hP.sub (ws' := []) [] rfl) kc_X9_within kl_X9_72 kn_X9 ks_X9_within nk_X9_within (rm_lt (by decide) (by decide)) hl rfl (Nat.le_of_ble_eq_true rfl) dX9_month_15 (fun r_4 hr_5 => ?_)
  subst hr_5
  refine r_beq 28 C dX9_month_18 rfl (fun h_6 => ?_) (fun h_6 => ?_)
  · skip
    refine r_iconstZ C dX9_month_28 ?_
    exact ret dX9_month_29 (by unfold sMon; rw [if_neg (by omega)])
  refine lv_iload_n C.1 C.2.1 dX9_month_21 rfl (lv_at hl 3 rfl) ?_
  refine ro_callS (As := [zV w]) (rest := []) C hK (c_X9_isChoice l g w (by first | assumption | exact ⟨by omega, by omega⟩)) (hP.sub (ws' := []) [] rfl) kc_X9_isChoice kl_X9_210 kn_X9 ks_X9_isChoice nk_X9_isChoice (rm_lt (by decide) (by decide)) hl rfl (Nat.le_of_ble_eq_true rfl) dX9_month_22 (fun r_7 hr_8 => ?_)
  subst hr_8
  refine r_bne 30 C dX9_month_25 rfl (fun h_9 => ?_) (fun h_9 => ?_)
  · skip
    obtain ⟨xn, rfl⟩ : ∃ n : Nat, x = (n : Int) := ⟨x.toNat, by omega⟩
    obtain ⟨yn, rfl⟩ : ∃ n : Nat, y = (n : Int) := ⟨y.toNat, by omega⟩
    have hl : lv_has ls 10 [(0, .ref x0), (1, nV xn), (2, nV yn), (3, zV w)] := hl
    refine lv_aload_n C.1 C.2.1 dX9_month_30 rfl (lv_at hl 0 rfl) ?_
    refine r_get C hK hP kw_X9 (ci := 7) rfl 0 7 (by decide) kf_X9_61 rfl rfl dX9_month_31 ?_
    refine ro_callV (As := []) (rest := []) C hK (c_X8_words l g v v0 v1 v2 v3 v4 k nc nb bi mo) (hP.sub (ws' := [(v, .inr (6, [.ref v0, .ref v1, .ref v2, .ref v3, .ref v4, nV k, nV nc, nV nb, nV bi, nV mo]))]) [1] rfl) (ci := 6) (q0 := 0) rfl rfl kc_X8_words kl_X9_95 kn_X8 ki_X8_words ke_X8_words nk_X8_words (rm_lt (by decide) (by decide)) hl rfl (Nat.le_of_ble_eq_true rfl) dX9_month_34 (fun r_10 hr_11 => ?_)
    subst hr_11
    refine lv_istore (lv' := [(4, nV k), (0, .ref x0), (1, nV xn), (2, nV yn), (3, zV w)]) C.1 C.2.1 dX9_month_37 hl (by decide) rfl (fun ls hl => ?_)
    refine r_iconst 0 C dX9_month_39 rfl ?_
    refine lv_istore (lv' := [(5, nV 0), (4, nV k), (0, .ref x0), (1, nV xn), (2, nV yn), (3, zV w)]) C.1 C.2.1 dX9_month_40 hl (by decide) rfl (fun ls hl => ?_)
    refine r_iconst 0 C dX9_month_42 rfl ?_
    refine lv_istore (lv' := [(6, nV 0), (5, nV 0), (4, nV k), (0, .ref x0), (1, nV xn), (2, nV yn), (3, zV w)]) C.1 C.2.1 dX9_month_43 hl (by decide) rfl (fun ls hl => ?_)
    have L45 : ∀ (n_45 : Nat) (i : Nat) (f : Nat) (ls : Array Slot) (hi : i ≤ yn) (hf : f = mnF sg k bi mo xn (decide (w = 0)) i) (hm : yn - i < n_45) (hl : lv_has ls 10 [(6, nV i), (5, nV f), (4, nV k), (0, .ref x0), (1, nV xn), (2, nV yn), (3, zV w)]), W p l e (rD 4) s m args below meth c s.heap [] 0 0 Q (F0 m 45 ls []) := by
      intro n_45
      induction n_45 with
      | zero => intro i f ls hi hf hm hl; exact absurd hm (Nat.not_lt_zero _)
      | succ n_45 ih_45 =>
        intro i f ls hi hf hm hl
        refine lv_iload C.1 C.2.1 dX9_month_45 (lv_at hl 0 rfl) ?_
        refine lv_iload_n C.1 C.2.1 dX9_month_47 rfl (lv_at hl 5 rfl) ?_
        refine r_cge 153 C dX9_month_48 rfl ⟨rgN (by omega), rgN (by omega)⟩ (fun h_12 => ?_) (fun h_12 => ?_)
        · skip
          refine lv_iload C.1 C.2.1 dX9_month_153 (lv_at hl 1 rfl) ?_
          exact ret dX9_month_155 (by unfold sMon; rw [if_pos (by omega)]; exact iI_cast (by rw [hf, show i = yn by omega]; rfl))
        refine lv_iload_n C.1 C.2.1 dX9_month_51 rfl (lv_at hl 4 rfl) ?_
        refine lv_iload C.1 C.2.1 dX9_month_52 (lv_at hl 0 rfl) ?_
        refine ro_callS (As := [nV xn, nV i]) (rest := []) C hK (c_X9_drawOf l g xn i (by first | assumption | omega) (by first | assumption | omega)) (hP.sub (ws' := []) [] rfl) kc_X9_drawOf kl_X9_254 kn_X9 ks_X9_drawOf nk_X9_drawOf (rm_lt (by decide) (by decide)) hl rfl (Nat.le_of_ble_eq_true rfl) dX9_month_54 (fun r_13 hr_14 => ?_)
        subst hr_14
        have hf_15 := drw_bd (xn) (i)
        refine r_nameN (fun a1 ha1 => ?_)
        refine lv_istore (lv' := [(7, nV a1), (6, nV i), (5, nV f), (4, nV k), (0, .ref x0), (1, nV xn), (2, nV yn), (3, zV w)]) C.1 C.2.1 dX9_month_57 hl (by decide) rfl (fun ls hl => ?_)
        refine lv_iload C.1 C.2.1 dX9_month_59 (lv_at hl 3 rfl) ?_
        refine r_ile 72 C dX9_month_61 rfl (rgN (by omega)) (fun h_16 => ?_) (fun h_16 => ?_)
        · exact absurd h_16 (by omega)
        refine lv_iload C.1 C.2.1 dX9_month_64 (lv_at hl 0 rfl) ?_
        refine lv_iload C.1 C.2.1 dX9_month_66 (lv_at hl 3 rfl) ?_
        refine r_remN C dX9_month_68 (by omega) (by omega) ?_
        have hq_17 : a1 % k < k := Nat.mod_lt _ (by omega)
        refine r_goto 73 C dX9_month_69 rfl ?_
        refine lv_istore (lv' := [(8, nV (a1 % k)), (7, nV a1), (6, nV i), (5, nV f), (4, nV k), (0, .ref x0), (1, nV xn), (2, nV yn), (3, zV w)]) C.1 C.2.1 dX9_month_73 hl (by decide) rfl (fun ls hl => ?_)
        refine lv_aload_n C.1 C.2.1 dX9_month_75 rfl (lv_at hl 5 rfl) ?_
        refine r_get C hK hP kw_X9 (ci := 7) rfl 0 7 (by decide) kf_X9_61 rfl rfl dX9_month_76 ?_
        refine lv_aload_n C.1 C.2.1 dX9_month_79 rfl (lv_at hl 5 rfl) ?_
        refine r_get C hK hP kw_X9 (ci := 7) rfl 0 7 (by decide) kf_X9_61 rfl rfl dX9_month_80 ?_
        refine lv_aload_n C.1 C.2.1 dX9_month_83 rfl (lv_at hl 5 rfl) ?_
        refine r_get C hK hP kw_X9 (ci := 7) rfl 0 7 (by decide) kf_X9_61 rfl rfl dX9_month_84 ?_
        refine lv_iload C.1 C.2.1 dX9_month_87 (lv_at hl 0 rfl) ?_
        refine ro_callV (As := [nV (a1 % k)]) (rest := [.ref v, .ref v]) C hK (c_X8_signOf l g v v0 v1 v2 v3 v4 sg k nc nb bi mo (a1 % k) (by first | assumption | omega)) (hP.sub (ws' := [(v, .inr (6, [.ref v0, .ref v1, .ref v2, .ref v3, .ref v4, nV k, nV nc, nV nb, nV bi, nV mo])), (v0, cN g 8 sg)]) [1, 2] rfl) (ci := 6) (q0 := 0) rfl rfl kc_X8_signOf kl_X9_103 kn_X8 ki_X8_signOf ke_X8_signOf nk_X8_signOf (rm_lt (by decide) (by decide)) hl rfl (Nat.le_of_ble_eq_true rfl) dX9_month_89 (fun r_18 hr_19 => ?_)
        subst hr_19
        have hf_20 := hsg ((a1 % k))
        refine lv_iload C.1 C.2.1 dX9_month_92 (lv_at hl 1 rfl) ?_
        refine r_bipush 16 C dX9_month_94 (by decide) ?_
        refine r_divN C dX9_month_96 (by omega) (by decide) ?_
        refine r_bipush 7 C dX9_month_97 (by decide) ?_
        refine r_remN C dX9_month_99 (by omega) (by decide) ?_
        refine lv_iload C.1 C.2.1 dX9_month_100 (lv_at hl 1 rfl) ?_
        refine r_sipush 256 C dX9_month_102 (by decide) ?_
        refine r_divN C dX9_month_105 (by omega) (by decide) ?_
        refine r_iconst 3 C dX9_month_106 rfl ?_
        refine r_remN C dX9_month_107 (by omega) (by decide) ?_
        refine ro_callV (As := [nV (sg (a1 % k)), nV ((a1 / 16) % 7), nV ((a1 / 256) % 3)]) (rest := [.ref v]) C hK (c_X8_turned l g v v0 v1 v2 v3 v4 k nc nb bi mo (sg (a1 % k)) ((a1 / 16) % 7) ((a1 / 256) % 3) (by first | assumption | omega) (by first | assumption | omega) (by first | assumption | omega) (by first | assumption | omega)) (hP.sub (ws' := [(v, .inr (6, [.ref v0, .ref v1, .ref v2, .ref v3, .ref v4, nV k, nV nc, nV nb, nV bi, nV mo]))]) [1] rfl) (ci := 6) (q0 := 0) rfl rfl kc_X8_turned kl_X9_172 kn_X8 ki_X8_turned ke_X8_turned nk_X8_turned (rm_lt (by decide) (by decide)) hl rfl (Nat.le_of_ble_eq_true rfl) dX9_month_108 (fun r_21 hr_22 => ?_)
        subst hr_22
        have hf_23 := tn_bd (bi) (mo) ((sg (a1 % k))) (((a1 / 16) % 7)) (((a1 / 256) % 3)) (by omega)
        refine ro_callV (As := [nV (tn bi mo (sg (a1 % k)) ((a1 / 16) % 7) ((a1 / 256) % 3))]) (rest := []) C hK (c_X8_readAs l g v v0 v1 v2 v3 v4 sg k nc nb bi mo (tn bi mo (sg (a1 % k)) ((a1 / 16) % 7) ((a1 / 256) % 3)) (by first | assumption | omega) (by first | assumption | omega) (by first | assumption | omega)) (hP.sub (ws' := [(v, .inr (6, [.ref v0, .ref v1, .ref v2, .ref v3, .ref v4, nV k, nV nc, nV nb, nV bi, nV mo])), (v0, cN g 8 sg)]) [1, 2] rfl) (ci := 6) (q0 := 0) rfl rfl kc_X8_readAs kl_X9_257 kn_X8 ki_X8_readAs ke_X8_readAs nk_X8_readAs (rm_lt (by decide) (by decide)) hl rfl (Nat.le_of_ble_eq_true rfl) dX9_month_111 (fun r_24 hr_25 => ?_)
        subst hr_25
        have hf_26 := rd_bd sg (k) ((tn bi mo (sg (a1 % k)) ((a1 / 16) % 7) ((a1 / 256) % 3)))
        refine r_nameZ (fun a3 ha3 => ?_)
        refine lv_istore (lv' := [(9, zV a3), (8, nV (a1 % k)), (7, nV a1), (6, nV i), (5, nV f), (4, nV k), (0, .ref x0), (1, nV xn), (2, nV yn), (3, zV w)]) C.1 C.2.1 dX9_month_114 hl (by decide) rfl (fun ls hl => ?_)
        refine lv_iload_n C.1 C.2.1 dX9_month_116 rfl (lv_at hl 9 rfl) ?_
        refine r_ine 130 C dX9_month_117 rfl (⟨by omega, by omega⟩) (fun g0 => ?_) (fun g0 => ?_)
        · skip
          refine lv_iload C.1 C.2.1 dX9_month_130 (lv_at hl 0 rfl) ?_
          refine lv_iload C.1 C.2.1 dX9_month_132 (lv_at hl 1 rfl) ?_
          refine r_ceq 147 C dX9_month_134 rfl ⟨⟨by omega, by omega⟩, rgN (by omega)⟩ (fun h_27 => ?_) (fun h_27 => ?_)
          · skip
            refine r_incN (k := 3) (n := 1) [(6, nV (i + 1)), (9, zV a3), (8, nV (a1 % k)), (7, nV a1), (5, nV f), (4, nV k), (0, .ref x0), (1, nV xn), (2, nV yn), (3, zV w)] C dX9_month_147 hl rfl rfl (by decide) rfl (fun ls hl => ?_)
            refine r_goto 45 C dX9_month_150 rfl ?_
            exact ih_45 (i + 1) f _ (by first | assumption | omega) (by have hR : mnR sg k bi mo xn i = a3 := (by rw [ha3, ha1]; rfl); have hc : ¬ (if decide (w = 0) = true then mnR sg k bi mo xn i = ((drw xn i % k : Nat) : Int) else mnR sg k bi mo xn i ≠ ((drw xn i % k : Nat) : Int) ∧ mnR sg k bi mo xn i ≠ -4) := (by rw [hR, ← ha1]; first | (rw [if_pos (decide_eq_true g0)]; omega) | (rw [if_neg (by simpa using g0)]; omega)); rw [hf]; show _ = mnF sg k bi mo xn (decide (w = 0)) i + (if (if decide (w = 0) = true then mnR sg k bi mo xn i = ((drw xn i % k : Nat) : Int) else mnR sg k bi mo xn i ≠ ((drw xn i % k : Nat) : Int) ∧ mnR sg k bi mo xn i ≠ -4) then 1 else 0); rw [if_neg hc, Nat.add_zero]) (by omega) (lv_sub hl [0, 4, 5, 6, 7, 8, 9] rfl)
          refine lv_iload C.1 C.2.1 dX9_month_137 (lv_at hl 0 rfl) ?_
          refine r_bipushZ C dX9_month_139 (by decide) ?_
          refine r_ceq 147 C dX9_month_141 rfl ⟨⟨by omega, by omega⟩, (by decide)⟩ (fun h_28 => ?_) (fun h_28 => ?_)
          · skip
            refine r_incN (k := 3) (n := 1) [(6, nV (i + 1)), (9, zV a3), (8, nV (a1 % k)), (7, nV a1), (5, nV f), (4, nV k), (0, .ref x0), (1, nV xn), (2, nV yn), (3, zV w)] C dX9_month_147 hl rfl rfl (by decide) rfl (fun ls hl => ?_)
            refine r_goto 45 C dX9_month_150 rfl ?_
            exact ih_45 (i + 1) f _ (by first | assumption | omega) (by have hR : mnR sg k bi mo xn i = a3 := (by rw [ha3, ha1]; rfl); have hc : ¬ (if decide (w = 0) = true then mnR sg k bi mo xn i = ((drw xn i % k : Nat) : Int) else mnR sg k bi mo xn i ≠ ((drw xn i % k : Nat) : Int) ∧ mnR sg k bi mo xn i ≠ -4) := (by rw [hR, ← ha1]; first | (rw [if_pos (decide_eq_true g0)]; omega) | (rw [if_neg (by simpa using g0)]; omega)); rw [hf]; show _ = mnF sg k bi mo xn (decide (w = 0)) i + (if (if decide (w = 0) = true then mnR sg k bi mo xn i = ((drw xn i % k : Nat) : Int) else mnR sg k bi mo xn i ≠ ((drw xn i % k : Nat) : Int) ∧ mnR sg k bi mo xn i ≠ -4) then 1 else 0); rw [if_neg hc, Nat.add_zero]) (by omega) (lv_sub hl [0, 4, 5, 6, 7, 8, 9] rfl)
          refine r_incN (k := 4) (n := 1) [(5, nV (f + 1)), (9, zV a3), (8, nV (a1 % k)), (7, nV a1), (6, nV i), (4, nV k), (0, .ref x0), (1, nV xn), (2, nV yn), (3, zV w)] C dX9_month_144 hl rfl rfl (by decide) rfl (fun ls hl => ?_)
          refine r_incN (k := 4) (n := 1) [(6, nV (i + 1)), (5, nV (f + 1)), (9, zV a3), (8, nV (a1 % k)), (7, nV a1), (4, nV k), (0, .ref x0), (1, nV xn), (2, nV yn), (3, zV w)] C dX9_month_147 hl rfl rfl (by decide) rfl (fun ls hl => ?_)
          refine r_goto 45 C dX9_month_150 rfl ?_
          exact ih_45 (i + 1) (f + 1) _ (by first | assumption | omega) (by have hR : mnR sg k bi mo xn i = a3 := (by rw [ha3, ha1]; rfl); have hc : (if decide (w = 0) = true then mnR sg k bi mo xn i = ((drw xn i % k : Nat) : Int) else mnR sg k bi mo xn i ≠ ((drw xn i % k : Nat) : Int) ∧ mnR sg k bi mo xn i ≠ -4) := (by rw [hR, ← ha1]; first | (rw [if_pos (decide_eq_true g0)]; omega) | (rw [if_neg (by simpa using g0)]; omega)); rw [hf]; show _ = mnF sg k bi mo xn (decide (w = 0)) i + (if (if decide (w = 0) = true then mnR sg k bi mo xn i = ((drw xn i % k : Nat) : Int) else mnR sg k bi mo xn i ≠ ((drw xn i % k : Nat) : Int) ∧ mnR sg k bi mo xn i ≠ -4) then 1 else 0); rw [if_pos hc]) (by omega) (lv_sub hl [0, 1, 5, 6, 7, 8, 9] rfl)
        refine lv_iload C.1 C.2.1 dX9_month_120 (lv_at hl 0 rfl) ?_
        refine lv_iload C.1 C.2.1 dX9_month_122 (lv_at hl 1 rfl) ?_
        refine r_cne 147 C dX9_month_124 rfl ⟨⟨by omega, by omega⟩, rgN (by omega)⟩ (fun h_29 => ?_) (fun h_29 => ?_)
        · skip
          refine r_incN (k := 3) (n := 1) [(6, nV (i + 1)), (9, zV a3), (8, nV (a1 % k)), (7, nV a1), (5, nV f), (4, nV k), (0, .ref x0), (1, nV xn), (2, nV yn), (3, zV w)] C dX9_month_147 hl rfl rfl (by decide) rfl (fun ls hl => ?_)
          refine r_goto 45 C dX9_month_150 rfl ?_
          exact ih_45 (i + 1) f _ (by first | assumption | omega) (by have hR : mnR sg k bi mo xn i = a3 := (by rw [ha3, ha1]; rfl); have hc : ¬ (if decide (w = 0) = true then mnR sg k bi mo xn i = ((drw xn i % k : Nat) : Int) else mnR sg k bi mo xn i ≠ ((drw xn i % k : Nat) : Int) ∧ mnR sg k bi mo xn i ≠ -4) := (by rw [hR, ← ha1]; first | (rw [if_pos (decide_eq_true g0)]; omega) | (rw [if_neg (by simpa using g0)]; omega)); rw [hf]; show _ = mnF sg k bi mo xn (decide (w = 0)) i + (if (if decide (w = 0) = true then mnR sg k bi mo xn i = ((drw xn i % k : Nat) : Int) else mnR sg k bi mo xn i ≠ ((drw xn i % k : Nat) : Int) ∧ mnR sg k bi mo xn i ≠ -4) then 1 else 0); rw [if_neg hc, Nat.add_zero]) (by omega) (lv_sub hl [0, 4, 5, 6, 7, 8, 9] rfl)
        refine r_goto 144 C dX9_month_127 rfl ?_
        refine r_incN (k := 4) (n := 1) [(5, nV (f + 1)), (9, zV a3), (8, nV (a1 % k)), (7, nV a1), (6, nV i), (4, nV k), (0, .ref x0), (1, nV xn), (2, nV yn), (3, zV w)] C dX9_month_144 hl rfl rfl (by decide) rfl (fun ls hl => ?_)
        refine r_incN (k := 4) (n := 1) [(6, nV (i + 1)), (5, nV (f + 1)), (9, zV a3), (8, nV (a1 % k)), (7, nV a1), (4, nV k), (0, .ref x0), (1, nV xn), (2, nV yn), (3, zV w)] C dX9_month_147 hl rfl rfl (by decide) rfl (fun ls hl => ?_)
        refine r_goto 45 C dX9_month_150 rfl ?_
        exact ih_45 (i + 1) (f + 1) _ (by first | assumption | omega) (by have hR : mnR sg k bi mo xn i = a3 := (by rw [ha3, ha1]; rfl); have hc : (if decide (w = 0) = true then mnR sg k bi mo xn i = ((drw xn i % k : Nat) : Int) else mnR sg k bi mo xn i ≠ ((drw xn i % k : Nat) : Int) ∧ mnR sg k bi mo xn i ≠ -4) := (by rw [hR, ← ha1]; first | (rw [if_pos (decide_eq_true g0)]; omega) | (rw [if_neg (by simpa using g0)]; omega)); rw [hf]; show _ = mnF sg k bi mo xn (decide (w = 0)) i + (if (if decide (w = 0) = true then mnR sg k bi mo xn i = ((drw xn i % k : Nat) : Int) else mnR sg k bi mo xn i ≠ ((drw xn i % k : Nat) : Int) ∧ mnR sg k bi mo xn i ≠ -4) then 1 else 0); rw [if_pos hc]) (by omega) (lv_sub hl [0, 1, 5, 6, 7, 8, 9] rfl)
    exact L45 (yn - 0 + 1) 0 0 _ (by first | assumption | omega) (rfl) (Nat.lt_succ_self _) (lv_sub hl [0, 1, 2, 3, 4, 5, 6] rfl)
  refine r_iconstZ C dX9_month_28 ?_
  exact ret dX9_month_29 (by unfold sMon; rw [if_neg (by omega)])
set_option maxHeartbeats 4000000 in
set_option maxRecDepth 100000 in
theorem c_X9_count (l : Launch) (g : GG) (x0 : Nat) (t : Nat) (rd0 : Nat) (q : Nat) (us : Nat) (ks : Nat) (rc0 : Nat) (se : Nat) (v : Nat) (vd : Nat) (q0 : Nat) (ce : Nat → Nat) (v0 : Nat) (v1 : Nat) (v2 : Nat) (v3 : Nat) (v4 : Nat) (k : Nat) (nc : Nat) (nb : Nat) (bi : Nat) (mo : Nat) (t0 : Nat) (Lt : Nat) (ur0 : Nat) (uz : Nat) (kr0 : Nat) (kz : Nat) (x : Int) (hx : rg x) : ROi g l yX9_count cX9_count 2 (some .int) 3 [(x0, .inr (7, [.ref t, .ref rd0, .ref q, .ref us, .ref ks, .ref rc0, .ref se, .ref v, .ref vd])), (q, .inr (1, [.ref q0])), (q0, cN g 42 ce), (v, .inr (6, [.ref v0, .ref v1, .ref v2, .ref v3, .ref v4, nV k, nV nc, nV nb, nV bi, nV mo])), (t, .inr (5, [.ref t0, nV Lt])), (us, .inr (4, [nV 8, .ref ur0, nV uz])), (ks, .inr (4, [nV 2, .ref kr0, nV kz]))] [.ref x0, zV x] (fun r => r = iI (sCnt k nc nb (ce 40) (ce 41) uz kz Lt x)) := by
  refine ro_startI (by decide +kernel) (Nat.le_of_ble_eq_true rfl) ?_
  intro p e s m args below meth c Q ls C hK hP ret hl
  have C : CT p s m args meth c cX9_count RX9 2 := C
  have hl : lv_has ls 2 [(0, .ref x0), (1, zV x)] := hl
  refine lv_iload_n C.1 C.2.1 dX9_count_0 rfl (lv_at hl 1 rfl) ?_
  by_cases hs_1 : x = 0
  · refine r_tsw 0 48 C dX9_count_1 (⟨by omega, by omega⟩) (by omega) (by decide) rfl rfl ?_
    refine lv_aload_n C.1 C.2.1 dX9_count_48 rfl (lv_at hl 0 rfl) ?_
    refine r_get C hK hP kw_X9 (ci := 7) rfl 0 7 (by decide) kf_X9_61 rfl rfl dX9_count_49 ?_
    refine ro_callV (As := []) (rest := []) C hK (c_X8_words l g v v0 v1 v2 v3 v4 k nc nb bi mo) (hP.sub (ws' := [(v, .inr (6, [.ref v0, .ref v1, .ref v2, .ref v3, .ref v4, nV k, nV nc, nV nb, nV bi, nV mo]))]) [3] rfl) (ci := 6) (q0 := 0) rfl rfl kc_X8_words kl_X9_95 kn_X8 ki_X8_words ke_X8_words nk_X8_words (rm_lt (by decide) (by decide)) hl rfl (Nat.le_of_ble_eq_true rfl) dX9_count_52 (fun r_2 hr_3 => ?_)
    subst hr_3
    exact ret dX9_count_55 (by unfold sCnt; rw [if_pos (by omega)])
  by_cases hs_4 : x = 1
  · refine r_tsw 1 56 C dX9_count_1 (⟨by omega, by omega⟩) (by omega) (by decide) rfl rfl ?_
    refine lv_aload_n C.1 C.2.1 dX9_count_56 rfl (lv_at hl 0 rfl) ?_
    refine r_get C hK hP kw_X9 (ci := 7) rfl 0 7 (by decide) kf_X9_61 rfl rfl dX9_count_57 ?_
    refine ro_callV (As := []) (rest := []) C hK (c_X8_carriers l g v v0 v1 v2 v3 v4 k nc nb bi mo) (hP.sub (ws' := [(v, .inr (6, [.ref v0, .ref v1, .ref v2, .ref v3, .ref v4, nV k, nV nc, nV nb, nV bi, nV mo]))]) [3] rfl) (ci := 6) (q0 := 0) rfl rfl kc_X8_carriers kl_X9_234 kn_X8 ki_X8_carriers ke_X8_carriers nk_X8_carriers (rm_lt (by decide) (by decide)) hl rfl (Nat.le_of_ble_eq_true rfl) dX9_count_60 (fun r_5 hr_6 => ?_)
    subst hr_6
    exact ret dX9_count_63 (by unfold sCnt; rw [if_neg (by omega), if_pos (by omega)])
  by_cases hs_7 : x = 2
  · refine r_tsw 2 64 C dX9_count_1 (⟨by omega, by omega⟩) (by omega) (by decide) rfl rfl ?_
    refine lv_aload_n C.1 C.2.1 dX9_count_64 rfl (lv_at hl 0 rfl) ?_
    refine r_get C hK hP kw_X9 (ci := 7) rfl 0 7 (by decide) kf_X9_61 rfl rfl dX9_count_65 ?_
    refine ro_callV (As := []) (rest := []) C hK (c_X8_bakers l g v v0 v1 v2 v3 v4 k nc nb bi mo) (hP.sub (ws' := [(v, .inr (6, [.ref v0, .ref v1, .ref v2, .ref v3, .ref v4, nV k, nV nc, nV nb, nV bi, nV mo]))]) [3] rfl) (ci := 6) (q0 := 0) rfl rfl kc_X8_bakers kl_X9_261 kn_X8 ki_X8_bakers ke_X8_bakers nk_X8_bakers (rm_lt (by decide) (by decide)) hl rfl (Nat.le_of_ble_eq_true rfl) dX9_count_68 (fun r_8 hr_9 => ?_)
    subst hr_9
    exact ret dX9_count_71 (by unfold sCnt; rw [if_neg (by omega), if_neg (by omega), if_pos (by omega)])
  by_cases hs_10 : x = 3
  · refine r_tsw 3 72 C dX9_count_1 (⟨by omega, by omega⟩) (by omega) (by decide) rfl rfl ?_
    refine lv_aload_n C.1 C.2.1 dX9_count_72 rfl (lv_at hl 0 rfl) ?_
    refine r_get C hK hP kw_X9 (ci := 7) rfl 0 2 (by decide) kf_X9_26 rfl rfl dX9_count_73 ?_
    refine ro_callV (As := []) (rest := []) C hK (c_X1_size l g q q0 ce) (hP.sub (ws' := [(q, .inr (1, [.ref q0])), (q0, cN g 42 ce)]) [1, 2] rfl) (ci := 1) (q0 := 0) rfl rfl kc_X1_size kl_X9_137 kn_X1 ki_X1_size ke_X1_size nk_X1_size (rm_lt (by decide) (by decide)) hl rfl (Nat.le_of_ble_eq_true rfl) dX9_count_76 (fun r_11 hr_12 => ?_)
    subst hr_12
    exact ret dX9_count_79 (by unfold sCnt; rw [if_neg (by omega), if_neg (by omega), if_neg (by omega), if_pos (by omega)])
  by_cases hs_13 : x = 4
  · refine r_tsw 4 80 C dX9_count_1 (⟨by omega, by omega⟩) (by omega) (by decide) rfl rfl ?_
    refine lv_aload_n C.1 C.2.1 dX9_count_80 rfl (lv_at hl 0 rfl) ?_
    refine r_get C hK hP kw_X9 (ci := 7) rfl 0 2 (by decide) kf_X9_26 rfl rfl dX9_count_81 ?_
    refine ro_callV (As := []) (rest := []) C hK (c_X1_flour l g q q0 ce) (hP.sub (ws' := [(q, .inr (1, [.ref q0])), (q0, cN g 42 ce)]) [1, 2] rfl) (ci := 1) (q0 := 0) rfl rfl kc_X1_flour kl_X9_264 kn_X1 ki_X1_flour ke_X1_flour nk_X1_flour (rm_lt (by decide) (by decide)) hl rfl (Nat.le_of_ble_eq_true rfl) dX9_count_84 (fun r_14 hr_15 => ?_)
    subst hr_15
    exact ret dX9_count_87 (by unfold sCnt; rw [if_neg (by omega), if_neg (by omega), if_neg (by omega), if_neg (by omega), if_pos (by omega)])
  by_cases hs_16 : x = 5
  · refine r_tsw 5 88 C dX9_count_1 (⟨by omega, by omega⟩) (by omega) (by decide) rfl rfl ?_
    refine lv_aload_n C.1 C.2.1 dX9_count_88 rfl (lv_at hl 0 rfl) ?_
    refine r_get C hK hP kw_X9 (ci := 7) rfl 0 3 (by decide) kf_X9_35 rfl rfl dX9_count_89 ?_
    refine ro_callV (As := []) (rest := []) C hK (c_X5_size l g us ur0 8 uz) (hP.sub (ws' := [(us, .inr (4, [nV 8, .ref ur0, nV uz]))]) [5] rfl) (ci := 4) (q0 := 0) rfl rfl kc_X5_size kl_X9_158 kn_X5 ki_X5_size ke_X5_size nk_X5_size (rm_lt (by decide) (by decide)) hl rfl (Nat.le_of_ble_eq_true rfl) dX9_count_92 (fun r_17 hr_18 => ?_)
    subst hr_18
    exact ret dX9_count_95 (by unfold sCnt; rw [if_neg (by omega), if_neg (by omega), if_neg (by omega), if_neg (by omega), if_neg (by omega), if_pos (by omega)])
  by_cases hs_19 : x = 6
  · refine r_tsw 6 96 C dX9_count_1 (⟨by omega, by omega⟩) (by omega) (by decide) rfl rfl ?_
    refine lv_aload_n C.1 C.2.1 dX9_count_96 rfl (lv_at hl 0 rfl) ?_
    refine r_get C hK hP kw_X9 (ci := 7) rfl 0 4 (by decide) kf_X9_39 rfl rfl dX9_count_97 ?_
    refine ro_callV (As := []) (rest := []) C hK (c_X5_size l g ks kr0 2 kz) (hP.sub (ws' := [(ks, .inr (4, [nV 2, .ref kr0, nV kz]))]) [6] rfl) (ci := 4) (q0 := 0) rfl rfl kc_X5_size kl_X9_158 kn_X5 ki_X5_size ke_X5_size nk_X5_size (rm_lt (by decide) (by decide)) hl rfl (Nat.le_of_ble_eq_true rfl) dX9_count_100 (fun r_20 hr_21 => ?_)
    subst hr_21
    exact ret dX9_count_103 (by unfold sCnt; rw [if_neg (by omega), if_neg (by omega), if_neg (by omega), if_neg (by omega), if_neg (by omega), if_neg (by omega), if_pos (by omega)])
  by_cases hs_22 : x = 7
  · refine r_tsw 7 104 C dX9_count_1 (⟨by omega, by omega⟩) (by omega) (by decide) rfl rfl ?_
    refine lv_aload_n C.1 C.2.1 dX9_count_104 rfl (lv_at hl 0 rfl) ?_
    refine r_get C hK hP kw_X9 (ci := 7) rfl 0 0 (by decide) kf_X9_10 rfl rfl dX9_count_105 ?_
    refine ro_callV (As := []) (rest := []) C hK (c_X7_length l g t t0 Lt) (hP.sub (ws' := [(t, .inr (5, [.ref t0, nV Lt]))]) [4] rfl) (ci := 5) (q0 := 0) rfl rfl kc_X7_length kl_X9_84 kn_X7 ki_X7_length ke_X7_length nk_X7_length (rm_lt (by decide) (by decide)) hl rfl (Nat.le_of_ble_eq_true rfl) dX9_count_108 (fun r_23 hr_24 => ?_)
    subst hr_24
    exact ret dX9_count_111 (by unfold sCnt; rw [if_neg (by omega), if_neg (by omega), if_neg (by omega), if_neg (by omega), if_neg (by omega), if_neg (by omega), if_neg (by omega), if_pos (by omega)])
  refine r_tswD 112 C dX9_count_1 (⟨by omega, by omega⟩) (by omega) rfl ?_
  refine r_iconstZ C dX9_count_112 ?_
  exact ret dX9_count_113 (by unfold sCnt; rw [if_neg (by omega), if_neg (by omega), if_neg (by omega), if_neg (by omega), if_neg (by omega), if_neg (by omega), if_neg (by omega), if_neg (by omega)])
