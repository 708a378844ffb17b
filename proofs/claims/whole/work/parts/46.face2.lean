set_option maxHeartbeats 4000000 in
set_option maxRecDepth 100000 in
theorem c_X9_mayBe (l : Launch) (g : GG) (x0 : Nat) (t : Nat) (rd0 : Nat) (q : Nat) (us : Nat) (ks : Nat) (rc0 : Nat) (se : Nat) (v : Nat) (vd : Nat) (rl0 : Nat) (rh0 : Nat) (lw : Nat → Nat) (hg : Nat → Nat) (v0 : Nat) (v1 : Nat) (v2 : Nat) (v3 : Nat) (v4 : Nat) (k : Nat) (nc : Nat) (nb : Nat) (bi : Nat) (mo : Nat) (x : Int) (y : Int) (w : Int) (hbm : (1 ≤ bi ∧ bi ≤ 9) ∧ (1 ≤ mo ∧ mo ≤ 9)) (hx : rg x) (hy : rg y) (hw : rg w) : WRi g l yX9_mayBe cX9_mayBe 4 (some .int) 6 [(x0, .inr (7, [.ref t, .ref rd0, .ref q, .ref us, .ref ks, .ref rc0, .ref se, .ref v, .ref vd])), (rc0, .inr (2, [.ref rl0, .ref rh0])), (rl0, cM g 72 lw), (rh0, cM g 72 hg), (v, .inr (6, [.ref v0, .ref v1, .ref v2, .ref v3, .ref v4, nV k, nV nc, nV nb, nV bi, nV mo]))] [.ref x0, zV x, zV y, zV w] (fun r (uq_ : (Nat → Nat) × (Nat → Nat)) => match uq_ with | (lw1, hg1) => r = iI (sMay bi mo x y w)) (fun (uq_ : (Nat → Nat) × (Nat → Nat)) => match uq_ with | (lw1, hg1) => [(x0, .inr (7, [.ref t, .ref rd0, .ref q, .ref us, .ref ks, .ref rc0, .ref se, .ref v, .ref vd])), (rc0, .inr (2, [.ref rl0, .ref rh0])), (rl0, cM g 72 lw1), (rh0, cM g 72 hg1), (v, .inr (6, [.ref v0, .ref v1, .ref v2, .ref v3, .ref v4, nV k, nV nc, nV nb, nV bi, nV mo]))]) := by
  refine wr_startI (by decide +kernel) (Nat.le_of_ble_eq_true rfl) ?_
  intro p e s m args below meth c Q A ls C hK hA ret hP hD hS hl
  have C : CT p s m args meth c cX9_mayBe RX9 4 := C
  have hl : lv_has ls 4 [(0, .ref x0), (1, zV x), (2, zV y), (3, zV w)] := hl
  refine lv_iload_n C.1 C.2.1 dX9_mayBe_0 rfl (lv_at hl 1 rfl) ?_
  refine ro_callS (As := [zV x]) (rest := []) C hK (c_X9_isSign l g x (by first | assumption | exact ⟨by omega, by omega⟩)) (hP.sub (ws' := []) [] rfl) kc_X9_isSign kl_X9_165 kn_X9 ks_X9_isSign nk_X9_isSign (rm_lt (by decide) (by decide)) hl rfl (Nat.le_of_ble_eq_true rfl) dX9_mayBe_1 (fun r_1 hr_2 => ?_)
  subst hr_2
  refine r_beq 15 C dX9_mayBe_4 rfl (fun h_3 => ?_) (fun h_3 => ?_)
  · skip
    refine r_iconstZ C dX9_mayBe_15 ?_
    exact ret ((lw, hg)) dX9_mayBe_16 hS hP (by unfold sMay; rw [if_neg (by omega)])
  refine lv_iload_n C.1 C.2.1 dX9_mayBe_7 rfl (lv_at hl 2 rfl) ?_
  refine lv_iload_n C.1 C.2.1 dX9_mayBe_8 rfl (lv_at hl 3 rfl) ?_
  refine ro_callS (As := [zV y, zV w]) (rest := []) C hK (c_X9_isLoss l g y w (by first | assumption | exact ⟨by omega, by omega⟩) (by first | assumption | exact ⟨by omega, by omega⟩)) (hP.sub (ws' := []) [] rfl) kc_X9_isLoss kl_X9_168 kn_X9 ks_X9_isLoss nk_X9_isLoss (rm_lt (by decide) (by decide)) hl rfl (Nat.le_of_ble_eq_true rfl) dX9_mayBe_9 (fun r_4 hr_5 => ?_)
  subst hr_5
  refine r_bne 17 C dX9_mayBe_12 rfl (fun h_6 => ?_) (fun h_6 => ?_)
  · skip
    obtain ⟨xn, rfl⟩ : ∃ n : Nat, x = (n : Int) := ⟨x.toNat, by omega⟩
    obtain ⟨yn, rfl⟩ : ∃ n : Nat, y = (n : Int) := ⟨y.toNat, by omega⟩
    obtain ⟨wn, rfl⟩ : ∃ n : Nat, w = (n : Int) := ⟨w.toNat, by omega⟩
    have hl : lv_has ls 4 [(0, .ref x0), (1, nV xn), (2, nV yn), (3, nV wn)] := hl
    refine lv_aload_n C.1 C.2.1 dX9_mayBe_17 rfl (lv_at hl 0 rfl) ?_
    refine r_get C hK hP kw_X9 (ci := 7) rfl 0 5 (by decide) kf_X9_45 rfl rfl dX9_mayBe_18 ?_
    refine lv_aload_n C.1 C.2.1 dX9_mayBe_21 rfl (lv_at hl 0 rfl) ?_
    refine r_get C hK hP kw_X9 (ci := 7) rfl 0 7 (by decide) kf_X9_61 rfl rfl dX9_mayBe_22 ?_
    refine lv_iload_n C.1 C.2.1 dX9_mayBe_25 rfl (lv_at hl 1 rfl) ?_
    refine lv_iload_n C.1 C.2.1 dX9_mayBe_26 rfl (lv_at hl 2 rfl) ?_
    refine lv_iload_n C.1 C.2.1 dX9_mayBe_27 rfl (lv_at hl 3 rfl) ?_
    refine wr_callVV (As := [.ref v, nV xn, nV yn, nV wn]) (rest := []) C hK (c_X3_fill l g rc0 rl0 rh0 lw hg v v0 v1 v2 v3 v4 k nc nb bi mo xn yn wn (by first | assumption | omega) (by first | assumption | omega) (by first | assumption | omega) (by first | assumption | omega)) [1, 2, 3, 4] rfl (fun _ => rfl) (by decide) hP hD hS hA (ci := 2) (q0 := 0) rfl rfl kc_X3_fill kl_X9_176 kn_X3 ki_X3_fill ke_X3_fill nk_X3_fill (rm_lt (by decide) (by decide)) hl rfl (Nat.le_of_ble_eq_true rfl) dX9_mayBe_28 (fun u_9 H locs hr_8 hP hD hS => ?_)
    obtain ⟨lw1_a, hg1_a⟩ := u_9
    have hP : va_P g.1 vwCl [(x0, .inr (7, [.ref t, .ref rd0, .ref q, .ref us, .ref ks, .ref rc0, .ref se, .ref v, .ref vd])), (rc0, .inr (2, [.ref rl0, .ref rh0])), (rl0, cM g 72 lw1_a), (rh0, cM g 72 hg1_a), (v, .inr (6, [.ref v0, .ref v1, .ref v2, .ref v3, .ref v4, nV k, nV nc, nV nb, nV bi, nV mo]))] H := hP
    have hD : va_D A [(x0, .inr (7, [.ref t, .ref rd0, .ref q, .ref us, .ref ks, .ref rc0, .ref se, .ref v, .ref vd])), (rc0, .inr (2, [.ref rl0, .ref rh0])), (rl0, cM g 72 lw1_a), (rh0, cM g 72 hg1_a), (v, .inr (6, [.ref v0, .ref v1, .ref v2, .ref v3, .ref v4, nV k, nV nc, nV nb, nV bi, nV mo]))] := hD
    try dsimp only at hr_8
    have hm1 := hr_8
    refine lv_aload_n C.1 C.2.1 dX9_mayBe_31 rfl (lv_at hl 0 rfl) ?_
    refine r_get C hK hP kw_X9 (ci := 7) rfl 0 5 (by decide) kf_X9_45 rfl rfl dX9_mayBe_32 ?_
    refine lv_iload_n C.1 C.2.1 dX9_mayBe_35 rfl (lv_at hl 1 rfl) ?_
    refine ro_callV (As := [nV xn]) (rest := []) C hK (c_X3_sizeOf l g rc0 rl0 rh0 lw1_a hg1_a (fun t => rc bi mo xn wn t (yn + 1)) xn (by first | assumption | omega) (hm1.1)) (hP.sub (ws' := [(rc0, .inr (2, [.ref rl0, .ref rh0])), (rl0, cM g 72 lw1_a), (rh0, cM g 72 hg1_a)]) [1, 2, 3] rfl) (ci := 2) (q0 := 0) rfl rfl kc_X3_sizeOf kl_X9_180 kn_X3 ki_X3_sizeOf ke_X3_sizeOf nk_X3_sizeOf (rm_lt (by decide) (by decide)) hl rfl (Nat.le_of_ble_eq_true rfl) dX9_mayBe_36 (fun r_10 hr_11 => ?_)
    subst hr_11
    exact ret ((lw1_a, hg1_a)) dX9_mayBe_39 hS hP (by unfold sMay; rw [if_pos (by omega)]; rfl)
  refine r_iconstZ C dX9_mayBe_15 ?_
  exact ret ((lw, hg)) dX9_mayBe_16 hS hP (by unfold sMay; rw [if_neg (by omega)])
set_option maxHeartbeats 4000000 in
set_option maxRecDepth 100000 in
theorem c_X9_can (l : Launch) (g : GG) (x0 : Nat) (t : Nat) (rd0 : Nat) (q : Nat) (us : Nat) (ks : Nat) (rc0 : Nat) (se : Nat) (v : Nat) (vd : Nat) (rl0 : Nat) (rh0 : Nat) (lw : Nat → Nat) (hg : Nat → Nat) (v0 : Nat) (v1 : Nat) (v2 : Nat) (v3 : Nat) (v4 : Nat) (k : Nat) (nc : Nat) (nb : Nat) (bi : Nat) (mo : Nat) (x : Int) (z : Int) (y : Int) (w : Int) (hbm : (1 ≤ bi ∧ bi ≤ 9) ∧ (1 ≤ mo ∧ mo ≤ 9)) (hx : rg x) (hz : rg z) (hy : rg y) (hw : rg w) : WRi g l yX9_can cX9_can 5 (some .int) 6 [(x0, .inr (7, [.ref t, .ref rd0, .ref q, .ref us, .ref ks, .ref rc0, .ref se, .ref v, .ref vd])), (rc0, .inr (2, [.ref rl0, .ref rh0])), (rl0, cM g 72 lw), (rh0, cM g 72 hg), (v, .inr (6, [.ref v0, .ref v1, .ref v2, .ref v3, .ref v4, nV k, nV nc, nV nb, nV bi, nV mo]))] [.ref x0, zV x, zV z, zV y, zV w] (fun r (uq_ : (Nat → Nat) × (Nat → Nat)) => match uq_ with | (lw1, hg1) => r = iI (sCan bi mo x z y w)) (fun (uq_ : (Nat → Nat) × (Nat → Nat)) => match uq_ with | (lw1, hg1) => [(x0, .inr (7, [.ref t, .ref rd0, .ref q, .ref us, .ref ks, .ref rc0, .ref se, .ref v, .ref vd])), (rc0, .inr (2, [.ref rl0, .ref rh0])), (rl0, cM g 72 lw1), (rh0, cM g 72 hg1), (v, .inr (6, [.ref v0, .ref v1, .ref v2, .ref v3, .ref v4, nV k, nV nc, nV nb, nV bi, nV mo]))]) := by
  refine wr_startI (by decide +kernel) (Nat.le_of_ble_eq_true rfl) ?_
  intro p e s m args below meth c Q A ls C hK hA ret hP hD hS hl
  have C : CT p s m args meth c cX9_can RX9 5 := C
  have hl : lv_has ls 5 [(0, .ref x0), (1, zV x), (2, zV z), (3, zV y), (4, zV w)] := hl
  refine lv_iload_n C.1 C.2.1 dX9_can_0 rfl (lv_at hl 1 rfl) ?_
  refine ro_callS (As := [zV x]) (rest := []) C hK (c_X9_isSign l g x (by first | assumption | exact ⟨by omega, by omega⟩)) (hP.sub (ws' := []) [] rfl) kc_X9_isSign kl_X9_165 kn_X9 ks_X9_isSign nk_X9_isSign (rm_lt (by decide) (by decide)) hl rfl (Nat.le_of_ble_eq_true rfl) dX9_can_1 (fun r_1 hr_2 => ?_)
  subst hr_2
  refine r_beq 23 C dX9_can_4 rfl (fun h_3 => ?_) (fun h_3 => ?_)
  · skip
    refine r_iconstZ C dX9_can_23 ?_
    exact ret ((lw, hg)) dX9_can_24 hS hP (by unfold sCan; rw [if_neg (by omega)])
  refine lv_iload_n C.1 C.2.1 dX9_can_7 rfl (lv_at hl 2 rfl) ?_
  refine ro_callS (As := [zV z]) (rest := []) C hK (c_X9_isSign l g z (by first | assumption | exact ⟨by omega, by omega⟩)) (hP.sub (ws' := []) [] rfl) kc_X9_isSign kl_X9_165 kn_X9 ks_X9_isSign nk_X9_isSign (rm_lt (by decide) (by decide)) hl rfl (Nat.le_of_ble_eq_true rfl) dX9_can_8 (fun r_4 hr_5 => ?_)
  subst hr_5
  refine r_beq 23 C dX9_can_11 rfl (fun h_6 => ?_) (fun h_6 => ?_)
  · skip
    refine r_iconstZ C dX9_can_23 ?_
    exact ret ((lw, hg)) dX9_can_24 hS hP (by unfold sCan; rw [if_neg (by omega)])
  refine lv_iload_n C.1 C.2.1 dX9_can_14 rfl (lv_at hl 3 rfl) ?_
  refine lv_iload C.1 C.2.1 dX9_can_15 (lv_at hl 4 rfl) ?_
  refine ro_callS (As := [zV y, zV w]) (rest := []) C hK (c_X9_isLoss l g y w (by first | assumption | exact ⟨by omega, by omega⟩) (by first | assumption | exact ⟨by omega, by omega⟩)) (hP.sub (ws' := []) [] rfl) kc_X9_isLoss kl_X9_168 kn_X9 ks_X9_isLoss nk_X9_isLoss (rm_lt (by decide) (by decide)) hl rfl (Nat.le_of_ble_eq_true rfl) dX9_can_17 (fun r_7 hr_8 => ?_)
  subst hr_8
  refine r_bne 25 C dX9_can_20 rfl (fun h_9 => ?_) (fun h_9 => ?_)
  · skip
    obtain ⟨xn, rfl⟩ : ∃ n : Nat, x = (n : Int) := ⟨x.toNat, by omega⟩
    obtain ⟨zn, rfl⟩ : ∃ n : Nat, z = (n : Int) := ⟨z.toNat, by omega⟩
    obtain ⟨yn, rfl⟩ : ∃ n : Nat, y = (n : Int) := ⟨y.toNat, by omega⟩
    obtain ⟨wn, rfl⟩ : ∃ n : Nat, w = (n : Int) := ⟨w.toNat, by omega⟩
    have hl : lv_has ls 5 [(0, .ref x0), (1, nV xn), (2, nV zn), (3, nV yn), (4, nV wn)] := hl
    refine lv_aload_n C.1 C.2.1 dX9_can_25 rfl (lv_at hl 0 rfl) ?_
    refine r_get C hK hP kw_X9 (ci := 7) rfl 0 5 (by decide) kf_X9_45 rfl rfl dX9_can_26 ?_
    refine lv_aload_n C.1 C.2.1 dX9_can_29 rfl (lv_at hl 0 rfl) ?_
    refine r_get C hK hP kw_X9 (ci := 7) rfl 0 7 (by decide) kf_X9_61 rfl rfl dX9_can_30 ?_
    refine lv_iload_n C.1 C.2.1 dX9_can_33 rfl (lv_at hl 1 rfl) ?_
    refine lv_iload_n C.1 C.2.1 dX9_can_34 rfl (lv_at hl 3 rfl) ?_
    refine lv_iload C.1 C.2.1 dX9_can_35 (lv_at hl 4 rfl) ?_
    refine wr_callVV (As := [.ref v, nV xn, nV yn, nV wn]) (rest := []) C hK (c_X3_fill l g rc0 rl0 rh0 lw hg v v0 v1 v2 v3 v4 k nc nb bi mo xn yn wn (by first | assumption | omega) (by first | assumption | omega) (by first | assumption | omega) (by first | assumption | omega)) [1, 2, 3, 4] rfl (fun _ => rfl) (by decide) hP hD hS hA (ci := 2) (q0 := 0) rfl rfl kc_X3_fill kl_X9_176 kn_X3 ki_X3_fill ke_X3_fill nk_X3_fill (rm_lt (by decide) (by decide)) hl rfl (Nat.le_of_ble_eq_true rfl) dX9_can_37 (fun u_12 H locs hr_11 hP hD hS => ?_)
    obtain ⟨lw1_a, hg1_a⟩ := u_12
    have hP : va_P g.1 vwCl [(x0, .inr (7, [.ref t, .ref rd0, .ref q, .ref us, .ref ks, .ref rc0, .ref se, .ref v, .ref vd])), (rc0, .inr (2, [.ref rl0, .ref rh0])), (rl0, cM g 72 lw1_a), (rh0, cM g 72 hg1_a), (v, .inr (6, [.ref v0, .ref v1, .ref v2, .ref v3, .ref v4, nV k, nV nc, nV nb, nV bi, nV mo]))] H := hP
    have hD : va_D A [(x0, .inr (7, [.ref t, .ref rd0, .ref q, .ref us, .ref ks, .ref rc0, .ref se, .ref v, .ref vd])), (rc0, .inr (2, [.ref rl0, .ref rh0])), (rl0, cM g 72 lw1_a), (rh0, cM g 72 hg1_a), (v, .inr (6, [.ref v0, .ref v1, .ref v2, .ref v3, .ref v4, nV k, nV nc, nV nb, nV bi, nV mo]))] := hD
    try dsimp only at hr_11
    have hm1 := hr_11
    refine lv_aload_n C.1 C.2.1 dX9_can_40 rfl (lv_at hl 0 rfl) ?_
    refine r_get C hK hP kw_X9 (ci := 7) rfl 0 5 (by decide) kf_X9_45 rfl rfl dX9_can_41 ?_
    refine lv_iload_n C.1 C.2.1 dX9_can_44 rfl (lv_at hl 1 rfl) ?_
    refine lv_iload_n C.1 C.2.1 dX9_can_45 rfl (lv_at hl 2 rfl) ?_
    refine ro_callV (As := [nV xn, nV zn]) (rest := []) C hK (c_X3_holds l g rc0 rl0 rh0 lw1_a hg1_a (fun t => rc bi mo xn wn t (yn + 1)) xn zn (by first | assumption | omega) (by first | assumption | omega) (hm1.1)) (hP.sub (ws' := [(rc0, .inr (2, [.ref rl0, .ref rh0])), (rl0, cM g 72 lw1_a), (rh0, cM g 72 hg1_a)]) [1, 2, 3] rfl) (ci := 2) (q0 := 0) rfl rfl kc_X3_holds kl_X9_183 kn_X3 ki_X3_holds ke_X3_holds nk_X3_holds (rm_lt (by decide) (by decide)) hl rfl (Nat.le_of_ble_eq_true rfl) dX9_can_46 (fun r_13 hr_14 => ?_)
    subst hr_14
    refine r_beq 56 C dX9_can_49 rfl (fun g1 => ?_) (fun g1 => ?_)
    · skip
      refine r_iconst 0 C dX9_can_56 rfl ?_
      exact ret ((lw1_a, hg1_a)) dX9_can_57 hS hP (by unfold sCan; rw [if_pos (by omega)]; exact iI_cast (by show _ = (if rc bi mo xn wn zn (yn + 1) = true then (1 : Int) else 0); first | (rw [if_pos g1]; rfl) | (rw [if_neg g1]; rfl)))
    refine r_iconst 1 C dX9_can_52 rfl ?_
    refine r_goto 57 C dX9_can_53 rfl ?_
    exact ret ((lw1_a, hg1_a)) dX9_can_57 hS hP (by unfold sCan; rw [if_pos (by omega)]; exact iI_cast (by show _ = (if rc bi mo xn wn zn (yn + 1) = true then (1 : Int) else 0); first | (rw [if_pos g1]; rfl) | (rw [if_neg g1]; rfl)))
  refine r_iconstZ C dX9_can_23 ?_
  exact ret ((lw, hg)) dX9_can_24 hS hP (by unfold sCan; rw [if_neg (by omega)])
set_option maxHeartbeats 4000000 in
set_option maxRecDepth 100000 in
theorem c_X9_was (l : Launch) (g : GG) (x0 : Nat) (t : Nat) (rd0 : Nat) (q : Nat) (us : Nat) (ks : Nat) (rc0 : Nat) (se : Nat) (v : Nat) (vd : Nat) (rl0 : Nat) (rh0 : Nat) (lw : Nat → Nat) (hg : Nat → Nat) (v0 : Nat) (v1 : Nat) (v2 : Nat) (v3 : Nat) (v4 : Nat) (sg : Nat → Nat) (k : Nat) (nc : Nat) (nb : Nat) (bi : Nat) (mo : Nat) (x : Int) (y : Int) (w : Int) (hbm : (1 ≤ bi ∧ bi ≤ 9) ∧ (1 ≤ mo ∧ mo ≤ 9)) (hsg : ∀ j, sg j < 72) (hk : k ≤ 8) (hx : rg x) (hy : rg y) (hw : rg w) : WRi g l yX9_was cX9_was 6 (some .int) 6 [(x0, .inr (7, [.ref t, .ref rd0, .ref q, .ref us, .ref ks, .ref rc0, .ref se, .ref v, .ref vd])), (rc0, .inr (2, [.ref rl0, .ref rh0])), (rl0, cM g 72 lw), (rh0, cM g 72 hg), (v, .inr (6, [.ref v0, .ref v1, .ref v2, .ref v3, .ref v4, nV k, nV nc, nV nb, nV bi, nV mo])), (v0, cN g 8 sg)] [.ref x0, zV x, zV y, zV w] (fun r (uq_ : (Nat → Nat) × (Nat → Nat)) => match uq_ with | (lw1, hg1) => r = sWas sg k bi mo x y w) (fun (uq_ : (Nat → Nat) × (Nat → Nat)) => match uq_ with | (lw1, hg1) => [(x0, .inr (7, [.ref t, .ref rd0, .ref q, .ref us, .ref ks, .ref rc0, .ref se, .ref v, .ref vd])), (rc0, .inr (2, [.ref rl0, .ref rh0])), (rl0, cM g 72 lw1), (rh0, cM g 72 hg1), (v, .inr (6, [.ref v0, .ref v1, .ref v2, .ref v3, .ref v4, nV k, nV nc, nV nb, nV bi, nV mo])), (v0, cN g 8 sg)]) := by
  refine wr_startI (by decide +kernel) (Nat.le_of_ble_eq_true rfl) ?_
  intro p e s m args below meth c Q A ls C hK hA ret hP hD hS hl
  have C : CT p s m args meth c cX9_was RX9 6 := C
  have hl : lv_has ls 6 [(0, .ref x0), (1, zV x), (2, zV y), (3, zV w)] := hl
  refine lv_iload_n C.1 C.2.1 dX9_was_0 rfl (lv_at hl 1 rfl) ?_
  refine ro_callS (As := [zV x]) (rest := []) C hK (c_X9_isSign l g x (by first | assumption | exact ⟨by omega, by omega⟩)) (hP.sub (ws' := []) [] rfl) kc_X9_isSign kl_X9_165 kn_X9 ks_X9_isSign nk_X9_isSign (rm_lt (by decide) (by decide)) hl rfl (Nat.le_of_ble_eq_true rfl) dX9_was_1 (fun r_1 hr_2 => ?_)
  subst hr_2
  refine r_beq 15 C dX9_was_4 rfl (fun h_3 => ?_) (fun h_3 => ?_)
  · skip
    refine r_iconstZ C dX9_was_15 ?_
    exact ret ((lw, hg)) dX9_was_16 hS hP (by unfold sWas; rw [if_neg (by omega)])
  refine lv_iload_n C.1 C.2.1 dX9_was_7 rfl (lv_at hl 2 rfl) ?_
  refine lv_iload_n C.1 C.2.1 dX9_was_8 rfl (lv_at hl 3 rfl) ?_
  refine ro_callS (As := [zV y, zV w]) (rest := []) C hK (c_X9_isLoss l g y w (by first | assumption | exact ⟨by omega, by omega⟩) (by first | assumption | exact ⟨by omega, by omega⟩)) (hP.sub (ws' := []) [] rfl) kc_X9_isLoss kl_X9_168 kn_X9 ks_X9_isLoss nk_X9_isLoss (rm_lt (by decide) (by decide)) hl rfl (Nat.le_of_ble_eq_true rfl) dX9_was_9 (fun r_4 hr_5 => ?_)
  subst hr_5
  refine r_bne 17 C dX9_was_12 rfl (fun h_6 => ?_) (fun h_6 => ?_)
  · skip
    obtain ⟨xn, rfl⟩ : ∃ n : Nat, x = (n : Int) := ⟨x.toNat, by omega⟩
    obtain ⟨yn, rfl⟩ : ∃ n : Nat, y = (n : Int) := ⟨y.toNat, by omega⟩
    obtain ⟨wn, rfl⟩ : ∃ n : Nat, w = (n : Int) := ⟨w.toNat, by omega⟩
    have hl : lv_has ls 6 [(0, .ref x0), (1, nV xn), (2, nV yn), (3, nV wn)] := hl
    refine r_iconst 0 C dX9_was_17 rfl ?_
    refine lv_istore (lv' := [(4, nV 0), (0, .ref x0), (1, nV xn), (2, nV yn), (3, nV wn)]) C.1 C.2.1 dX9_was_18 hl (by decide) rfl (fun ls hl => ?_)
    refine r_iconst 0 C dX9_was_20 rfl ?_
    refine lv_istore (lv' := [(5, nV 0), (4, nV 0), (0, .ref x0), (1, nV xn), (2, nV yn), (3, nV wn)]) C.1 C.2.1 dX9_was_21 hl (by decide) rfl (fun ls hl => ?_)
    have L23 : ∀ (n_23 : Nat) (i : Nat) (tt : Int32) (lwA : Nat → Nat) (hgA : Nat → Nat) (H : Heap) (locs : List Loc) (ls : Array Slot) (hi : i ≤ k) (ht : tt = bset (fun w => rc bi mo (sg w) wn xn (yn + 1)) i) (hm : k - i < n_23) (hP : va_P g.1 vwCl [(x0, .inr (7, [.ref t, .ref rd0, .ref q, .ref us, .ref ks, .ref rc0, .ref se, .ref v, .ref vd])), (rc0, .inr (2, [.ref rl0, .ref rh0])), (rl0, cM g 72 lwA), (rh0, cM g 72 hgA), (v, .inr (6, [.ref v0, .ref v1, .ref v2, .ref v3, .ref v4, nV k, nV nc, nV nb, nV bi, nV mo])), (v0, cN g 8 sg)] H) (hD : va_D A [(x0, .inr (7, [.ref t, .ref rd0, .ref q, .ref us, .ref ks, .ref rc0, .ref se, .ref v, .ref vd])), (rc0, .inr (2, [.ref rl0, .ref rh0])), (rl0, cM g 72 lwA), (rh0, cM g 72 hgA), (v, .inr (6, [.ref v0, .ref v1, .ref v2, .ref v3, .ref v4, nV k, nV nc, nV nb, nV bi, nV mo])), (v0, cN g 8 sg)]) (hS : va_S A s.heap H locs) (hl : lv_has ls 6 [(5, nV i), (4, .int tt), (0, .ref x0), (1, nV xn), (2, nV yn), (3, nV wn)]), W p l e (rD 6) s m args below meth c H locs 0 0 Q (F0 m 23 ls []) := by
      intro n_23
      induction n_23 with
      | zero => intro i tt lwA hgA H locs ls hi ht hm hP hD hS hl; exact absurd hm (Nat.not_lt_zero _)
      | succ n_23 ih_23 =>
        intro i tt lwA hgA H locs ls hi ht hm hP hD hS hl
        refine lv_iload C.1 C.2.1 dX9_was_23 (lv_at hl 0 rfl) ?_
        refine lv_aload_n C.1 C.2.1 dX9_was_25 rfl (lv_at hl 2 rfl) ?_
        refine r_get C hK hP kw_X9 (ci := 7) rfl 0 7 (by decide) kf_X9_61 rfl rfl dX9_was_26 ?_
        refine ro_callV (As := []) (rest := [nV i]) C hK (c_X8_words l g v v0 v1 v2 v3 v4 k nc nb bi mo) (hP.sub (ws' := [(v, .inr (6, [.ref v0, .ref v1, .ref v2, .ref v3, .ref v4, nV k, nV nc, nV nb, nV bi, nV mo]))]) [4] rfl) (ci := 6) (q0 := 0) rfl rfl kc_X8_words kl_X9_95 kn_X8 ki_X8_words ke_X8_words nk_X8_words (rm_lt (by decide) (by decide)) hl rfl (Nat.le_of_ble_eq_true rfl) dX9_was_29 (fun r_7 hr_8 => ?_)
        subst hr_8
        refine r_cge 92 C dX9_was_32 rfl ⟨rgN (by omega), rgN (by omega)⟩ (fun h_9 => ?_) (fun h_9 => ?_)
        · skip
          refine lv_iload C.1 C.2.1 dX9_was_92 (lv_at hl 1 rfl) ?_
          exact ret ((lwA, hgA)) dX9_was_94 hS hP (by unfold sWas; rw [if_pos (by omega), ht, show i = k by omega]; rfl)
        refine lv_aload_n C.1 C.2.1 dX9_was_35 rfl (lv_at hl 2 rfl) ?_
        refine r_get C hK hP kw_X9 (ci := 7) rfl 0 5 (by decide) kf_X9_45 rfl rfl dX9_was_36 ?_
        refine lv_aload_n C.1 C.2.1 dX9_was_39 rfl (lv_at hl 2 rfl) ?_
        refine r_get C hK hP kw_X9 (ci := 7) rfl 0 7 (by decide) kf_X9_61 rfl rfl dX9_was_40 ?_
        refine lv_aload_n C.1 C.2.1 dX9_was_43 rfl (lv_at hl 2 rfl) ?_
        refine r_get C hK hP kw_X9 (ci := 7) rfl 0 7 (by decide) kf_X9_61 rfl rfl dX9_was_44 ?_
        refine lv_iload C.1 C.2.1 dX9_was_47 (lv_at hl 0 rfl) ?_
        refine ro_callV (As := [nV i]) (rest := [.ref v, .ref rc0]) C hK (c_X8_signOf l g v v0 v1 v2 v3 v4 sg k nc nb bi mo i (by first | assumption | omega)) (hP.sub (ws' := [(v, .inr (6, [.ref v0, .ref v1, .ref v2, .ref v3, .ref v4, nV k, nV nc, nV nb, nV bi, nV mo])), (v0, cN g 8 sg)]) [4, 5] rfl) (ci := 6) (q0 := 0) rfl rfl kc_X8_signOf kl_X9_103 kn_X8 ki_X8_signOf ke_X8_signOf nk_X8_signOf (rm_lt (by decide) (by decide)) hl rfl (Nat.le_of_ble_eq_true rfl) dX9_was_49 (fun r_10 hr_11 => ?_)
        subst hr_11
        have hf_12 := hsg (i)
        refine lv_iload_n C.1 C.2.1 dX9_was_52 rfl (lv_at hl 4 rfl) ?_
        refine lv_iload_n C.1 C.2.1 dX9_was_53 rfl (lv_at hl 5 rfl) ?_
        refine wr_callVV (As := [.ref v, nV (sg i), nV yn, nV wn]) (rest := []) C hK (c_X3_fill l g rc0 rl0 rh0 lwA hgA v v0 v1 v2 v3 v4 k nc nb bi mo (sg i) yn wn (by first | assumption | omega) (by first | assumption | omega) (by first | assumption | omega) (by first | assumption | omega)) [1, 2, 3, 4] rfl (fun _ => rfl) (by decide) hP hD hS hA (ci := 2) (q0 := 0) rfl rfl kc_X3_fill kl_X9_176 kn_X3 ki_X3_fill ke_X3_fill nk_X3_fill (rm_lt (by decide) (by decide)) hl rfl (Nat.le_of_ble_eq_true rfl) dX9_was_54 (fun u_15 H locs hr_14 hP hD hS => ?_)
        obtain ⟨lw1_a, hg1_a⟩ := u_15
        have hP : va_P g.1 vwCl [(x0, .inr (7, [.ref t, .ref rd0, .ref q, .ref us, .ref ks, .ref rc0, .ref se, .ref v, .ref vd])), (rc0, .inr (2, [.ref rl0, .ref rh0])), (rl0, cM g 72 lw1_a), (rh0, cM g 72 hg1_a), (v, .inr (6, [.ref v0, .ref v1, .ref v2, .ref v3, .ref v4, nV k, nV nc, nV nb, nV bi, nV mo])), (v0, cN g 8 sg)] H := hP
        have hD : va_D A [(x0, .inr (7, [.ref t, .ref rd0, .ref q, .ref us, .ref ks, .ref rc0, .ref se, .ref v, .ref vd])), (rc0, .inr (2, [.ref rl0, .ref rh0])), (rl0, cM g 72 lw1_a), (rh0, cM g 72 hg1_a), (v, .inr (6, [.ref v0, .ref v1, .ref v2, .ref v3, .ref v4, nV k, nV nc, nV nb, nV bi, nV mo])), (v0, cN g 8 sg)] := hD
        try dsimp only at hr_14
        have hm1 := hr_14
        refine lv_aload_n C.1 C.2.1 dX9_was_57 rfl (lv_at hl 2 rfl) ?_
        refine r_get C hK hP kw_X9 (ci := 7) rfl 0 5 (by decide) kf_X9_45 rfl rfl dX9_was_58 ?_
        refine lv_aload_n C.1 C.2.1 dX9_was_61 rfl (lv_at hl 2 rfl) ?_
        refine r_get C hK hP kw_X9 (ci := 7) rfl 0 7 (by decide) kf_X9_61 rfl rfl dX9_was_62 ?_
        refine lv_iload C.1 C.2.1 dX9_was_65 (lv_at hl 0 rfl) ?_
        refine ro_callV (As := [nV i]) (rest := [.ref rc0]) C hK (c_X8_signOf l g v v0 v1 v2 v3 v4 sg k nc nb bi mo i (by first | assumption | omega)) (hP.sub (ws' := [(v, .inr (6, [.ref v0, .ref v1, .ref v2, .ref v3, .ref v4, nV k, nV nc, nV nb, nV bi, nV mo])), (v0, cN g 8 sg)]) [4, 5] rfl) (ci := 6) (q0 := 0) rfl rfl kc_X8_signOf kl_X9_103 kn_X8 ki_X8_signOf ke_X8_signOf nk_X8_signOf (rm_lt (by decide) (by decide)) hl rfl (Nat.le_of_ble_eq_true rfl) dX9_was_67 (fun r_16 hr_17 => ?_)
        subst hr_17
        have hf_18 := hsg (i)
        refine lv_iload_n C.1 C.2.1 dX9_was_70 rfl (lv_at hl 3 rfl) ?_
        refine ro_callV (As := [nV (sg i), nV xn]) (rest := []) C hK (c_X3_holds l g rc0 rl0 rh0 lw1_a hg1_a (fun t => rc bi mo (sg i) wn t (yn + 1)) (sg i) xn (by first | assumption | omega) (by first | assumption | omega) (hm1.1)) (hP.sub (ws' := [(rc0, .inr (2, [.ref rl0, .ref rh0])), (rl0, cM g 72 lw1_a), (rh0, cM g 72 hg1_a)]) [1, 2, 3] rfl) (ci := 2) (q0 := 0) rfl rfl kc_X3_holds kl_X9_183 kn_X3 ki_X3_holds ke_X3_holds nk_X3_holds (rm_lt (by decide) (by decide)) hl rfl (Nat.le_of_ble_eq_true rfl) dX9_was_71 (fun r_19 hr_20 => ?_)
        subst hr_20
        refine r_beq 86 C dX9_was_74 rfl (fun g1 => ?_) (fun g1 => ?_)
        · skip
          refine r_incN (k := 0) (n := 1) [(5, nV (i + 1)), (4, .int tt), (0, .ref x0), (1, nV xn), (2, nV yn), (3, nV wn)] C dX9_was_86 hl rfl rfl (by decide) rfl (fun ls hl => ?_)
          refine r_goto 23 C dX9_was_89 rfl ?_
          exact ih_23 (i + 1) tt lw1_a hg1_a _ _ _ (by first | assumption | omega) (by rw [ht]; show _ = (if rc bi mo (sg i) wn xn (yn + 1) = true then _ else _); first | (rw [if_pos g1]; done) | rw [if_neg g1]) (by omega) hP hD hS (lv_sub hl [0, 1, 2, 3, 4, 5] rfl)
        refine lv_iload C.1 C.2.1 dX9_was_77 (lv_at hl 1 rfl) ?_
        refine r_iconst 1 C dX9_was_79 rfl ?_
        refine lv_iload C.1 C.2.1 dX9_was_80 (lv_at hl 0 rfl) ?_
        refine lv_ishl C.1 C.2.1 dX9_was_82 ?_
        refine lv_ior C.1 C.2.1 dX9_was_83 ?_
        refine lv_istore (lv' := [(4, .int (tt ||| ((iI ((1 : Nat) : Int)) <<< ((iI ((i : Nat) : Int)) &&& 31)))), (5, nV i), (0, .ref x0), (1, nV xn), (2, nV yn), (3, nV wn)]) C.1 C.2.1 dX9_was_84 hl (by decide) rfl (fun ls hl => ?_)
        refine r_incN (k := 1) (n := 1) [(5, nV (i + 1)), (4, .int (tt ||| ((iI ((1 : Nat) : Int)) <<< ((iI ((i : Nat) : Int)) &&& 31)))), (0, .ref x0), (1, nV xn), (2, nV yn), (3, nV wn)] C dX9_was_86 hl rfl rfl (by decide) rfl (fun ls hl => ?_)
        refine r_goto 23 C dX9_was_89 rfl ?_
        exact ih_23 (i + 1) (tt ||| ((iI ((1 : Nat) : Int)) <<< ((iI ((i : Nat) : Int)) &&& 31))) lw1_a hg1_a _ _ _ (by first | assumption | omega) (by rw [ht]; show _ = (if rc bi mo (sg i) wn xn (yn + 1) = true then _ else _); first | (rw [if_pos g1]; done) | rw [if_neg g1]) (by omega) hP hD hS (lv_sub hl [0, 1, 2, 3, 4, 5] rfl)
    exact L23 (k - 0 + 1) 0 (iI ((0 : Nat) : Int)) lw hg _ _ _ (by first | assumption | omega) (rfl) (Nat.lt_succ_self _) hP hD hS (lv_sub hl [0, 1, 2, 3, 4, 5] rfl)
  refine r_iconstZ C dX9_was_15 ?_
  exact ret ((lw, hg)) dX9_was_16 hS hP (by unfold sWas; rw [if_neg (by omega)])
set_option maxHeartbeats 4000000 in
set_option maxRecDepth 100000 in
theorem c_X9_code (l : Launch) (g : GG) (x0 : Nat) (t : Nat) (rd0 : Nat) (q : Nat) (us : Nat) (ks : Nat) (rc0 : Nat) (se : Nat) (v : Nat) (vd : Nat) (ca : Nat) (ba : Nat) (wt : Nat) (le : Nat) (c1 : Nat → Nat) (b1 : Nat → Nat) (rl0 : Nat) (rh0 : Nat) (lw : Nat → Nat) (hg : Nat → Nat) (v0 : Nat) (v1 : Nat) (v2 : Nat) (v3 : Nat) (v4 : Nat) (k : Nat) (nc : Nat) (nb : Nat) (bi : Nat) (mo : Nat) (x : Int) (y : Int) (w : Int) (z : Int) (hbm : (1 ≤ bi ∧ bi ≤ 9) ∧ (1 ≤ mo ∧ mo ≤ 9)) (hc : ∀ j, c1 j < 72) (hx : rg x) (hy : rg y) (hw : rg w) (hz : rg z) : WRi g l yX9_code cX9_code 5 (some .int) 11 [(x0, .inr (7, [.ref t, .ref rd0, .ref q, .ref us, .ref ks, .ref rc0, .ref se, .ref v, .ref vd])), (se, .inr (0, [.ref rc0, .ref ca, .ref ba, nV wt, nV le])), (ca, cN g 3 c1), (ba, cN g 3 b1), (rc0, .inr (2, [.ref rl0, .ref rh0])), (rl0, cM g 72 lw), (rh0, cM g 72 hg), (v, .inr (6, [.ref v0, .ref v1, .ref v2, .ref v3, .ref v4, nV k, nV nc, nV nb, nV bi, nV mo]))] [.ref x0, zV x, zV y, zV w, zV z] (fun r (uq_ : Nat × Nat × (Nat → Nat) × (Nat → Nat) × (Nat → Nat) × (Nat → Nat)) => match uq_ with | (wt1, le1, ca1, ba1, lw1, hg1) => r = iI (sCodC bi mo c1 b1 x y w z) ∧ ∀ j, ca1 j < 72) (fun (uq_ : Nat × Nat × (Nat → Nat) × (Nat → Nat) × (Nat → Nat) × (Nat → Nat)) => match uq_ with | (wt1, le1, ca1, ba1, lw1, hg1) => [(x0, .inr (7, [.ref t, .ref rd0, .ref q, .ref us, .ref ks, .ref rc0, .ref se, .ref v, .ref vd])), (se, .inr (0, [.ref rc0, .ref ca, .ref ba, nV wt1, nV le1])), (ca, cN g 3 ca1), (ba, cN g 3 ba1), (rc0, .inr (2, [.ref rl0, .ref rh0])), (rl0, cM g 72 lw1), (rh0, cM g 72 hg1), (v, .inr (6, [.ref v0, .ref v1, .ref v2, .ref v3, .ref v4, nV k, nV nc, nV nb, nV bi, nV mo]))]) := by
  refine wr_startI (by decide +kernel) (Nat.le_of_ble_eq_true rfl) ?_
  intro p e s m args below meth c Q A ls C hK hA ret hP hD hS hl
  have C : CT p s m args meth c cX9_code RX9 5 := C
  have hl : lv_has ls 5 [(0, .ref x0), (1, zV x), (2, zV y), (3, zV w), (4, zV z)] := hl
  refine lv_iload_n C.1 C.2.1 dX9_code_0 rfl (lv_at hl 1 rfl) ?_
  refine r_iconst 1 C dX9_code_1 rfl ?_
  refine r_iconst 3 C dX9_code_2 rfl ?_
  refine ro_callS (As := [zV x, nV 1, nV 3]) (rest := []) C hK (c_X9_within l g x ((1 : Nat) : Int) ((3 : Nat) : Int) (by first | assumption | exact ⟨by omega, by omega⟩) (by first | assumption | exact ⟨by omega, by omega⟩) (by first | assumption | exact ⟨by omega, by omega⟩)) (hP.sub (ws' := []) [] rfl) kc_X9_within kl_X9_72 kn_X9 ks_X9_within nk_X9_within (rm_lt (by decide) (by decide)) hl rfl (Nat.le_of_ble_eq_true rfl) dX9_code_3 (fun r_1 hr_2 => ?_)
  subst hr_2
  refine r_beq 29 C dX9_code_6 rfl (fun h_3 => ?_) (fun h_3 => ?_)
  · skip
    refine r_iconstZ C dX9_code_29 ?_
    exact ret ((wt, le, c1, b1, lw, hg)) dX9_code_30 hS hP (⟨by unfold sCodC; rw [if_neg (by omega)], hc⟩)
  refine lv_iload_n C.1 C.2.1 dX9_code_9 rfl (lv_at hl 2 rfl) ?_
  refine lv_iload_n C.1 C.2.1 dX9_code_10 rfl (lv_at hl 3 rfl) ?_
  refine ro_callS (As := [zV y, zV w]) (rest := []) C hK (c_X9_isLoss l g y w (by first | assumption | exact ⟨by omega, by omega⟩) (by first | assumption | exact ⟨by omega, by omega⟩)) (hP.sub (ws' := []) [] rfl) kc_X9_isLoss kl_X9_168 kn_X9 ks_X9_isLoss nk_X9_isLoss (rm_lt (by decide) (by decide)) hl rfl (Nat.le_of_ble_eq_true rfl) dX9_code_11 (fun r_4 hr_5 => ?_)
  subst hr_5
  refine r_beq 29 C dX9_code_14 rfl (fun h_6 => ?_) (fun h_6 => ?_)
  · skip
    refine r_iconstZ C dX9_code_29 ?_
    exact ret ((wt, le, c1, b1, lw, hg)) dX9_code_30 hS hP (⟨by unfold sCodC; rw [if_neg (by omega)], hc⟩)
  refine lv_iload C.1 C.2.1 dX9_code_17 (lv_at hl 4 rfl) ?_
  refine r_iconstZ C dX9_code_19 ?_
  refine lv_iload_n C.1 C.2.1 dX9_code_20 rfl (lv_at hl 1 rfl) ?_
  refine r_iconst 1 C dX9_code_21 rfl ?_
  refine r_subZ C dX9_code_22 ?_
  refine ro_callS (As := [zV z, zV (-1), zV (x - ((1 : Nat) : Int))]) (rest := []) C hK (c_X9_within l g z (-1) (x - ((1 : Nat) : Int)) (by first | assumption | exact ⟨by omega, by omega⟩) (by first | assumption | exact ⟨by omega, by omega⟩) (by first | assumption | exact ⟨by omega, by omega⟩)) (hP.sub (ws' := []) [] rfl) kc_X9_within kl_X9_72 kn_X9 ks_X9_within nk_X9_within (rm_lt (by decide) (by decide)) hl rfl (Nat.le_of_ble_eq_true rfl) dX9_code_23 (fun r_7 hr_8 => ?_)
  subst hr_8
  refine r_bne 31 C dX9_code_26 rfl (fun h_9 => ?_) (fun h_9 => ?_)
  · skip
    obtain ⟨xn, rfl⟩ : ∃ n : Nat, x = (n : Int) := ⟨x.toNat, by omega⟩
    obtain ⟨yn, rfl⟩ : ∃ n : Nat, y = (n : Int) := ⟨y.toNat, by omega⟩
    obtain ⟨wn, rfl⟩ : ∃ n : Nat, w = (n : Int) := ⟨w.toNat, by omega⟩
    have hl : lv_has ls 5 [(0, .ref x0), (1, nV xn), (2, nV yn), (3, nV wn), (4, zV z)] := hl
    refine lv_aload_n C.1 C.2.1 dX9_code_31 rfl (lv_at hl 0 rfl) ?_
    refine r_get C hK hP kw_X9 (ci := 7) rfl 0 6 (by decide) kf_X9_54 rfl rfl dX9_code_32 ?_
    refine lv_aload_n C.1 C.2.1 dX9_code_35 rfl (lv_at hl 0 rfl) ?_
    refine r_get C hK hP kw_X9 (ci := 7) rfl 0 7 (by decide) kf_X9_61 rfl rfl dX9_code_36 ?_
    refine lv_iload_n C.1 C.2.1 dX9_code_39 rfl (lv_at hl 1 rfl) ?_
    refine lv_iload_n C.1 C.2.1 dX9_code_40 rfl (lv_at hl 2 rfl) ?_
    refine lv_iload_n C.1 C.2.1 dX9_code_41 rfl (lv_at hl 3 rfl) ?_
    refine wr_callV (As := [.ref v, nV xn, nV yn, nV wn]) (rest := []) C hK (c_X0_find l g se ca ba wt le c1 b1 rc0 rl0 rh0 lw hg v v0 v1 v2 v3 v4 k nc nb bi mo xn yn wn (by first | assumption | omega) (by first | assumption | omega) (by first | assumption | omega) (by first | assumption | omega) (by first | assumption | omega)) [1, 2, 3, 4, 5, 6, 7] rfl (fun _ => rfl) (by decide) hP hD hS hA (ci := 0) (q0 := 0) rfl rfl kc_X0_find kl_X9_194 kn_X0 ki_X0_find ke_X0_find nk_X0_find (rm_lt (by decide) (by decide)) hl rfl (Nat.le_of_ble_eq_true rfl) dX9_code_42 (fun r_10 u_12 H locs hr_11 hP hD hS => ?_)
    obtain ⟨lw1_a, hg1_a⟩ := u_12
    have hP : va_P g.1 vwCl [(x0, .inr (7, [.ref t, .ref rd0, .ref q, .ref us, .ref ks, .ref rc0, .ref se, .ref v, .ref vd])), (se, .inr (0, [.ref rc0, .ref ca, .ref ba, nV xn, nV ((exs (fun y t => rc bi mo y wn t (yn + 1)) xn 0 0 0 (c1, b1, 2147483647)).2.2)])), (ca, cN g 3 ((exs (fun y t => rc bi mo y wn t (yn + 1)) xn 0 0 0 (c1, b1, 2147483647)).1)), (ba, cN g 3 ((exs (fun y t => rc bi mo y wn t (yn + 1)) xn 0 0 0 (c1, b1, 2147483647)).2.1)), (rc0, .inr (2, [.ref rl0, .ref rh0])), (rl0, cM g 72 lw1_a), (rh0, cM g 72 hg1_a), (v, .inr (6, [.ref v0, .ref v1, .ref v2, .ref v3, .ref v4, nV k, nV nc, nV nb, nV bi, nV mo]))] H := hP
    have hD : va_D A [(x0, .inr (7, [.ref t, .ref rd0, .ref q, .ref us, .ref ks, .ref rc0, .ref se, .ref v, .ref vd])), (se, .inr (0, [.ref rc0, .ref ca, .ref ba, nV xn, nV ((exs (fun y t => rc bi mo y wn t (yn + 1)) xn 0 0 0 (c1, b1, 2147483647)).2.2)])), (ca, cN g 3 ((exs (fun y t => rc bi mo y wn t (yn + 1)) xn 0 0 0 (c1, b1, 2147483647)).1)), (ba, cN g 3 ((exs (fun y t => rc bi mo y wn t (yn + 1)) xn 0 0 0 (c1, b1, 2147483647)).2.1)), (rc0, .inr (2, [.ref rl0, .ref rh0])), (rl0, cM g 72 lw1_a), (rh0, cM g 72 hg1_a), (v, .inr (6, [.ref v0, .ref v1, .ref v2, .ref v3, .ref v4, nV k, nV nc, nV nb, nV bi, nV mo]))] := hD
    try dsimp only at hr_11
    subst hr_11
    have hxk := exs_ok (S := fun y1 t => rc bi mo y1 wn t (yn + 1)) (r := xn) (dep := 0) (fr := 0) (flo := 0) (st := (c1, b1, 2147483647)) (by omega) (by omega) ⟨hc, Nat.le_refl _⟩
    refine r_bne 51 C dX9_code_45 rfl (fun g1 => ?_) (fun g1 => ?_)
    · skip
      refine lv_iload C.1 C.2.1 dX9_code_51 (lv_at hl 4 rfl) ?_
      refine r_iconstZ C dX9_code_53 ?_
      refine r_cne 67 C dX9_code_54 rfl ⟨⟨by omega, by omega⟩, (by decide)⟩ (fun g2 => ?_) (fun g2 => ?_)
      · skip
        obtain ⟨zn, rfl⟩ : ∃ n : Nat, z = (n : Int) := ⟨z.toNat, by omega⟩
        have hl : lv_has ls 5 [(0, .ref x0), (1, nV xn), (2, nV yn), (3, nV wn), (4, nV zn)] := hl
        refine lv_aload_n C.1 C.2.1 dX9_code_67 rfl (lv_at hl 0 rfl) ?_
        refine r_get C hK hP kw_X9 (ci := 7) rfl 0 6 (by decide) kf_X9_54 rfl rfl dX9_code_68 ?_
        refine lv_iload C.1 C.2.1 dX9_code_71 (lv_at hl 4 rfl) ?_
        refine ro_callV (As := [nV zn]) (rest := []) C hK (c_X0_signAt l g se rc0 ca ba xn ((exs (fun y t => rc bi mo y wn t (yn + 1)) xn 0 0 0 (c1, b1, 2147483647)).2.2) ((exs (fun y t => rc bi mo y wn t (yn + 1)) xn 0 0 0 (c1, b1, 2147483647)).2.1) zn (by first | assumption | omega)) (hP.sub (ws' := [(se, .inr (0, [.ref rc0, .ref ca, .ref ba, nV xn, nV ((exs (fun y t => rc bi mo y wn t (yn + 1)) xn 0 0 0 (c1, b1, 2147483647)).2.2)])), (ba, cN g 3 ((exs (fun y t => rc bi mo y wn t (yn + 1)) xn 0 0 0 (c1, b1, 2147483647)).2.1))]) [1, 3] rfl) (ci := 0) (q0 := 0) rfl rfl kc_X0_signAt kl_X9_201 kn_X0 ki_X0_signAt ke_X0_signAt nk_X0_signAt (rm_lt (by decide) (by decide)) hl rfl (Nat.le_of_ble_eq_true rfl) dX9_code_73 (fun r_13 hr_14 => ?_)
        subst hr_14
        exact ret ((xn, (exs (fun y t => rc bi mo y wn t (yn + 1)) xn 0 0 0 (c1, b1, 2147483647)).2.2, (exs (fun y t => rc bi mo y wn t (yn + 1)) xn 0 0 0 (c1, b1, 2147483647)).1, (exs (fun y t => rc bi mo y wn t (yn + 1)) xn 0 0 0 (c1, b1, 2147483647)).2.1, lw1_a, hg1_a)) dX9_code_76 hS hP (⟨by unfold sCodC; rw [if_pos (by omega)]; exact iI_cast (by show _ = (if (exs (fun y1 t => rc bi mo y1 wn t (yn + 1)) xn 0 0 0 (c1, b1, 2147483647)).2.2 = 2147483647 then (-4 : Int) else _); rw [if_neg g1, if_neg (by omega)]; rfl), hxk.1⟩)
      refine lv_aload_n C.1 C.2.1 dX9_code_57 rfl (lv_at hl 0 rfl) ?_
      refine r_get C hK hP kw_X9 (ci := 7) rfl 0 6 (by decide) kf_X9_54 rfl rfl dX9_code_58 ?_
      refine ro_callV (As := []) (rest := []) C hK (c_X0_leastFlour l g se rc0 ca ba xn ((exs (fun y t => rc bi mo y wn t (yn + 1)) xn 0 0 0 (c1, b1, 2147483647)).2.2)) (hP.sub (ws' := [(se, .inr (0, [.ref rc0, .ref ca, .ref ba, nV xn, nV ((exs (fun y t => rc bi mo y wn t (yn + 1)) xn 0 0 0 (c1, b1, 2147483647)).2.2)]))]) [1] rfl) (ci := 0) (q0 := 0) rfl rfl kc_X0_leastFlour kl_X9_198 kn_X0 ki_X0_leastFlour ke_X0_leastFlour nk_X0_leastFlour (rm_lt (by decide) (by decide)) hl rfl (Nat.le_of_ble_eq_true rfl) dX9_code_61 (fun r_15 hr_16 => ?_)
      subst hr_16
      refine r_goto 76 C dX9_code_64 rfl ?_
      exact ret ((xn, (exs (fun y t => rc bi mo y wn t (yn + 1)) xn 0 0 0 (c1, b1, 2147483647)).2.2, (exs (fun y t => rc bi mo y wn t (yn + 1)) xn 0 0 0 (c1, b1, 2147483647)).1, (exs (fun y t => rc bi mo y wn t (yn + 1)) xn 0 0 0 (c1, b1, 2147483647)).2.1, lw1_a, hg1_a)) dX9_code_76 hS hP (⟨by unfold sCodC; rw [if_pos (by omega)]; exact iI_cast (by show _ = (if (exs (fun y1 t => rc bi mo y1 wn t (yn + 1)) xn 0 0 0 (c1, b1, 2147483647)).2.2 = 2147483647 then (-4 : Int) else _); rw [if_neg g1, if_pos (by omega)]; rfl), hxk.1⟩)
    refine r_bipushZ C dX9_code_48 (by decide) ?_
    exact ret ((xn, (exs (fun y t => rc bi mo y wn t (yn + 1)) xn 0 0 0 (c1, b1, 2147483647)).2.2, (exs (fun y t => rc bi mo y wn t (yn + 1)) xn 0 0 0 (c1, b1, 2147483647)).1, (exs (fun y t => rc bi mo y wn t (yn + 1)) xn 0 0 0 (c1, b1, 2147483647)).2.1, lw1_a, hg1_a)) dX9_code_50 hS hP (⟨by unfold sCodC; rw [if_pos (by omega)]; exact iI_cast (if_pos (Decidable.not_not.mp g1)).symm, hxk.1⟩)
  refine r_iconstZ C dX9_code_29 ?_
  exact ret ((wt, le, c1, b1, lw, hg)) dX9_code_30 hS hP (⟨by unfold sCodC; rw [if_neg (by omega)], hc⟩)
set_option maxHeartbeats 4000000 in
set_option maxRecDepth 100000 in
theorem c_X9_write_ok (l : Launch) (g : GG) (x0 : Nat) (t : Nat) (rd0 : Nat) (q : Nat) (us : Nat) (ks : Nat) (rc0 : Nat) (se : Nat) (v : Nat) (vd : Nat) (t0 : Nat) (u : Nat → Nat) (Lt : Nat) (xn : Nat) (vv : Int64) (hok : (1 ≤ xn ∧ xn ≤ 8) ∧ Lt + xn ≤ 300) : WRi g l yX9_write cX9_write 4 (some .int) 3 [(x0, .inr (7, [.ref t, .ref rd0, .ref q, .ref us, .ref ks, .ref rc0, .ref se, .ref v, .ref vd])), (t, .inr (5, [.ref t0, nV Lt])), (t0, cB g 300 u)] [.ref x0, nV xn, .long vv] (fun r (_ : Unit) => r = iI ((Lt + xn : Nat) : Int)) (fun (_ : Unit) => [(x0, .inr (7, [.ref t, .ref rd0, .ref q, .ref us, .ref ks, .ref rc0, .ref se, .ref v, .ref vd])), (t, .inr (5, [.ref t0, nV (Lt + xn)])), (t0, cB g 300 (wrt u Lt vv xn xn))]) := by
  refine wr_startI (by decide +kernel) (Nat.le_of_ble_eq_true rfl) ?_
  intro p e s m args below meth c Q A ls C hK hA ret hP hD hS hl
  have C : CT p s m args meth c cX9_write RX9 4 := C
  have hl : lv_has ls 4 [(0, .ref x0), (1, nV xn), (2, .long vv)] := hl
  refine lv_iload_n C.1 C.2.1 dX9_write_0 rfl (lv_at hl 1 rfl) ?_
  refine r_iconst 1 C dX9_write_1 rfl ?_
  refine r_bipush 8 C dX9_write_2 (by decide) ?_
  refine ro_callS (As := [nV xn, nV 1, nV 8]) (rest := []) C hK (c_X9_within l g ((xn : Nat) : Int) ((1 : Nat) : Int) ((8 : Nat) : Int) (by first | assumption | exact ⟨by omega, by omega⟩) (by first | assumption | exact ⟨by omega, by omega⟩) (by first | assumption | exact ⟨by omega, by omega⟩)) (hP.sub (ws' := []) [] rfl) kc_X9_within kl_X9_72 kn_X9 ks_X9_within nk_X9_within (rm_lt (by decide) (by decide)) hl rfl (Nat.le_of_ble_eq_true rfl) dX9_write_4 (fun r_1 hr_2 => ?_)
  subst hr_2
  refine r_bne 12 C dX9_write_7 rfl (fun h_3 => ?_) (fun h_3 => ?_)
  rotate_left
  · exact absurd h_3 (by omega)
  refine lv_aload_n C.1 C.2.1 dX9_write_12 rfl (lv_at hl 0 rfl) ?_
  refine r_get C hK hP kw_X9 (ci := 7) rfl 0 0 (by decide) kf_X9_10 rfl rfl dX9_write_13 ?_
  refine lv_iload_n C.1 C.2.1 dX9_write_16 rfl (lv_at hl 1 rfl) ?_
  refine ro_callV (As := [nV xn]) (rest := []) C hK (c_X7_hasRoom l g t t0 Lt xn (by first | assumption | omega) (by first | assumption | omega)) (hP.sub (ws' := [(t, .inr (5, [.ref t0, nV Lt]))]) [1] rfl) (ci := 5) (q0 := 0) rfl rfl kc_X7_hasRoom kl_X9_76 kn_X7 ki_X7_hasRoom ke_X7_hasRoom nk_X7_hasRoom (rm_lt (by decide) (by decide)) hl rfl (Nat.le_of_ble_eq_true rfl) dX9_write_17 (fun r_4 hr_5 => ?_)
  subst hr_5
  refine r_bne 26 C dX9_write_20 rfl (fun h_6 => ?_) (fun h_6 => ?_)
  rotate_left
  · exact absurd h_6 (by omega)
  refine lv_aload_n C.1 C.2.1 dX9_write_26 rfl (lv_at hl 0 rfl) ?_
  refine r_get C hK hP kw_X9 (ci := 7) rfl 0 0 (by decide) kf_X9_10 rfl rfl dX9_write_27 ?_
  refine lv_iload_n C.1 C.2.1 dX9_write_30 rfl (lv_at hl 1 rfl) ?_
  refine lv_lload_n C.1 C.2.1 dX9_write_31 rfl (lv_at hl 2 rfl) ?_
  refine wr_callVV (As := [nV xn, .long vv]) (rest := []) C hK (c_X7_append l g t t0 u Lt xn vv (by first | assumption | omega) (by first | assumption | omega)) [1, 2] rfl (fun _ => rfl) (by decide) hP hD hS hA (ci := 5) (q0 := 0) rfl rfl kc_X7_append kl_X9_80 kn_X7 ki_X7_append ke_X7_append nk_X7_append (rm_lt (by decide) (by decide)) hl rfl (Nat.le_of_ble_eq_true rfl) dX9_write_32 (fun u_9 H locs hr_8 hP hD hS => ?_)
  have hP : va_P g.1 vwCl [(x0, .inr (7, [.ref t, .ref rd0, .ref q, .ref us, .ref ks, .ref rc0, .ref se, .ref v, .ref vd])), (t, .inr (5, [.ref t0, nV (Lt + xn)])), (t0, cB g 300 (wrt u Lt vv xn xn))] H := hP
  have hD : va_D A [(x0, .inr (7, [.ref t, .ref rd0, .ref q, .ref us, .ref ks, .ref rc0, .ref se, .ref v, .ref vd])), (t, .inr (5, [.ref t0, nV (Lt + xn)])), (t0, cB g 300 (wrt u Lt vv xn xn))] := hD
  refine lv_aload_n C.1 C.2.1 dX9_write_35 rfl (lv_at hl 0 rfl) ?_
  refine r_get C hK hP kw_X9 (ci := 7) rfl 0 0 (by decide) kf_X9_10 rfl rfl dX9_write_36 ?_
  refine ro_callV (As := []) (rest := []) C hK (c_X7_length l g t t0 (Lt + xn)) (hP.sub (ws' := [(t, .inr (5, [.ref t0, nV (Lt + xn)]))]) [1] rfl) (ci := 5) (q0 := 0) rfl rfl kc_X7_length kl_X9_84 kn_X7 ki_X7_length ke_X7_length nk_X7_length (rm_lt (by decide) (by decide)) hl rfl (Nat.le_of_ble_eq_true rfl) dX9_write_39 (fun r_10 hr_11 => ?_)
  subst hr_11
  exact ret (()) dX9_write_42 hS hP (by first | rfl | exact iI_cast (by omega) | exact congrArg lI (by omega) | omega)
set_option maxHeartbeats 4000000 in
set_option maxRecDepth 100000 in
theorem c_X9_write_no (l : Launch) (g : GG) (x0 : Nat) (t : Nat) (rd0 : Nat) (q : Nat) (us : Nat) (ks : Nat) (rc0 : Nat) (se : Nat) (v : Nat) (vd : Nat) (t0 : Nat) (Lt : Nat) (x : Int) (vv : Int64) (hLt : Lt ≤ 300) (hno : ¬ ((1 ≤ x ∧ x ≤ 8) ∧ (Lt : Int) + x ≤ 300)) (hx : rg x) : ROi g l yX9_write cX9_write 4 (some .int) 3 [(x0, .inr (7, [.ref t, .ref rd0, .ref q, .ref us, .ref ks, .ref rc0, .ref se, .ref v, .ref vd])), (t, .inr (5, [.ref t0, nV Lt]))] [.ref x0, zV x, .long vv] (fun r => r = iI (if 1 ≤ x ∧ x ≤ 8 then -3 else -1)) := by
  refine ro_startI (by decide +kernel) (Nat.le_of_ble_eq_true rfl) ?_
  intro p e s m args below meth c Q ls C hK hP ret hl
  have C : CT p s m args meth c cX9_write RX9 4 := C
  have hl : lv_has ls 4 [(0, .ref x0), (1, zV x), (2, .long vv)] := hl
  refine lv_iload_n C.1 C.2.1 dX9_write_0 rfl (lv_at hl 1 rfl) ?_
  refine r_iconst 1 C dX9_write_1 rfl ?_
  refine r_bipush 8 C dX9_write_2 (by decide) ?_
  refine ro_callS (As := [zV x, nV 1, nV 8]) (rest := []) C hK (c_X9_within l g x ((1 : Nat) : Int) ((8 : Nat) : Int) (by first | assumption | exact ⟨by omega, by omega⟩) (by first | assumption | exact ⟨by omega, by omega⟩) (by first | assumption | exact ⟨by omega, by omega⟩)) (hP.sub (ws' := []) [] rfl) kc_X9_within kl_X9_72 kn_X9 ks_X9_within nk_X9_within (rm_lt (by decide) (by decide)) hl rfl (Nat.le_of_ble_eq_true rfl) dX9_write_4 (fun r_1 hr_2 => ?_)
  subst hr_2
  refine r_bne 12 C dX9_write_7 rfl (fun h_3 => ?_) (fun h_3 => ?_)
  · skip
    obtain ⟨xn, rfl⟩ : ∃ n : Nat, x = (n : Int) := ⟨x.toNat, by omega⟩
    have hl : lv_has ls 4 [(0, .ref x0), (1, nV xn), (2, .long vv)] := hl
    refine lv_aload_n C.1 C.2.1 dX9_write_12 rfl (lv_at hl 0 rfl) ?_
    refine r_get C hK hP kw_X9 (ci := 7) rfl 0 0 (by decide) kf_X9_10 rfl rfl dX9_write_13 ?_
    refine lv_iload_n C.1 C.2.1 dX9_write_16 rfl (lv_at hl 1 rfl) ?_
    refine ro_callV (As := [nV xn]) (rest := []) C hK (c_X7_hasRoom l g t t0 Lt xn (by first | assumption | omega) (by first | assumption | omega)) (hP.sub (ws' := [(t, .inr (5, [.ref t0, nV Lt]))]) [1] rfl) (ci := 5) (q0 := 0) rfl rfl kc_X7_hasRoom kl_X9_76 kn_X7 ki_X7_hasRoom ke_X7_hasRoom nk_X7_hasRoom (rm_lt (by decide) (by decide)) hl rfl (Nat.le_of_ble_eq_true rfl) dX9_write_17 (fun r_4 hr_5 => ?_)
    subst hr_5
    refine r_bne 26 C dX9_write_20 rfl (fun h_6 => ?_) (fun h_6 => ?_)
    · exact absurd h_6 (by omega)
    refine r_bipushZ C dX9_write_23 (by decide) ?_
    exact ret dX9_write_25 (by rw [if_pos (by omega)])
  refine r_iconstZ C dX9_write_10 ?_
  exact ret dX9_write_11 (by rw [if_neg (by omega)])
set_option maxHeartbeats 4000000 in
set_option maxRecDepth 100000 in
theorem c_X9_wipe (l : Launch) (g : GG) (x0 : Nat) (t : Nat) (rd0 : Nat) (q : Nat) (us : Nat) (ks : Nat) (rc0 : Nat) (se : Nat) (v : Nat) (vd : Nat) (t0 : Nat) (Lt : Nat)  : WRi g l yX9_wipe cX9_wipe 2 (some .int) 3 [(x0, .inr (7, [.ref t, .ref rd0, .ref q, .ref us, .ref ks, .ref rc0, .ref se, .ref v, .ref vd])), (t, .inr (5, [.ref t0, nV Lt]))] [.ref x0] (fun r (_ : Unit) => r = iI ((Lt : Nat) : Int)) (fun (_ : Unit) => [(x0, .inr (7, [.ref t, .ref rd0, .ref q, .ref us, .ref ks, .ref rc0, .ref se, .ref v, .ref vd])), (t, .inr (5, [.ref t0, nV 0]))]) := by
  refine wr_startI (by decide +kernel) (Nat.le_of_ble_eq_true rfl) ?_
  intro p e s m args below meth c Q A ls C hK hA ret hP hD hS hl
  have C : CT p s m args meth c cX9_wipe RX9 2 := C
  have hl : lv_has ls 2 [(0, .ref x0)] := hl
  refine lv_aload_n C.1 C.2.1 dX9_wipe_0 rfl (lv_at hl 0 rfl) ?_
  refine r_get C hK hP kw_X9 (ci := 7) rfl 0 0 (by decide) kf_X9_10 rfl rfl dX9_wipe_1 ?_
  refine ro_callV (As := []) (rest := []) C hK (c_X7_length l g t t0 Lt) (hP.sub (ws' := [(t, .inr (5, [.ref t0, nV Lt]))]) [1] rfl) (ci := 5) (q0 := 0) rfl rfl kc_X7_length kl_X9_84 kn_X7 ki_X7_length ke_X7_length nk_X7_length (rm_lt (by decide) (by decide)) hl rfl (Nat.le_of_ble_eq_true rfl) dX9_wipe_4 (fun r_1 hr_2 => ?_)
  subst hr_2
  refine lv_istore_n (lv' := [(1, nV Lt), (0, .ref x0)]) C.1 C.2.1 dX9_wipe_7 rfl hl (by decide) rfl (fun ls hl => ?_)
  refine lv_aload_n C.1 C.2.1 dX9_wipe_8 rfl (lv_at hl 1 rfl) ?_
  refine r_get C hK hP kw_X9 (ci := 7) rfl 0 0 (by decide) kf_X9_10 rfl rfl dX9_wipe_9 ?_
  refine wr_callVV (As := []) (rest := []) C hK (c_X7_clear l g t t0 Lt) [1] rfl (fun _ => rfl) (by decide) hP hD hS hA (ci := 5) (q0 := 0) rfl rfl kc_X7_clear kl_X9_88 kn_X7 ki_X7_clear ke_X7_clear nk_X7_clear (rm_lt (by decide) (by decide)) hl rfl (Nat.le_of_ble_eq_true rfl) dX9_wipe_12 (fun u_5 H locs hr_4 hP hD hS => ?_)
  have hP : va_P g.1 vwCl [(x0, .inr (7, [.ref t, .ref rd0, .ref q, .ref us, .ref ks, .ref rc0, .ref se, .ref v, .ref vd])), (t, .inr (5, [.ref t0, nV 0]))] H := hP
  have hD : va_D A [(x0, .inr (7, [.ref t, .ref rd0, .ref q, .ref us, .ref ks, .ref rc0, .ref se, .ref v, .ref vd])), (t, .inr (5, [.ref t0, nV 0]))] := hD
  refine lv_iload_n C.1 C.2.1 dX9_wipe_15 rfl (lv_at hl 0 rfl) ?_
  exact ret (()) dX9_wipe_16 hS hP (by first | rfl | exact iI_cast (by omega) | exact congrArg lI (by omega) | omega)
set_option maxHeartbeats 4000000 in
set_option maxRecDepth 100000 in
theorem c_X9_fault (l : Launch) (g : GG) (x0 : Nat) (t : Nat) (rd0 : Nat) (q : Nat) (us : Nat) (ks : Nat) (rc0 : Nat) (se : Nat) (v : Nat) (vd : Nat) (rd1 : Nat) (pl : Nat) (nu : Nat → Nat) (t0 : Nat) (u : Nat → Nat) (Lt : Nat) (d0 : Nat) (d1 : Nat) (d2 : Nat) (d3 : Nat) (d4 : Nat) (dsg : Nat → Nat) (dwo : Nat → Nat) (dhu : Nat → Nat) (dmi : Nat → Nat) (dkn : Nat → Nat) (dk : Nat) (dnc : Nat) (dnb : Nat) (dbi : Nat) (dmo : Nat) (hux : ∀ j, u j < 256) (hLt : Lt ≤ 300) (hsg : ∀ j, dsg j < 72) (hwo : ∀ j, dwo j < 100) (hhu : ∀ j, dhu j < 10) (hmi : ∀ j, dmi j ≤ 6) (hkn : ∀ j, dkn j < 64) : WRi g l yX9_fault cX9_fault 1 (some .int) 7 [(x0, .inr (7, [.ref t, .ref rd0, .ref q, .ref us, .ref ks, .ref rc0, .ref se, .ref v, .ref vd])), (rd0, .inr (3, [.ref rd1, nV pl])), (rd1, cN g 4 nu), (t, .inr (5, [.ref t0, nV Lt])), (t0, cB g 300 u), (vd, .inr (6, [.ref d0, .ref d1, .ref d2, .ref d3, .ref d4, nV dk, nV dnc, nV dnb, nV dbi, nV dmo])), (d0, cN g 8 dsg), (d1, cN g 8 dwo), (d2, cN g 5 dhu), (d3, cN g 5 dmi), (d4, cN g 5 dkn)] [.ref x0] (fun r (uq_ : Nat × (Nat → Nat)) => match uq_ with | (pl1, nu1) => r = iI ((prs u Lt 300 0 (dsg, dwo, dhu, dmi, dkn, 0, 0, 0, 2, 3)).1)) (fun (uq_ : Nat × (Nat → Nat)) => match uq_ with | (pl1, nu1) => [(x0, .inr (7, [.ref t, .ref rd0, .ref q, .ref us, .ref ks, .ref rc0, .ref se, .ref v, .ref vd])), (rd0, .inr (3, [.ref rd1, nV pl1])), (rd1, cN g 4 nu1), (t, .inr (5, [.ref t0, nV Lt])), (t0, cB g 300 u), (vd, .inr (6, [.ref d0, .ref d1, .ref d2, .ref d3, .ref d4, nV (vk ((prs u Lt 300 0 (dsg, dwo, dhu, dmi, dkn, 0, 0, 0, 2, 3)).2)), nV (vnc ((prs u Lt 300 0 (dsg, dwo, dhu, dmi, dkn, 0, 0, 0, 2, 3)).2)), nV (vnb ((prs u Lt 300 0 (dsg, dwo, dhu, dmi, dkn, 0, 0, 0, 2, 3)).2)), nV (vbi ((prs u Lt 300 0 (dsg, dwo, dhu, dmi, dkn, 0, 0, 0, 2, 3)).2)), nV (vmo ((prs u Lt 300 0 (dsg, dwo, dhu, dmi, dkn, 0, 0, 0, 2, 3)).2))])), (d0, cN g 8 (vsg ((prs u Lt 300 0 (dsg, dwo, dhu, dmi, dkn, 0, 0, 0, 2, 3)).2))), (d1, cN g 8 (vwo ((prs u Lt 300 0 (dsg, dwo, dhu, dmi, dkn, 0, 0, 0, 2, 3)).2))), (d2, cN g 5 (vhu ((prs u Lt 300 0 (dsg, dwo, dhu, dmi, dkn, 0, 0, 0, 2, 3)).2))), (d3, cN g 5 (vmi ((prs u Lt 300 0 (dsg, dwo, dhu, dmi, dkn, 0, 0, 0, 2, 3)).2))), (d4, cN g 5 (vkn ((prs u Lt 300 0 (dsg, dwo, dhu, dmi, dkn, 0, 0, 0, 2, 3)).2)))]) := by
  refine wr_startI (by decide +kernel) (Nat.le_of_ble_eq_true rfl) ?_
  intro p e s m args below meth c Q A ls C hK hA ret hP hD hS hl
  have C : CT p s m args meth c cX9_fault RX9 1 := C
  have hl : lv_has ls 1 [(0, .ref x0)] := hl
  refine lv_aload_n C.1 C.2.1 dX9_fault_0 rfl (lv_at hl 0 rfl) ?_
  refine r_get C hK hP kw_X9 (ci := 7) rfl 0 1 (by decide) kf_X9_19 rfl rfl dX9_fault_1 ?_
  refine lv_aload_n C.1 C.2.1 dX9_fault_4 rfl (lv_at hl 0 rfl) ?_
  refine r_get C hK hP kw_X9 (ci := 7) rfl 0 0 (by decide) kf_X9_10 rfl rfl dX9_fault_5 ?_
  refine lv_aload_n C.1 C.2.1 dX9_fault_8 rfl (lv_at hl 0 rfl) ?_
  refine r_get C hK hP kw_X9 (ci := 7) rfl 0 8 (by decide) kf_X9_65 rfl rfl dX9_fault_9 ?_
  refine wr_callV (As := [.ref t, .ref vd]) (rest := []) C hK (c_X4_firstFault l g rd0 rd1 pl nu t t0 u Lt vd d0 d1 d2 d3 d4 dsg dwo dhu dmi dkn dk dnc dnb dbi dmo (by first | assumption | omega) (by first | assumption | omega) (by first | assumption | omega) (by first | assumption | omega) (by first | assumption | omega) (by first | assumption | omega) (by first | assumption | omega)) [1, 2, 3, 4, 5, 6, 7, 8, 9, 10] rfl (fun _ => rfl) (by decide) hP hD hS hA (ci := 3) (q0 := 0) rfl rfl kc_X4_firstFault kl_X9_91 kn_X4 ki_X4_firstFault ke_X4_firstFault nk_X4_firstFault (rm_lt (by decide) (by decide)) hl rfl (Nat.le_of_ble_eq_true rfl) dX9_fault_12 (fun r_1 u_3 H locs hr_2 hP hD hS => ?_)
  obtain ⟨pl1_a, nu1_a⟩ := u_3
  have hP : va_P g.1 vwCl [(x0, .inr (7, [.ref t, .ref rd0, .ref q, .ref us, .ref ks, .ref rc0, .ref se, .ref v, .ref vd])), (rd0, .inr (3, [.ref rd1, nV pl1_a])), (rd1, cN g 4 nu1_a), (t, .inr (5, [.ref t0, nV Lt])), (t0, cB g 300 u), (vd, .inr (6, [.ref d0, .ref d1, .ref d2, .ref d3, .ref d4, nV (vk ((prs u Lt 300 0 (dsg, dwo, dhu, dmi, dkn, 0, 0, 0, 2, 3)).2)), nV (vnc ((prs u Lt 300 0 (dsg, dwo, dhu, dmi, dkn, 0, 0, 0, 2, 3)).2)), nV (vnb ((prs u Lt 300 0 (dsg, dwo, dhu, dmi, dkn, 0, 0, 0, 2, 3)).2)), nV (vbi ((prs u Lt 300 0 (dsg, dwo, dhu, dmi, dkn, 0, 0, 0, 2, 3)).2)), nV (vmo ((prs u Lt 300 0 (dsg, dwo, dhu, dmi, dkn, 0, 0, 0, 2, 3)).2))])), (d0, cN g 8 (vsg ((prs u Lt 300 0 (dsg, dwo, dhu, dmi, dkn, 0, 0, 0, 2, 3)).2))), (d1, cN g 8 (vwo ((prs u Lt 300 0 (dsg, dwo, dhu, dmi, dkn, 0, 0, 0, 2, 3)).2))), (d2, cN g 5 (vhu ((prs u Lt 300 0 (dsg, dwo, dhu, dmi, dkn, 0, 0, 0, 2, 3)).2))), (d3, cN g 5 (vmi ((prs u Lt 300 0 (dsg, dwo, dhu, dmi, dkn, 0, 0, 0, 2, 3)).2))), (d4, cN g 5 (vkn ((prs u Lt 300 0 (dsg, dwo, dhu, dmi, dkn, 0, 0, 0, 2, 3)).2)))] H := hP
  have hD : va_D A [(x0, .inr (7, [.ref t, .ref rd0, .ref q, .ref us, .ref ks, .ref rc0, .ref se, .ref v, .ref vd])), (rd0, .inr (3, [.ref rd1, nV pl1_a])), (rd1, cN g 4 nu1_a), (t, .inr (5, [.ref t0, nV Lt])), (t0, cB g 300 u), (vd, .inr (6, [.ref d0, .ref d1, .ref d2, .ref d3, .ref d4, nV (vk ((prs u Lt 300 0 (dsg, dwo, dhu, dmi, dkn, 0, 0, 0, 2, 3)).2)), nV (vnc ((prs u Lt 300 0 (dsg, dwo, dhu, dmi, dkn, 0, 0, 0, 2, 3)).2)), nV (vnb ((prs u Lt 300 0 (dsg, dwo, dhu, dmi, dkn, 0, 0, 0, 2, 3)).2)), nV (vbi ((prs u Lt 300 0 (dsg, dwo, dhu, dmi, dkn, 0, 0, 0, 2, 3)).2)), nV (vmo ((prs u Lt 300 0 (dsg, dwo, dhu, dmi, dkn, 0, 0, 0, 2, 3)).2))])), (d0, cN g 8 (vsg ((prs u Lt 300 0 (dsg, dwo, dhu, dmi, dkn, 0, 0, 0, 2, 3)).2))), (d1, cN g 8 (vwo ((prs u Lt 300 0 (dsg, dwo, dhu, dmi, dkn, 0, 0, 0, 2, 3)).2))), (d2, cN g 5 (vhu ((prs u Lt 300 0 (dsg, dwo, dhu, dmi, dkn, 0, 0, 0, 2, 3)).2))), (d3, cN g 5 (vmi ((prs u Lt 300 0 (dsg, dwo, dhu, dmi, dkn, 0, 0, 0, 2, 3)).2))), (d4, cN g 5 (vkn ((prs u Lt 300 0 (dsg, dwo, dhu, dmi, dkn, 0, 0, 0, 2, 3)).2)))] := hD
  try dsimp only at hr_2
  subst hr_2
  exact ret ((pl1_a, nu1_a)) dX9_fault_15 hS hP (by first | rfl | exact iI_cast (by omega) | exact congrArg lI (by omega) | omega)
set_option maxHeartbeats 4000000 in
set_option maxRecDepth 100000 in
theorem c_X9_lay_no (l : Launch) (g : GG) (x0 : Nat) (t : Nat) (rd0 : Nat) (q : Nat) (us : Nat) (ks : Nat) (rc0 : Nat) (se : Nat) (v : Nat) (vd : Nat) (rd1 : Nat) (pl : Nat) (nu : Nat → Nat) (t0 : Nat) (u : Nat → Nat) (Lt : Nat) (d0 : Nat) (d1 : Nat) (d2 : Nat) (d3 : Nat) (d4 : Nat) (dsg : Nat → Nat) (dwo : Nat → Nat) (dhu : Nat → Nat) (dmi : Nat → Nat) (dkn : Nat → Nat) (dk : Nat) (dnc : Nat) (dnb : Nat) (dbi : Nat) (dmo : Nat) (hux : ∀ j, u j < 256) (hLt : Lt ≤ 300) (hsg : ∀ j, dsg j < 72) (hwo : ∀ j, dwo j < 100) (hhu : ∀ j, dhu j < 10) (hmi : ∀ j, dmi j ≤ 6) (hkn : ∀ j, dkn j < 64) (hno : ¬ vOk (prs u Lt 300 0 (dsg, dwo, dhu, dmi, dkn, 0, 0, 0, 2, 3))) : WRi g l yX9_lay cX9_lay 2 (some .int) 7 [(x0, .inr (7, [.ref t, .ref rd0, .ref q, .ref us, .ref ks, .ref rc0, .ref se, .ref v, .ref vd])), (rd0, .inr (3, [.ref rd1, nV pl])), (rd1, cN g 4 nu), (t, .inr (5, [.ref t0, nV Lt])), (t0, cB g 300 u), (vd, .inr (6, [.ref d0, .ref d1, .ref d2, .ref d3, .ref d4, nV dk, nV dnc, nV dnb, nV dbi, nV dmo])), (d0, cN g 8 dsg), (d1, cN g 8 dwo), (d2, cN g 5 dhu), (d3, cN g 5 dmi), (d4, cN g 5 dkn)] [.ref x0] (fun r (uq_ : Nat × (Nat → Nat)) => match uq_ with | (pl1, nu1) => r = iI (-2)) (fun (uq_ : Nat × (Nat → Nat)) => match uq_ with | (pl1, nu1) => [(x0, .inr (7, [.ref t, .ref rd0, .ref q, .ref us, .ref ks, .ref rc0, .ref se, .ref v, .ref vd])), (rd0, .inr (3, [.ref rd1, nV pl1])), (rd1, cN g 4 nu1), (t, .inr (5, [.ref t0, nV Lt])), (t0, cB g 300 u), (vd, .inr (6, [.ref d0, .ref d1, .ref d2, .ref d3, .ref d4, nV (vk ((prs u Lt 300 0 (dsg, dwo, dhu, dmi, dkn, 0, 0, 0, 2, 3)).2)), nV (vnc ((prs u Lt 300 0 (dsg, dwo, dhu, dmi, dkn, 0, 0, 0, 2, 3)).2)), nV (vnb ((prs u Lt 300 0 (dsg, dwo, dhu, dmi, dkn, 0, 0, 0, 2, 3)).2)), nV (vbi ((prs u Lt 300 0 (dsg, dwo, dhu, dmi, dkn, 0, 0, 0, 2, 3)).2)), nV (vmo ((prs u Lt 300 0 (dsg, dwo, dhu, dmi, dkn, 0, 0, 0, 2, 3)).2))])), (d0, cN g 8 (vsg ((prs u Lt 300 0 (dsg, dwo, dhu, dmi, dkn, 0, 0, 0, 2, 3)).2))), (d1, cN g 8 (vwo ((prs u Lt 300 0 (dsg, dwo, dhu, dmi, dkn, 0, 0, 0, 2, 3)).2))), (d2, cN g 5 (vhu ((prs u Lt 300 0 (dsg, dwo, dhu, dmi, dkn, 0, 0, 0, 2, 3)).2))), (d3, cN g 5 (vmi ((prs u Lt 300 0 (dsg, dwo, dhu, dmi, dkn, 0, 0, 0, 2, 3)).2))), (d4, cN g 5 (vkn ((prs u Lt 300 0 (dsg, dwo, dhu, dmi, dkn, 0, 0, 0, 2, 3)).2)))]) := by
  refine wr_startI (by decide +kernel) (Nat.le_of_ble_eq_true rfl) ?_
  intro p e s m args below meth c Q A ls C hK hA ret hP hD hS hl
  have C : CT p s m args meth c cX9_lay RX9 2 := C
  have hl : lv_has ls 2 [(0, .ref x0)] := hl
  refine lv_aload_n C.1 C.2.1 dX9_lay_0 rfl (lv_at hl 0 rfl) ?_
  refine r_get C hK hP kw_X9 (ci := 7) rfl 0 1 (by decide) kf_X9_19 rfl rfl dX9_lay_1 ?_
  refine lv_aload_n C.1 C.2.1 dX9_lay_4 rfl (lv_at hl 0 rfl) ?_
  refine r_get C hK hP kw_X9 (ci := 7) rfl 0 0 (by decide) kf_X9_10 rfl rfl dX9_lay_5 ?_
  refine lv_aload_n C.1 C.2.1 dX9_lay_8 rfl (lv_at hl 0 rfl) ?_
  refine r_get C hK hP kw_X9 (ci := 7) rfl 0 8 (by decide) kf_X9_65 rfl rfl dX9_lay_9 ?_
  refine wr_callV (As := [.ref t, .ref vd]) (rest := []) C hK (c_X4_firstFault l g rd0 rd1 pl nu t t0 u Lt vd d0 d1 d2 d3 d4 dsg dwo dhu dmi dkn dk dnc dnb dbi dmo (by first | assumption | omega) (by first | assumption | omega) (by first | assumption | omega) (by first | assumption | omega) (by first | assumption | omega) (by first | assumption | omega) (by first | assumption | omega)) [1, 2, 3, 4, 5, 6, 7, 8, 9, 10] rfl (fun _ => rfl) (by decide) hP hD hS hA (ci := 3) (q0 := 0) rfl rfl kc_X4_firstFault kl_X9_91 kn_X4 ki_X4_firstFault ke_X4_firstFault nk_X4_firstFault (rm_lt (by decide) (by decide)) hl rfl (Nat.le_of_ble_eq_true rfl) dX9_lay_12 (fun r_1 u_3 H locs hr_2 hP hD hS => ?_)
  obtain ⟨pl1_a, nu1_a⟩ := u_3
  have hP : va_P g.1 vwCl [(x0, .inr (7, [.ref t, .ref rd0, .ref q, .ref us, .ref ks, .ref rc0, .ref se, .ref v, .ref vd])), (rd0, .inr (3, [.ref rd1, nV pl1_a])), (rd1, cN g 4 nu1_a), (t, .inr (5, [.ref t0, nV Lt])), (t0, cB g 300 u), (vd, .inr (6, [.ref d0, .ref d1, .ref d2, .ref d3, .ref d4, nV (vk ((prs u Lt 300 0 (dsg, dwo, dhu, dmi, dkn, 0, 0, 0, 2, 3)).2)), nV (vnc ((prs u Lt 300 0 (dsg, dwo, dhu, dmi, dkn, 0, 0, 0, 2, 3)).2)), nV (vnb ((prs u Lt 300 0 (dsg, dwo, dhu, dmi, dkn, 0, 0, 0, 2, 3)).2)), nV (vbi ((prs u Lt 300 0 (dsg, dwo, dhu, dmi, dkn, 0, 0, 0, 2, 3)).2)), nV (vmo ((prs u Lt 300 0 (dsg, dwo, dhu, dmi, dkn, 0, 0, 0, 2, 3)).2))])), (d0, cN g 8 (vsg ((prs u Lt 300 0 (dsg, dwo, dhu, dmi, dkn, 0, 0, 0, 2, 3)).2))), (d1, cN g 8 (vwo ((prs u Lt 300 0 (dsg, dwo, dhu, dmi, dkn, 0, 0, 0, 2, 3)).2))), (d2, cN g 5 (vhu ((prs u Lt 300 0 (dsg, dwo, dhu, dmi, dkn, 0, 0, 0, 2, 3)).2))), (d3, cN g 5 (vmi ((prs u Lt 300 0 (dsg, dwo, dhu, dmi, dkn, 0, 0, 0, 2, 3)).2))), (d4, cN g 5 (vkn ((prs u Lt 300 0 (dsg, dwo, dhu, dmi, dkn, 0, 0, 0, 2, 3)).2)))] H := hP
  have hD : va_D A [(x0, .inr (7, [.ref t, .ref rd0, .ref q, .ref us, .ref ks, .ref rc0, .ref se, .ref v, .ref vd])), (rd0, .inr (3, [.ref rd1, nV pl1_a])), (rd1, cN g 4 nu1_a), (t, .inr (5, [.ref t0, nV Lt])), (t0, cB g 300 u), (vd, .inr (6, [.ref d0, .ref d1, .ref d2, .ref d3, .ref d4, nV (vk ((prs u Lt 300 0 (dsg, dwo, dhu, dmi, dkn, 0, 0, 0, 2, 3)).2)), nV (vnc ((prs u Lt 300 0 (dsg, dwo, dhu, dmi, dkn, 0, 0, 0, 2, 3)).2)), nV (vnb ((prs u Lt 300 0 (dsg, dwo, dhu, dmi, dkn, 0, 0, 0, 2, 3)).2)), nV (vbi ((prs u Lt 300 0 (dsg, dwo, dhu, dmi, dkn, 0, 0, 0, 2, 3)).2)), nV (vmo ((prs u Lt 300 0 (dsg, dwo, dhu, dmi, dkn, 0, 0, 0, 2, 3)).2))])), (d0, cN g 8 (vsg ((prs u Lt 300 0 (dsg, dwo, dhu, dmi, dkn, 0, 0, 0, 2, 3)).2))), (d1, cN g 8 (vwo ((prs u Lt 300 0 (dsg, dwo, dhu, dmi, dkn, 0, 0, 0, 2, 3)).2))), (d2, cN g 5 (vhu ((prs u Lt 300 0 (dsg, dwo, dhu, dmi, dkn, 0, 0, 0, 2, 3)).2))), (d3, cN g 5 (vmi ((prs u Lt 300 0 (dsg, dwo, dhu, dmi, dkn, 0, 0, 0, 2, 3)).2))), (d4, cN g 5 (vkn ((prs u Lt 300 0 (dsg, dwo, dhu, dmi, dkn, 0, 0, 0, 2, 3)).2)))] := hD
  try dsimp only at hr_2
  subst hr_2
  have hpb := prs_bd (u := u) (L := Lt) (v := (dsg, dwo, dhu, dmi, dkn, 0, 0, 0, 2, 3)) (f := 300) (p := 0) hLt (by omega)
  have hpv := VOK_prs (u := u) (L := Lt) (f := 300) (p := 0) (VOK_0 hsg hwo hhu hmi hkn)
  have hpk := hpv.2.2.2.2.2.1
  refine r_bipushZ C dX9_lay_15 (by decide) ?_
  refine r_cne 30 C dX9_lay_17 rfl ⟨⟨by omega, by omega⟩, (by decide)⟩ (fun g1 => ?_) (fun g1 => ?_)
  · skip
    refine r_bipushZ C dX9_lay_30 (by decide) ?_
    exact ret ((pl1_a, nu1_a)) dX9_lay_32 hS hP (by first | rfl | exact iI_cast (by omega) | exact congrArg lI (by omega) | omega)
  refine lv_aload_n C.1 C.2.1 dX9_lay_20 rfl (lv_at hl 0 rfl) ?_
  refine r_get C hK hP kw_X9 (ci := 7) rfl 0 8 (by decide) kf_X9_65 rfl rfl dX9_lay_21 ?_
  refine ro_callV (As := []) (rest := []) C hK (c_X8_words l g vd d0 d1 d2 d3 d4 (vk ((prs u Lt 300 0 (dsg, dwo, dhu, dmi, dkn, 0, 0, 0, 2, 3)).2)) (vnc ((prs u Lt 300 0 (dsg, dwo, dhu, dmi, dkn, 0, 0, 0, 2, 3)).2)) (vnb ((prs u Lt 300 0 (dsg, dwo, dhu, dmi, dkn, 0, 0, 0, 2, 3)).2)) (vbi ((prs u Lt 300 0 (dsg, dwo, dhu, dmi, dkn, 0, 0, 0, 2, 3)).2)) (vmo ((prs u Lt 300 0 (dsg, dwo, dhu, dmi, dkn, 0, 0, 0, 2, 3)).2))) (hP.sub (ws' := [(vd, .inr (6, [.ref d0, .ref d1, .ref d2, .ref d3, .ref d4, nV (vk ((prs u Lt 300 0 (dsg, dwo, dhu, dmi, dkn, 0, 0, 0, 2, 3)).2)), nV (vnc ((prs u Lt 300 0 (dsg, dwo, dhu, dmi, dkn, 0, 0, 0, 2, 3)).2)), nV (vnb ((prs u Lt 300 0 (dsg, dwo, dhu, dmi, dkn, 0, 0, 0, 2, 3)).2)), nV (vbi ((prs u Lt 300 0 (dsg, dwo, dhu, dmi, dkn, 0, 0, 0, 2, 3)).2)), nV (vmo ((prs u Lt 300 0 (dsg, dwo, dhu, dmi, dkn, 0, 0, 0, 2, 3)).2))]))]) [5] rfl) (ci := 6) (q0 := 0) rfl rfl kc_X8_words kl_X9_95 kn_X8 ki_X8_words ke_X8_words nk_X8_words (rm_lt (by decide) (by decide)) hl rfl (Nat.le_of_ble_eq_true rfl) dX9_lay_24 (fun r_4 hr_5 => ?_)
  subst hr_5
  refine r_ine 33 C dX9_lay_27 rfl (rgN (by omega)) (fun h_6 => ?_) (fun h_6 => ?_)
  · exact absurd h_6 (by intro q; exact hno ⟨by omega, by omega⟩)
  refine r_bipushZ C dX9_lay_30 (by decide) ?_
  exact ret ((pl1_a, nu1_a)) dX9_lay_32 hS hP (by first | rfl | exact iI_cast (by omega) | exact congrArg lI (by omega) | omega)
set_option maxHeartbeats 4000000 in
set_option maxRecDepth 100000 in
theorem c_X9_lay_ok (l : Launch) (g : GG) (x0 : Nat) (t : Nat) (rd0 : Nat) (q : Nat) (us : Nat) (ks : Nat) (rc0 : Nat) (se : Nat) (v : Nat) (vd : Nat) (rd1 : Nat) (pl : Nat) (nu : Nat → Nat) (t0 : Nat) (u : Nat → Nat) (Lt : Nat) (d0 : Nat) (d1 : Nat) (d2 : Nat) (d3 : Nat) (d4 : Nat) (dsg : Nat → Nat) (dwo : Nat → Nat) (dhu : Nat → Nat) (dmi : Nat → Nat) (dkn : Nat → Nat) (dk : Nat) (dnc : Nat) (dnb : Nat) (dbi : Nat) (dmo : Nat) (q0 : Nat) (ce : Nat → Nat) (ur0 : Nat) (uz : Nat) (kr0 : Nat) (kz : Nat) (hux : ∀ j, u j < 256) (hLt : Lt ≤ 300) (hsg : ∀ j, dsg j < 72) (hwo : ∀ j, dwo j < 100) (hhu : ∀ j, dhu j < 10) (hmi : ∀ j, dmi j ≤ 6) (hkn : ∀ j, dkn j < 64) (hok : vOk (prs u Lt 300 0 (dsg, dwo, dhu, dmi, dkn, 0, 0, 0, 2, 3))) : WRi g l yX9_lay cX9_lay 2 (some .int) 7 [(x0, .inr (7, [.ref t, .ref rd0, .ref q, .ref us, .ref ks, .ref rc0, .ref se, .ref v, .ref vd])), (rd0, .inr (3, [.ref rd1, nV pl])), (rd1, cN g 4 nu), (t, .inr (5, [.ref t0, nV Lt])), (t0, cB g 300 u), (vd, .inr (6, [.ref d0, .ref d1, .ref d2, .ref d3, .ref d4, nV dk, nV dnc, nV dnb, nV dbi, nV dmo])), (d0, cN g 8 dsg), (d1, cN g 8 dwo), (d2, cN g 5 dhu), (d3, cN g 5 dmi), (d4, cN g 5 dkn), (q, .inr (1, [.ref q0])), (q0, cN g 42 ce), (us, .inr (4, [nV 8, .ref ur0, nV uz])), (ks, .inr (4, [nV 2, .ref kr0, nV kz]))] [.ref x0] (fun r (uq_ : Nat × (Nat → Nat)) => match uq_ with | (pl1, nu1) => r = iI ((vk (prs u Lt 300 0 (dsg, dwo, dhu, dmi, dkn, 0, 0, 0, 2, 3)).2 : Nat) : Int)) (fun (uq_ : Nat × (Nat → Nat)) => match uq_ with | (pl1, nu1) => [(x0, .inr (7, [.ref t, .ref rd0, .ref q, .ref us, .ref ks, .ref rc0, .ref se, .ref vd, .ref v])), (rd0, .inr (3, [.ref rd1, nV pl1])), (rd1, cN g 4 nu1), (t, .inr (5, [.ref t0, nV Lt])), (t0, cB g 300 u), (vd, .inr (6, [.ref d0, .ref d1, .ref d2, .ref d3, .ref d4, nV (vk ((prs u Lt 300 0 (dsg, dwo, dhu, dmi, dkn, 0, 0, 0, 2, 3)).2)), nV (vnc ((prs u Lt 300 0 (dsg, dwo, dhu, dmi, dkn, 0, 0, 0, 2, 3)).2)), nV (vnb ((prs u Lt 300 0 (dsg, dwo, dhu, dmi, dkn, 0, 0, 0, 2, 3)).2)), nV (vbi ((prs u Lt 300 0 (dsg, dwo, dhu, dmi, dkn, 0, 0, 0, 2, 3)).2)), nV (vmo ((prs u Lt 300 0 (dsg, dwo, dhu, dmi, dkn, 0, 0, 0, 2, 3)).2))])), (d0, cN g 8 (vsg ((prs u Lt 300 0 (dsg, dwo, dhu, dmi, dkn, 0, 0, 0, 2, 3)).2))), (d1, cN g 8 (vwo ((prs u Lt 300 0 (dsg, dwo, dhu, dmi, dkn, 0, 0, 0, 2, 3)).2))), (d2, cN g 5 (vhu ((prs u Lt 300 0 (dsg, dwo, dhu, dmi, dkn, 0, 0, 0, 2, 3)).2))), (d3, cN g 5 (vmi ((prs u Lt 300 0 (dsg, dwo, dhu, dmi, dkn, 0, 0, 0, 2, 3)).2))), (d4, cN g 5 (vkn ((prs u Lt 300 0 (dsg, dwo, dhu, dmi, dkn, 0, 0, 0, 2, 3)).2))), (q, .inr (1, [.ref q0])), (q0, cN g 42 (upN (upN ce 40 0) 41 0)), (us, .inr (4, [nV 8, .ref ur0, nV 0])), (ks, .inr (4, [nV 2, .ref kr0, nV 0]))]) := by
  refine wr_startI (by decide +kernel) (Nat.le_of_ble_eq_true rfl) ?_
  intro p e s m args below meth c Q A ls C hK hA ret hP hD hS hl
  have C : CT p s m args meth c cX9_lay RX9 2 := C
  have hl : lv_has ls 2 [(0, .ref x0)] := hl
  refine lv_aload_n C.1 C.2.1 dX9_lay_0 rfl (lv_at hl 0 rfl) ?_
  refine r_get C hK hP kw_X9 (ci := 7) rfl 0 1 (by decide) kf_X9_19 rfl rfl dX9_lay_1 ?_
  refine lv_aload_n C.1 C.2.1 dX9_lay_4 rfl (lv_at hl 0 rfl) ?_
  refine r_get C hK hP kw_X9 (ci := 7) rfl 0 0 (by decide) kf_X9_10 rfl rfl dX9_lay_5 ?_
  refine lv_aload_n C.1 C.2.1 dX9_lay_8 rfl (lv_at hl 0 rfl) ?_
  refine r_get C hK hP kw_X9 (ci := 7) rfl 0 8 (by decide) kf_X9_65 rfl rfl dX9_lay_9 ?_
  refine wr_callV (As := [.ref t, .ref vd]) (rest := []) C hK (c_X4_firstFault l g rd0 rd1 pl nu t t0 u Lt vd d0 d1 d2 d3 d4 dsg dwo dhu dmi dkn dk dnc dnb dbi dmo (by first | assumption | omega) (by first | assumption | omega) (by first | assumption | omega) (by first | assumption | omega) (by first | assumption | omega) (by first | assumption | omega) (by first | assumption | omega)) [1, 2, 3, 4, 5, 6, 7, 8, 9, 10] rfl (fun _ => rfl) (by decide) hP hD hS hA (ci := 3) (q0 := 0) rfl rfl kc_X4_firstFault kl_X9_91 kn_X4 ki_X4_firstFault ke_X4_firstFault nk_X4_firstFault (rm_lt (by decide) (by decide)) hl rfl (Nat.le_of_ble_eq_true rfl) dX9_lay_12 (fun r_1 u_3 H locs hr_2 hP hD hS => ?_)
  obtain ⟨pl1_a, nu1_a⟩ := u_3
  have hP : va_P g.1 vwCl [(x0, .inr (7, [.ref t, .ref rd0, .ref q, .ref us, .ref ks, .ref rc0, .ref se, .ref v, .ref vd])), (rd0, .inr (3, [.ref rd1, nV pl1_a])), (rd1, cN g 4 nu1_a), (t, .inr (5, [.ref t0, nV Lt])), (t0, cB g 300 u), (vd, .inr (6, [.ref d0, .ref d1, .ref d2, .ref d3, .ref d4, nV (vk ((prs u Lt 300 0 (dsg, dwo, dhu, dmi, dkn, 0, 0, 0, 2, 3)).2)), nV (vnc ((prs u Lt 300 0 (dsg, dwo, dhu, dmi, dkn, 0, 0, 0, 2, 3)).2)), nV (vnb ((prs u Lt 300 0 (dsg, dwo, dhu, dmi, dkn, 0, 0, 0, 2, 3)).2)), nV (vbi ((prs u Lt 300 0 (dsg, dwo, dhu, dmi, dkn, 0, 0, 0, 2, 3)).2)), nV (vmo ((prs u Lt 300 0 (dsg, dwo, dhu, dmi, dkn, 0, 0, 0, 2, 3)).2))])), (d0, cN g 8 (vsg ((prs u Lt 300 0 (dsg, dwo, dhu, dmi, dkn, 0, 0, 0, 2, 3)).2))), (d1, cN g 8 (vwo ((prs u Lt 300 0 (dsg, dwo, dhu, dmi, dkn, 0, 0, 0, 2, 3)).2))), (d2, cN g 5 (vhu ((prs u Lt 300 0 (dsg, dwo, dhu, dmi, dkn, 0, 0, 0, 2, 3)).2))), (d3, cN g 5 (vmi ((prs u Lt 300 0 (dsg, dwo, dhu, dmi, dkn, 0, 0, 0, 2, 3)).2))), (d4, cN g 5 (vkn ((prs u Lt 300 0 (dsg, dwo, dhu, dmi, dkn, 0, 0, 0, 2, 3)).2))), (q, .inr (1, [.ref q0])), (q0, cN g 42 ce), (us, .inr (4, [nV 8, .ref ur0, nV uz])), (ks, .inr (4, [nV 2, .ref kr0, nV kz]))] H := hP
  have hD : va_D A [(x0, .inr (7, [.ref t, .ref rd0, .ref q, .ref us, .ref ks, .ref rc0, .ref se, .ref v, .ref vd])), (rd0, .inr (3, [.ref rd1, nV pl1_a])), (rd1, cN g 4 nu1_a), (t, .inr (5, [.ref t0, nV Lt])), (t0, cB g 300 u), (vd, .inr (6, [.ref d0, .ref d1, .ref d2, .ref d3, .ref d4, nV (vk ((prs u Lt 300 0 (dsg, dwo, dhu, dmi, dkn, 0, 0, 0, 2, 3)).2)), nV (vnc ((prs u Lt 300 0 (dsg, dwo, dhu, dmi, dkn, 0, 0, 0, 2, 3)).2)), nV (vnb ((prs u Lt 300 0 (dsg, dwo, dhu, dmi, dkn, 0, 0, 0, 2, 3)).2)), nV (vbi ((prs u Lt 300 0 (dsg, dwo, dhu, dmi, dkn, 0, 0, 0, 2, 3)).2)), nV (vmo ((prs u Lt 300 0 (dsg, dwo, dhu, dmi, dkn, 0, 0, 0, 2, 3)).2))])), (d0, cN g 8 (vsg ((prs u Lt 300 0 (dsg, dwo, dhu, dmi, dkn, 0, 0, 0, 2, 3)).2))), (d1, cN g 8 (vwo ((prs u Lt 300 0 (dsg, dwo, dhu, dmi, dkn, 0, 0, 0, 2, 3)).2))), (d2, cN g 5 (vhu ((prs u Lt 300 0 (dsg, dwo, dhu, dmi, dkn, 0, 0, 0, 2, 3)).2))), (d3, cN g 5 (vmi ((prs u Lt 300 0 (dsg, dwo, dhu, dmi, dkn, 0, 0, 0, 2, 3)).2))), (d4, cN g 5 (vkn ((prs u Lt 300 0 (dsg, dwo, dhu, dmi, dkn, 0, 0, 0, 2, 3)).2))), (q, .inr (1, [.ref q0])), (q0, cN g 42 ce), (us, .inr (4, [nV 8, .ref ur0, nV uz])), (ks, .inr (4, [nV 2, .ref kr0, nV kz]))] := hD
  try dsimp only at hr_2
  subst hr_2
  have hpb := prs_bd (u := u) (L := Lt) (v := (dsg, dwo, dhu, dmi, dkn, 0, 0, 0, 2, 3)) (f := 300) (p := 0) hLt (by omega)
  have hpv := VOK_prs (u := u) (L := Lt) (f := 300) (p := 0) (VOK_0 hsg hwo hhu hmi hkn)
  have hpk := hpv.2.2.2.2.2.1
  refine r_bipushZ C dX9_lay_15 (by decide) ?_
  refine r_cne 30 C dX9_lay_17 rfl ⟨⟨by omega, by omega⟩, (by decide)⟩ (fun h_4 => ?_) (fun h_4 => ?_)
  · exact absurd h_4 (by have := hok.1; omega)
  refine lv_aload_n C.1 C.2.1 dX9_lay_20 rfl (lv_at hl 0 rfl) ?_
  refine r_get C hK hP kw_X9 (ci := 7) rfl 0 8 (by decide) kf_X9_65 rfl rfl dX9_lay_21 ?_
  refine ro_callV (As := []) (rest := []) C hK (c_X8_words l g vd d0 d1 d2 d3 d4 (vk ((prs u Lt 300 0 (dsg, dwo, dhu, dmi, dkn, 0, 0, 0, 2, 3)).2)) (vnc ((prs u Lt 300 0 (dsg, dwo, dhu, dmi, dkn, 0, 0, 0, 2, 3)).2)) (vnb ((prs u Lt 300 0 (dsg, dwo, dhu, dmi, dkn, 0, 0, 0, 2, 3)).2)) (vbi ((prs u Lt 300 0 (dsg, dwo, dhu, dmi, dkn, 0, 0, 0, 2, 3)).2)) (vmo ((prs u Lt 300 0 (dsg, dwo, dhu, dmi, dkn, 0, 0, 0, 2, 3)).2))) (hP.sub (ws' := [(vd, .inr (6, [.ref d0, .ref d1, .ref d2, .ref d3, .ref d4, nV (vk ((prs u Lt 300 0 (dsg, dwo, dhu, dmi, dkn, 0, 0, 0, 2, 3)).2)), nV (vnc ((prs u Lt 300 0 (dsg, dwo, dhu, dmi, dkn, 0, 0, 0, 2, 3)).2)), nV (vnb ((prs u Lt 300 0 (dsg, dwo, dhu, dmi, dkn, 0, 0, 0, 2, 3)).2)), nV (vbi ((prs u Lt 300 0 (dsg, dwo, dhu, dmi, dkn, 0, 0, 0, 2, 3)).2)), nV (vmo ((prs u Lt 300 0 (dsg, dwo, dhu, dmi, dkn, 0, 0, 0, 2, 3)).2))]))]) [5] rfl) (ci := 6) (q0 := 0) rfl rfl kc_X8_words kl_X9_95 kn_X8 ki_X8_words ke_X8_words nk_X8_words (rm_lt (by decide) (by decide)) hl rfl (Nat.le_of_ble_eq_true rfl) dX9_lay_24 (fun r_5 hr_6 => ?_)
  subst hr_6
  refine r_ine 33 C dX9_lay_27 rfl (rgN (by omega)) (fun h_7 => ?_) (fun h_7 => ?_)
  rotate_left
  · exact absurd h_7 (by have := hok.2; omega)
  refine lv_aload_n C.1 C.2.1 dX9_lay_33 rfl (lv_at hl 0 rfl) ?_
  refine r_get C hK hP kw_X9 (ci := 7) rfl 0 7 (by decide) kf_X9_61 rfl rfl dX9_lay_34 ?_
  refine lv_astore_n (lv' := [(1, .ref v), (0, .ref x0)]) C.1 C.2.1 dX9_lay_37 rfl hl (by decide) rfl (fun ls hl => ?_)
  refine lv_aload_n C.1 C.2.1 dX9_lay_38 rfl (lv_at hl 1 rfl) ?_
  refine lv_aload_n C.1 C.2.1 dX9_lay_39 rfl (lv_at hl 1 rfl) ?_
  refine r_get C hK hP kw_X9 (ci := 7) rfl 0 8 (by decide) kf_X9_65 rfl rfl dX9_lay_40 ?_
  refine r_put (v := .ref vd) C hK hP hD hS kw_X9 tyX9_ok nmX9 (ci := 7) rfl 0 7 (by decide) kf_X9_61 rfl rfl rfl rfl rfl (Nat.le_of_ble_eq_true rfl) dX9_lay_43 (fun H locs hP hD hS => ?_)
  have hP : va_P g.1 vwCl [(x0, .inr (7, [.ref t, .ref rd0, .ref q, .ref us, .ref ks, .ref rc0, .ref se, .ref vd, .ref vd])), (rd0, .inr (3, [.ref rd1, nV pl1_a])), (rd1, cN g 4 nu1_a), (t, .inr (5, [.ref t0, nV Lt])), (t0, cB g 300 u), (vd, .inr (6, [.ref d0, .ref d1, .ref d2, .ref d3, .ref d4, nV (vk ((prs u Lt 300 0 (dsg, dwo, dhu, dmi, dkn, 0, 0, 0, 2, 3)).2)), nV (vnc ((prs u Lt 300 0 (dsg, dwo, dhu, dmi, dkn, 0, 0, 0, 2, 3)).2)), nV (vnb ((prs u Lt 300 0 (dsg, dwo, dhu, dmi, dkn, 0, 0, 0, 2, 3)).2)), nV (vbi ((prs u Lt 300 0 (dsg, dwo, dhu, dmi, dkn, 0, 0, 0, 2, 3)).2)), nV (vmo ((prs u Lt 300 0 (dsg, dwo, dhu, dmi, dkn, 0, 0, 0, 2, 3)).2))])), (d0, cN g 8 (vsg ((prs u Lt 300 0 (dsg, dwo, dhu, dmi, dkn, 0, 0, 0, 2, 3)).2))), (d1, cN g 8 (vwo ((prs u Lt 300 0 (dsg, dwo, dhu, dmi, dkn, 0, 0, 0, 2, 3)).2))), (d2, cN g 5 (vhu ((prs u Lt 300 0 (dsg, dwo, dhu, dmi, dkn, 0, 0, 0, 2, 3)).2))), (d3, cN g 5 (vmi ((prs u Lt 300 0 (dsg, dwo, dhu, dmi, dkn, 0, 0, 0, 2, 3)).2))), (d4, cN g 5 (vkn ((prs u Lt 300 0 (dsg, dwo, dhu, dmi, dkn, 0, 0, 0, 2, 3)).2))), (q, .inr (1, [.ref q0])), (q0, cN g 42 ce), (us, .inr (4, [nV 8, .ref ur0, nV uz])), (ks, .inr (4, [nV 2, .ref kr0, nV kz]))] H := hP
  have hD : va_D A [(x0, .inr (7, [.ref t, .ref rd0, .ref q, .ref us, .ref ks, .ref rc0, .ref se, .ref vd, .ref vd])), (rd0, .inr (3, [.ref rd1, nV pl1_a])), (rd1, cN g 4 nu1_a), (t, .inr (5, [.ref t0, nV Lt])), (t0, cB g 300 u), (vd, .inr (6, [.ref d0, .ref d1, .ref d2, .ref d3, .ref d4, nV (vk ((prs u Lt 300 0 (dsg, dwo, dhu, dmi, dkn, 0, 0, 0, 2, 3)).2)), nV (vnc ((prs u Lt 300 0 (dsg, dwo, dhu, dmi, dkn, 0, 0, 0, 2, 3)).2)), nV (vnb ((prs u Lt 300 0 (dsg, dwo, dhu, dmi, dkn, 0, 0, 0, 2, 3)).2)), nV (vbi ((prs u Lt 300 0 (dsg, dwo, dhu, dmi, dkn, 0, 0, 0, 2, 3)).2)), nV (vmo ((prs u Lt 300 0 (dsg, dwo, dhu, dmi, dkn, 0, 0, 0, 2, 3)).2))])), (d0, cN g 8 (vsg ((prs u Lt 300 0 (dsg, dwo, dhu, dmi, dkn, 0, 0, 0, 2, 3)).2))), (d1, cN g 8 (vwo ((prs u Lt 300 0 (dsg, dwo, dhu, dmi, dkn, 0, 0, 0, 2, 3)).2))), (d2, cN g 5 (vhu ((prs u Lt 300 0 (dsg, dwo, dhu, dmi, dkn, 0, 0, 0, 2, 3)).2))), (d3, cN g 5 (vmi ((prs u Lt 300 0 (dsg, dwo, dhu, dmi, dkn, 0, 0, 0, 2, 3)).2))), (d4, cN g 5 (vkn ((prs u Lt 300 0 (dsg, dwo, dhu, dmi, dkn, 0, 0, 0, 2, 3)).2))), (q, .inr (1, [.ref q0])), (q0, cN g 42 ce), (us, .inr (4, [nV 8, .ref ur0, nV uz])), (ks, .inr (4, [nV 2, .ref kr0, nV kz]))] := hD
  refine lv_aload_n C.1 C.2.1 dX9_lay_46 rfl (lv_at hl 1 rfl) ?_
  refine lv_aload_n C.1 C.2.1 dX9_lay_47 rfl (lv_at hl 0 rfl) ?_
  refine r_put (v := .ref v) C hK hP hD hS kw_X9 tyX9_ok nmX9 (ci := 7) rfl 0 8 (by decide) kf_X9_65 rfl rfl rfl rfl rfl (Nat.le_of_ble_eq_true rfl) dX9_lay_48 (fun H locs hP hD hS => ?_)
  have hP : va_P g.1 vwCl [(x0, .inr (7, [.ref t, .ref rd0, .ref q, .ref us, .ref ks, .ref rc0, .ref se, .ref vd, .ref v])), (rd0, .inr (3, [.ref rd1, nV pl1_a])), (rd1, cN g 4 nu1_a), (t, .inr (5, [.ref t0, nV Lt])), (t0, cB g 300 u), (vd, .inr (6, [.ref d0, .ref d1, .ref d2, .ref d3, .ref d4, nV (vk ((prs u Lt 300 0 (dsg, dwo, dhu, dmi, dkn, 0, 0, 0, 2, 3)).2)), nV (vnc ((prs u Lt 300 0 (dsg, dwo, dhu, dmi, dkn, 0, 0, 0, 2, 3)).2)), nV (vnb ((prs u Lt 300 0 (dsg, dwo, dhu, dmi, dkn, 0, 0, 0, 2, 3)).2)), nV (vbi ((prs u Lt 300 0 (dsg, dwo, dhu, dmi, dkn, 0, 0, 0, 2, 3)).2)), nV (vmo ((prs u Lt 300 0 (dsg, dwo, dhu, dmi, dkn, 0, 0, 0, 2, 3)).2))])), (d0, cN g 8 (vsg ((prs u Lt 300 0 (dsg, dwo, dhu, dmi, dkn, 0, 0, 0, 2, 3)).2))), (d1, cN g 8 (vwo ((prs u Lt 300 0 (dsg, dwo, dhu, dmi, dkn, 0, 0, 0, 2, 3)).2))), (d2, cN g 5 (vhu ((prs u Lt 300 0 (dsg, dwo, dhu, dmi, dkn, 0, 0, 0, 2, 3)).2))), (d3, cN g 5 (vmi ((prs u Lt 300 0 (dsg, dwo, dhu, dmi, dkn, 0, 0, 0, 2, 3)).2))), (d4, cN g 5 (vkn ((prs u Lt 300 0 (dsg, dwo, dhu, dmi, dkn, 0, 0, 0, 2, 3)).2))), (q, .inr (1, [.ref q0])), (q0, cN g 42 ce), (us, .inr (4, [nV 8, .ref ur0, nV uz])), (ks, .inr (4, [nV 2, .ref kr0, nV kz]))] H := hP
  have hD : va_D A [(x0, .inr (7, [.ref t, .ref rd0, .ref q, .ref us, .ref ks, .ref rc0, .ref se, .ref vd, .ref v])), (rd0, .inr (3, [.ref rd1, nV pl1_a])), (rd1, cN g 4 nu1_a), (t, .inr (5, [.ref t0, nV Lt])), (t0, cB g 300 u), (vd, .inr (6, [.ref d0, .ref d1, .ref d2, .ref d3, .ref d4, nV (vk ((prs u Lt 300 0 (dsg, dwo, dhu, dmi, dkn, 0, 0, 0, 2, 3)).2)), nV (vnc ((prs u Lt 300 0 (dsg, dwo, dhu, dmi, dkn, 0, 0, 0, 2, 3)).2)), nV (vnb ((prs u Lt 300 0 (dsg, dwo, dhu, dmi, dkn, 0, 0, 0, 2, 3)).2)), nV (vbi ((prs u Lt 300 0 (dsg, dwo, dhu, dmi, dkn, 0, 0, 0, 2, 3)).2)), nV (vmo ((prs u Lt 300 0 (dsg, dwo, dhu, dmi, dkn, 0, 0, 0, 2, 3)).2))])), (d0, cN g 8 (vsg ((prs u Lt 300 0 (dsg, dwo, dhu, dmi, dkn, 0, 0, 0, 2, 3)).2))), (d1, cN g 8 (vwo ((prs u Lt 300 0 (dsg, dwo, dhu, dmi, dkn, 0, 0, 0, 2, 3)).2))), (d2, cN g 5 (vhu ((prs u Lt 300 0 (dsg, dwo, dhu, dmi, dkn, 0, 0, 0, 2, 3)).2))), (d3, cN g 5 (vmi ((prs u Lt 300 0 (dsg, dwo, dhu, dmi, dkn, 0, 0, 0, 2, 3)).2))), (d4, cN g 5 (vkn ((prs u Lt 300 0 (dsg, dwo, dhu, dmi, dkn, 0, 0, 0, 2, 3)).2))), (q, .inr (1, [.ref q0])), (q0, cN g 42 ce), (us, .inr (4, [nV 8, .ref ur0, nV uz])), (ks, .inr (4, [nV 2, .ref kr0, nV kz]))] := hD
  refine lv_aload_n C.1 C.2.1 dX9_lay_51 rfl (lv_at hl 1 rfl) ?_
  refine r_get C hK hP kw_X9 (ci := 7) rfl 0 2 (by decide) kf_X9_26 rfl rfl dX9_lay_52 ?_
  refine wr_callVV (As := []) (rest := []) C hK (c_X1_clear l g q q0 ce) [11, 12] rfl (fun _ => rfl) (by decide) hP hD hS hA (ci := 1) (q0 := 0) rfl rfl kc_X1_clear kl_X9_98 kn_X1 ki_X1_clear ke_X1_clear nk_X1_clear (rm_lt (by decide) (by decide)) hl rfl (Nat.le_of_ble_eq_true rfl) dX9_lay_55 (fun u_10 H locs hr_9 hP hD hS => ?_)
  have hP : va_P g.1 vwCl [(x0, .inr (7, [.ref t, .ref rd0, .ref q, .ref us, .ref ks, .ref rc0, .ref se, .ref vd, .ref v])), (rd0, .inr (3, [.ref rd1, nV pl1_a])), (rd1, cN g 4 nu1_a), (t, .inr (5, [.ref t0, nV Lt])), (t0, cB g 300 u), (vd, .inr (6, [.ref d0, .ref d1, .ref d2, .ref d3, .ref d4, nV (vk ((prs u Lt 300 0 (dsg, dwo, dhu, dmi, dkn, 0, 0, 0, 2, 3)).2)), nV (vnc ((prs u Lt 300 0 (dsg, dwo, dhu, dmi, dkn, 0, 0, 0, 2, 3)).2)), nV (vnb ((prs u Lt 300 0 (dsg, dwo, dhu, dmi, dkn, 0, 0, 0, 2, 3)).2)), nV (vbi ((prs u Lt 300 0 (dsg, dwo, dhu, dmi, dkn, 0, 0, 0, 2, 3)).2)), nV (vmo ((prs u Lt 300 0 (dsg, dwo, dhu, dmi, dkn, 0, 0, 0, 2, 3)).2))])), (d0, cN g 8 (vsg ((prs u Lt 300 0 (dsg, dwo, dhu, dmi, dkn, 0, 0, 0, 2, 3)).2))), (d1, cN g 8 (vwo ((prs u Lt 300 0 (dsg, dwo, dhu, dmi, dkn, 0, 0, 0, 2, 3)).2))), (d2, cN g 5 (vhu ((prs u Lt 300 0 (dsg, dwo, dhu, dmi, dkn, 0, 0, 0, 2, 3)).2))), (d3, cN g 5 (vmi ((prs u Lt 300 0 (dsg, dwo, dhu, dmi, dkn, 0, 0, 0, 2, 3)).2))), (d4, cN g 5 (vkn ((prs u Lt 300 0 (dsg, dwo, dhu, dmi, dkn, 0, 0, 0, 2, 3)).2))), (q, .inr (1, [.ref q0])), (q0, cN g 42 (upN (upN ce 40 0) 41 0)), (us, .inr (4, [nV 8, .ref ur0, nV uz])), (ks, .inr (4, [nV 2, .ref kr0, nV kz]))] H := hP
  have hD : va_D A [(x0, .inr (7, [.ref t, .ref rd0, .ref q, .ref us, .ref ks, .ref rc0, .ref se, .ref vd, .ref v])), (rd0, .inr (3, [.ref rd1, nV pl1_a])), (rd1, cN g 4 nu1_a), (t, .inr (5, [.ref t0, nV Lt])), (t0, cB g 300 u), (vd, .inr (6, [.ref d0, .ref d1, .ref d2, .ref d3, .ref d4, nV (vk ((prs u Lt 300 0 (dsg, dwo, dhu, dmi, dkn, 0, 0, 0, 2, 3)).2)), nV (vnc ((prs u Lt 300 0 (dsg, dwo, dhu, dmi, dkn, 0, 0, 0, 2, 3)).2)), nV (vnb ((prs u Lt 300 0 (dsg, dwo, dhu, dmi, dkn, 0, 0, 0, 2, 3)).2)), nV (vbi ((prs u Lt 300 0 (dsg, dwo, dhu, dmi, dkn, 0, 0, 0, 2, 3)).2)), nV (vmo ((prs u Lt 300 0 (dsg, dwo, dhu, dmi, dkn, 0, 0, 0, 2, 3)).2))])), (d0, cN g 8 (vsg ((prs u Lt 300 0 (dsg, dwo, dhu, dmi, dkn, 0, 0, 0, 2, 3)).2))), (d1, cN g 8 (vwo ((prs u Lt 300 0 (dsg, dwo, dhu, dmi, dkn, 0, 0, 0, 2, 3)).2))), (d2, cN g 5 (vhu ((prs u Lt 300 0 (dsg, dwo, dhu, dmi, dkn, 0, 0, 0, 2, 3)).2))), (d3, cN g 5 (vmi ((prs u Lt 300 0 (dsg, dwo, dhu, dmi, dkn, 0, 0, 0, 2, 3)).2))), (d4, cN g 5 (vkn ((prs u Lt 300 0 (dsg, dwo, dhu, dmi, dkn, 0, 0, 0, 2, 3)).2))), (q, .inr (1, [.ref q0])), (q0, cN g 42 (upN (upN ce 40 0) 41 0)), (us, .inr (4, [nV 8, .ref ur0, nV uz])), (ks, .inr (4, [nV 2, .ref kr0, nV kz]))] := hD
  refine lv_aload_n C.1 C.2.1 dX9_lay_58 rfl (lv_at hl 1 rfl) ?_
  refine r_get C hK hP kw_X9 (ci := 7) rfl 0 3 (by decide) kf_X9_35 rfl rfl dX9_lay_59 ?_
  refine wr_callVV (As := []) (rest := []) C hK (c_X5_clear l g us ur0 8 uz) [13] rfl (fun _ => rfl) (by decide) hP hD hS hA (ci := 4) (q0 := 0) rfl rfl kc_X5_clear kl_X9_99 kn_X5 ki_X5_clear ke_X5_clear nk_X5_clear (rm_lt (by decide) (by decide)) hl rfl (Nat.le_of_ble_eq_true rfl) dX9_lay_62 (fun u_13 H locs hr_12 hP hD hS => ?_)
  have hP : va_P g.1 vwCl [(x0, .inr (7, [.ref t, .ref rd0, .ref q, .ref us, .ref ks, .ref rc0, .ref se, .ref vd, .ref v])), (rd0, .inr (3, [.ref rd1, nV pl1_a])), (rd1, cN g 4 nu1_a), (t, .inr (5, [.ref t0, nV Lt])), (t0, cB g 300 u), (vd, .inr (6, [.ref d0, .ref d1, .ref d2, .ref d3, .ref d4, nV (vk ((prs u Lt 300 0 (dsg, dwo, dhu, dmi, dkn, 0, 0, 0, 2, 3)).2)), nV (vnc ((prs u Lt 300 0 (dsg, dwo, dhu, dmi, dkn, 0, 0, 0, 2, 3)).2)), nV (vnb ((prs u Lt 300 0 (dsg, dwo, dhu, dmi, dkn, 0, 0, 0, 2, 3)).2)), nV (vbi ((prs u Lt 300 0 (dsg, dwo, dhu, dmi, dkn, 0, 0, 0, 2, 3)).2)), nV (vmo ((prs u Lt 300 0 (dsg, dwo, dhu, dmi, dkn, 0, 0, 0, 2, 3)).2))])), (d0, cN g 8 (vsg ((prs u Lt 300 0 (dsg, dwo, dhu, dmi, dkn, 0, 0, 0, 2, 3)).2))), (d1, cN g 8 (vwo ((prs u Lt 300 0 (dsg, dwo, dhu, dmi, dkn, 0, 0, 0, 2, 3)).2))), (d2, cN g 5 (vhu ((prs u Lt 300 0 (dsg, dwo, dhu, dmi, dkn, 0, 0, 0, 2, 3)).2))), (d3, cN g 5 (vmi ((prs u Lt 300 0 (dsg, dwo, dhu, dmi, dkn, 0, 0, 0, 2, 3)).2))), (d4, cN g 5 (vkn ((prs u Lt 300 0 (dsg, dwo, dhu, dmi, dkn, 0, 0, 0, 2, 3)).2))), (q, .inr (1, [.ref q0])), (q0, cN g 42 (upN (upN ce 40 0) 41 0)), (us, .inr (4, [nV 8, .ref ur0, nV 0])), (ks, .inr (4, [nV 2, .ref kr0, nV kz]))] H := hP
  have hD : va_D A [(x0, .inr (7, [.ref t, .ref rd0, .ref q, .ref us, .ref ks, .ref rc0, .ref se, .ref vd, .ref v])), (rd0, .inr (3, [.ref rd1, nV pl1_a])), (rd1, cN g 4 nu1_a), (t, .inr (5, [.ref t0, nV Lt])), (t0, cB g 300 u), (vd, .inr (6, [.ref d0, .ref d1, .ref d2, .ref d3, .ref d4, nV (vk ((prs u Lt 300 0 (dsg, dwo, dhu, dmi, dkn, 0, 0, 0, 2, 3)).2)), nV (vnc ((prs u Lt 300 0 (dsg, dwo, dhu, dmi, dkn, 0, 0, 0, 2, 3)).2)), nV (vnb ((prs u Lt 300 0 (dsg, dwo, dhu, dmi, dkn, 0, 0, 0, 2, 3)).2)), nV (vbi ((prs u Lt 300 0 (dsg, dwo, dhu, dmi, dkn, 0, 0, 0, 2, 3)).2)), nV (vmo ((prs u Lt 300 0 (dsg, dwo, dhu, dmi, dkn, 0, 0, 0, 2, 3)).2))])), (d0, cN g 8 (vsg ((prs u Lt 300 0 (dsg, dwo, dhu, dmi, dkn, 0, 0, 0, 2, 3)).2))), (d1, cN g 8 (vwo ((prs u Lt 300 0 (dsg, dwo, dhu, dmi, dkn, 0, 0, 0, 2, 3)).2))), (d2, cN g 5 (vhu ((prs u Lt 300 0 (dsg, dwo, dhu, dmi, dkn, 0, 0, 0, 2, 3)).2))), (d3, cN g 5 (vmi ((prs u Lt 300 0 (dsg, dwo, dhu, dmi, dkn, 0, 0, 0, 2, 3)).2))), (d4, cN g 5 (vkn ((prs u Lt 300 0 (dsg, dwo, dhu, dmi, dkn, 0, 0, 0, 2, 3)).2))), (q, .inr (1, [.ref q0])), (q0, cN g 42 (upN (upN ce 40 0) 41 0)), (us, .inr (4, [nV 8, .ref ur0, nV 0])), (ks, .inr (4, [nV 2, .ref kr0, nV kz]))] := hD
  refine lv_aload_n C.1 C.2.1 dX9_lay_65 rfl (lv_at hl 1 rfl) ?_
  refine r_get C hK hP kw_X9 (ci := 7) rfl 0 4 (by decide) kf_X9_39 rfl rfl dX9_lay_66 ?_
  refine wr_callVV (As := []) (rest := []) C hK (c_X5_clear l g ks kr0 2 kz) [14] rfl (fun _ => rfl) (by decide) hP hD hS hA (ci := 4) (q0 := 0) rfl rfl kc_X5_clear kl_X9_99 kn_X5 ki_X5_clear ke_X5_clear nk_X5_clear (rm_lt (by decide) (by decide)) hl rfl (Nat.le_of_ble_eq_true rfl) dX9_lay_69 (fun u_16 H locs hr_15 hP hD hS => ?_)
  have hP : va_P g.1 vwCl [(x0, .inr (7, [.ref t, .ref rd0, .ref q, .ref us, .ref ks, .ref rc0, .ref se, .ref vd, .ref v])), (rd0, .inr (3, [.ref rd1, nV pl1_a])), (rd1, cN g 4 nu1_a), (t, .inr (5, [.ref t0, nV Lt])), (t0, cB g 300 u), (vd, .inr (6, [.ref d0, .ref d1, .ref d2, .ref d3, .ref d4, nV (vk ((prs u Lt 300 0 (dsg, dwo, dhu, dmi, dkn, 0, 0, 0, 2, 3)).2)), nV (vnc ((prs u Lt 300 0 (dsg, dwo, dhu, dmi, dkn, 0, 0, 0, 2, 3)).2)), nV (vnb ((prs u Lt 300 0 (dsg, dwo, dhu, dmi, dkn, 0, 0, 0, 2, 3)).2)), nV (vbi ((prs u Lt 300 0 (dsg, dwo, dhu, dmi, dkn, 0, 0, 0, 2, 3)).2)), nV (vmo ((prs u Lt 300 0 (dsg, dwo, dhu, dmi, dkn, 0, 0, 0, 2, 3)).2))])), (d0, cN g 8 (vsg ((prs u Lt 300 0 (dsg, dwo, dhu, dmi, dkn, 0, 0, 0, 2, 3)).2))), (d1, cN g 8 (vwo ((prs u Lt 300 0 (dsg, dwo, dhu, dmi, dkn, 0, 0, 0, 2, 3)).2))), (d2, cN g 5 (vhu ((prs u Lt 300 0 (dsg, dwo, dhu, dmi, dkn, 0, 0, 0, 2, 3)).2))), (d3, cN g 5 (vmi ((prs u Lt 300 0 (dsg, dwo, dhu, dmi, dkn, 0, 0, 0, 2, 3)).2))), (d4, cN g 5 (vkn ((prs u Lt 300 0 (dsg, dwo, dhu, dmi, dkn, 0, 0, 0, 2, 3)).2))), (q, .inr (1, [.ref q0])), (q0, cN g 42 (upN (upN ce 40 0) 41 0)), (us, .inr (4, [nV 8, .ref ur0, nV 0])), (ks, .inr (4, [nV 2, .ref kr0, nV 0]))] H := hP
  have hD : va_D A [(x0, .inr (7, [.ref t, .ref rd0, .ref q, .ref us, .ref ks, .ref rc0, .ref se, .ref vd, .ref v])), (rd0, .inr (3, [.ref rd1, nV pl1_a])), (rd1, cN g 4 nu1_a), (t, .inr (5, [.ref t0, nV Lt])), (t0, cB g 300 u), (vd, .inr (6, [.ref d0, .ref d1, .ref d2, .ref d3, .ref d4, nV (vk ((prs u Lt 300 0 (dsg, dwo, dhu, dmi, dkn, 0, 0, 0, 2, 3)).2)), nV (vnc ((prs u Lt 300 0 (dsg, dwo, dhu, dmi, dkn, 0, 0, 0, 2, 3)).2)), nV (vnb ((prs u Lt 300 0 (dsg, dwo, dhu, dmi, dkn, 0, 0, 0, 2, 3)).2)), nV (vbi ((prs u Lt 300 0 (dsg, dwo, dhu, dmi, dkn, 0, 0, 0, 2, 3)).2)), nV (vmo ((prs u Lt 300 0 (dsg, dwo, dhu, dmi, dkn, 0, 0, 0, 2, 3)).2))])), (d0, cN g 8 (vsg ((prs u Lt 300 0 (dsg, dwo, dhu, dmi, dkn, 0, 0, 0, 2, 3)).2))), (d1, cN g 8 (vwo ((prs u Lt 300 0 (dsg, dwo, dhu, dmi, dkn, 0, 0, 0, 2, 3)).2))), (d2, cN g 5 (vhu ((prs u Lt 300 0 (dsg, dwo, dhu, dmi, dkn, 0, 0, 0, 2, 3)).2))), (d3, cN g 5 (vmi ((prs u Lt 300 0 (dsg, dwo, dhu, dmi, dkn, 0, 0, 0, 2, 3)).2))), (d4, cN g 5 (vkn ((prs u Lt 300 0 (dsg, dwo, dhu, dmi, dkn, 0, 0, 0, 2, 3)).2))), (q, .inr (1, [.ref q0])), (q0, cN g 42 (upN (upN ce 40 0) 41 0)), (us, .inr (4, [nV 8, .ref ur0, nV 0])), (ks, .inr (4, [nV 2, .ref kr0, nV 0]))] := hD
  refine lv_aload_n C.1 C.2.1 dX9_lay_72 rfl (lv_at hl 1 rfl) ?_
  refine r_get C hK hP kw_X9 (ci := 7) rfl 0 7 (by decide) kf_X9_61 rfl rfl dX9_lay_73 ?_
  refine ro_callV (As := []) (rest := []) C hK (c_X8_words l g vd d0 d1 d2 d3 d4 (vk ((prs u Lt 300 0 (dsg, dwo, dhu, dmi, dkn, 0, 0, 0, 2, 3)).2)) (vnc ((prs u Lt 300 0 (dsg, dwo, dhu, dmi, dkn, 0, 0, 0, 2, 3)).2)) (vnb ((prs u Lt 300 0 (dsg, dwo, dhu, dmi, dkn, 0, 0, 0, 2, 3)).2)) (vbi ((prs u Lt 300 0 (dsg, dwo, dhu, dmi, dkn, 0, 0, 0, 2, 3)).2)) (vmo ((prs u Lt 300 0 (dsg, dwo, dhu, dmi, dkn, 0, 0, 0, 2, 3)).2))) (hP.sub (ws' := [(vd, .inr (6, [.ref d0, .ref d1, .ref d2, .ref d3, .ref d4, nV (vk ((prs u Lt 300 0 (dsg, dwo, dhu, dmi, dkn, 0, 0, 0, 2, 3)).2)), nV (vnc ((prs u Lt 300 0 (dsg, dwo, dhu, dmi, dkn, 0, 0, 0, 2, 3)).2)), nV (vnb ((prs u Lt 300 0 (dsg, dwo, dhu, dmi, dkn, 0, 0, 0, 2, 3)).2)), nV (vbi ((prs u Lt 300 0 (dsg, dwo, dhu, dmi, dkn, 0, 0, 0, 2, 3)).2)), nV (vmo ((prs u Lt 300 0 (dsg, dwo, dhu, dmi, dkn, 0, 0, 0, 2, 3)).2))]))]) [5] rfl) (ci := 6) (q0 := 0) rfl rfl kc_X8_words kl_X9_95 kn_X8 ki_X8_words ke_X8_words nk_X8_words (rm_lt (by decide) (by decide)) hl rfl (Nat.le_of_ble_eq_true rfl) dX9_lay_76 (fun r_17 hr_18 => ?_)
  subst hr_18
  exact ret ((pl1_a, nu1_a)) dX9_lay_79 hS hP (by first | rfl | exact iI_cast (by omega) | exact congrArg lI (by omega) | omega)
set_option maxHeartbeats 4000000 in
set_option maxRecDepth 100000 in
theorem c_X9_bake_ok (l : Launch) (g : GG) (x0 : Nat) (t : Nat) (rd0 : Nat) (q : Nat) (us : Nat) (ks : Nat) (rc0 : Nat) (se : Nat) (v : Nat) (vd : Nat) (ur0 : Nat) (ur : Nat → Nat) (uz : Nat) (q0 : Nat) (ce : Nat → Nat) (v0 : Nat) (v1 : Nat) (v2 : Nat) (v3 : Nat) (v4 : Nat) (sg : Nat → Nat) (k : Nat) (nc : Nat) (nb : Nat) (bi : Nat) (mo : Nat) (xn : Nat) (yn : Nat) (hsg : ∀ j, sg j < 72) (hk : k ≤ 8) (huz : uz ≤ 8) (hx : xn < k) (hy : yn < 4) (h40 : ce 40 < 8) : WRi g l yX9_bake cX9_bake 4 (some .int) 5 [(x0, .inr (7, [.ref t, .ref rd0, .ref q, .ref us, .ref ks, .ref rc0, .ref se, .ref v, .ref vd])), (us, .inr (4, [nV 8, .ref ur0, nV uz])), (ur0, cN g 336 ur), (q, .inr (1, [.ref q0])), (q0, cN g 42 ce), (v, .inr (6, [.ref v0, .ref v1, .ref v2, .ref v3, .ref v4, nV k, nV nc, nV nb, nV bi, nV mo])), (v0, cN g 8 sg)] [.ref x0, nV xn, nV yn] (fun r (_ : Unit) => r = iI ((ce 40 + 1 : Nat) : Int)) (fun (_ : Unit) => [(x0, .inr (7, [.ref t, .ref rd0, .ref q, .ref us, .ref ks, .ref rc0, .ref se, .ref v, .ref vd])), (us, .inr (4, [nV 8, .ref ur0, nV (ssz 8 uz)])), (ur0, cN g 336 (srow ur ce 336 8 uz)), (q, .inr (1, [.ref q0])), (q0, cN g 42 (lbk sg k ce xn yn)), (v, .inr (6, [.ref v0, .ref v1, .ref v2, .ref v3, .ref v4, nV k, nV nc, nV nb, nV bi, nV mo])), (v0, cN g 8 sg)]) := by
  refine wr_startI (by decide +kernel) (Nat.le_of_ble_eq_true rfl) ?_
  intro p e s m args below meth c Q A ls C hK hA ret hP hD hS hl
  have C : CT p s m args meth c cX9_bake RX9 4 := C
  have hl : lv_has ls 4 [(0, .ref x0), (1, nV xn), (2, nV yn)] := hl
  refine lv_aload_n C.1 C.2.1 dX9_bake_0 rfl (lv_at hl 0 rfl) ?_
  refine lv_iload_n C.1 C.2.1 dX9_bake_1 rfl (lv_at hl 1 rfl) ?_
  refine ro_callV (As := [nV xn]) (rest := []) C hK (c_X9_isWord l g x0 t rd0 q us ks rc0 se v vd v0 v1 v2 v3 v4 k nc nb bi mo ((xn : Nat) : Int) (by first | assumption | omega) (by first | assumption | exact ⟨by omega, by omega⟩)) (hP.sub (ws' := [(x0, .inr (7, [.ref t, .ref rd0, .ref q, .ref us, .ref ks, .ref rc0, .ref se, .ref v, .ref vd])), (v, .inr (6, [.ref v0, .ref v1, .ref v2, .ref v3, .ref v4, nV k, nV nc, nV nb, nV bi, nV mo]))]) [0, 5] rfl) (ci := 7) (q0 := 0) rfl rfl kc_X9_isWord kl_X9_100 kn_X9 ki_X9_isWord ke_X9_isWord nk_X9_isWord (rm_lt (by decide) (by decide)) hl rfl (Nat.le_of_ble_eq_true rfl) dX9_bake_2 (fun r_1 hr_2 => ?_)
  subst hr_2
  refine r_beq 17 C dX9_bake_5 rfl (fun h_3 => ?_) (fun h_3 => ?_)
  · exact absurd h_3 (by omega)
  refine lv_iload_n C.1 C.2.1 dX9_bake_8 rfl (lv_at hl 2 rfl) ?_
  refine r_iconst 0 C dX9_bake_9 rfl ?_
  refine r_iconst 3 C dX9_bake_10 rfl ?_
  refine ro_callS (As := [nV yn, nV 0, nV 3]) (rest := []) C hK (c_X9_within l g ((yn : Nat) : Int) ((0 : Nat) : Int) ((3 : Nat) : Int) (by first | assumption | exact ⟨by omega, by omega⟩) (by first | assumption | exact ⟨by omega, by omega⟩) (by first | assumption | exact ⟨by omega, by omega⟩)) (hP.sub (ws' := []) [] rfl) kc_X9_within kl_X9_72 kn_X9 ks_X9_within nk_X9_within (rm_lt (by decide) (by decide)) hl rfl (Nat.le_of_ble_eq_true rfl) dX9_bake_11 (fun r_4 hr_5 => ?_)
  subst hr_5
  refine r_bne 19 C dX9_bake_14 rfl (fun h_6 => ?_) (fun h_6 => ?_)
  rotate_left
  · exact absurd h_6 (by omega)
  refine lv_aload_n C.1 C.2.1 dX9_bake_19 rfl (lv_at hl 0 rfl) ?_
  refine r_get C hK hP kw_X9 (ci := 7) rfl 0 2 (by decide) kf_X9_26 rfl rfl dX9_bake_20 ?_
  refine ro_callV (As := []) (rest := []) C hK (c_X1_isFull l g q q0 ce (by first | assumption | omega)) (hP.sub (ws' := [(q, .inr (1, [.ref q0])), (q0, cN g 42 ce)]) [3, 4] rfl) (ci := 1) (q0 := 0) rfl rfl kc_X1_isFull kl_X9_115 kn_X1 ki_X1_isFull ke_X1_isFull nk_X1_isFull (rm_lt (by decide) (by decide)) hl rfl (Nat.le_of_ble_eq_true rfl) dX9_bake_23 (fun r_7 hr_8 => ?_)
  subst hr_8
  refine r_beq 32 C dX9_bake_26 rfl (fun h_9 => ?_) (fun h_9 => ?_)
  rotate_left
  · exact absurd h_9 (by omega)
  refine lv_aload_n C.1 C.2.1 dX9_bake_32 rfl (lv_at hl 0 rfl) ?_
  refine r_get C hK hP kw_X9 (ci := 7) rfl 0 3 (by decide) kf_X9_35 rfl rfl dX9_bake_33 ?_
  refine lv_aload_n C.1 C.2.1 dX9_bake_36 rfl (lv_at hl 0 rfl) ?_
  refine r_get C hK hP kw_X9 (ci := 7) rfl 0 2 (by decide) kf_X9_26 rfl rfl dX9_bake_37 ?_
  refine wr_callVV (As := [.ref q]) (rest := []) C hK (c_X5_push l g us ur0 336 ur 8 uz q q0 ce (by omega) (rfl)) [1, 2, 3, 4] rfl (fun _ => rfl) (by decide) hP hD hS hA (ci := 4) (q0 := 0) rfl rfl kc_X5_push kl_X9_119 kn_X5 ki_X5_push ke_X5_push nk_X5_push (rm_lt (by decide) (by decide)) hl rfl (Nat.le_of_ble_eq_true rfl) dX9_bake_40 (fun u_12 H locs hr_11 hP hD hS => ?_)
  have hP : va_P g.1 vwCl [(x0, .inr (7, [.ref t, .ref rd0, .ref q, .ref us, .ref ks, .ref rc0, .ref se, .ref v, .ref vd])), (us, .inr (4, [nV 8, .ref ur0, nV (ssz 8 uz)])), (ur0, cN g 336 (srow ur ce 336 8 uz)), (q, .inr (1, [.ref q0])), (q0, cN g 42 ce), (v, .inr (6, [.ref v0, .ref v1, .ref v2, .ref v3, .ref v4, nV k, nV nc, nV nb, nV bi, nV mo])), (v0, cN g 8 sg)] H := hP
  have hD : va_D A [(x0, .inr (7, [.ref t, .ref rd0, .ref q, .ref us, .ref ks, .ref rc0, .ref se, .ref v, .ref vd])), (us, .inr (4, [nV 8, .ref ur0, nV (ssz 8 uz)])), (ur0, cN g 336 (srow ur ce 336 8 uz)), (q, .inr (1, [.ref q0])), (q0, cN g 42 ce), (v, .inr (6, [.ref v0, .ref v1, .ref v2, .ref v3, .ref v4, nV k, nV nc, nV nb, nV bi, nV mo])), (v0, cN g 8 sg)] := hD
  refine lv_aload_n C.1 C.2.1 dX9_bake_43 rfl (lv_at hl 0 rfl) ?_
  refine r_get C hK hP kw_X9 (ci := 7) rfl 0 7 (by decide) kf_X9_61 rfl rfl dX9_bake_44 ?_
  refine lv_iload_n C.1 C.2.1 dX9_bake_47 rfl (lv_at hl 2 rfl) ?_
  refine r_iconst 3 C dX9_bake_48 rfl ?_
  refine r_cne 60 C dX9_bake_49 rfl ⟨rgN (by omega), rgN (by decide)⟩ (fun h_13 => ?_) (fun h_13 => ?_)
  · skip
    refine lv_iload_n C.1 C.2.1 dX9_bake_60 rfl (lv_at hl 1 rfl) ?_
    refine ro_callV (As := [nV xn]) (rest := []) C hK (c_X8_signOf l g v v0 v1 v2 v3 v4 sg k nc nb bi mo xn (by first | assumption | omega)) (hP.sub (ws' := [(v, .inr (6, [.ref v0, .ref v1, .ref v2, .ref v3, .ref v4, nV k, nV nc, nV nb, nV bi, nV mo])), (v0, cN g 8 sg)]) [5, 6] rfl) (ci := 6) (q0 := 0) rfl rfl kc_X8_signOf kl_X9_103 kn_X8 ki_X8_signOf ke_X8_signOf nk_X8_signOf (rm_lt (by decide) (by decide)) hl rfl (Nat.le_of_ble_eq_true rfl) dX9_bake_61 (fun r_14 hr_15 => ?_)
    subst hr_15
    have hf_16 := hsg (xn)
    refine r_topN (bkd sg k xn yn) (by unfold bkd; first | (rw [if_pos (by omega)]; done) | (rw [if_neg (by omega)]; done)) ?_
    refine r_nameN (fun sn hsn => ?_)
    have hsn2 : sn < 72 := by rw [hsn]; exact hsg _
    refine lv_istore_n (lv' := [(3, nV sn), (0, .ref x0), (1, nV xn), (2, nV yn)]) C.1 C.2.1 dX9_bake_64 rfl hl (by decide) rfl (fun ls hl => ?_)
    refine lv_aload_n C.1 C.2.1 dX9_bake_65 rfl (lv_at hl 1 rfl) ?_
    refine r_get C hK hP kw_X9 (ci := 7) rfl 0 2 (by decide) kf_X9_26 rfl rfl dX9_bake_66 ?_
    refine lv_iload_n C.1 C.2.1 dX9_bake_69 rfl (lv_at hl 2 rfl) ?_
    refine lv_iload_n C.1 C.2.1 dX9_bake_70 rfl (lv_at hl 3 rfl) ?_
    refine lv_iload_n C.1 C.2.1 dX9_bake_71 rfl (lv_at hl 0 rfl) ?_
    refine wr_callVV (As := [nV xn, nV yn, nV sn]) (rest := []) C hK (c_X1_add l g q q0 ce xn yn sn (by first | assumption | omega)) [3, 4] rfl (fun _ => rfl) (by decide) hP hD hS hA (ci := 1) (q0 := 0) rfl rfl kc_X1_add kl_X9_126 kn_X1 ki_X1_add ke_X1_add nk_X1_add (rm_lt (by decide) (by decide)) hl rfl (Nat.le_of_ble_eq_true rfl) dX9_bake_72 (fun u_19 H locs hr_18 hP hD hS => ?_)
    have hP : va_P g.1 vwCl [(x0, .inr (7, [.ref t, .ref rd0, .ref q, .ref us, .ref ks, .ref rc0, .ref se, .ref v, .ref vd])), (us, .inr (4, [nV 8, .ref ur0, nV (ssz 8 uz)])), (ur0, cN g 336 (srow ur ce 336 8 uz)), (q, .inr (1, [.ref q0])), (q0, cN g 42 (ladd ce xn yn sn)), (v, .inr (6, [.ref v0, .ref v1, .ref v2, .ref v3, .ref v4, nV k, nV nc, nV nb, nV bi, nV mo])), (v0, cN g 8 sg)] H := hP
    have hD : va_D A [(x0, .inr (7, [.ref t, .ref rd0, .ref q, .ref us, .ref ks, .ref rc0, .ref se, .ref v, .ref vd])), (us, .inr (4, [nV 8, .ref ur0, nV (ssz 8 uz)])), (ur0, cN g 336 (srow ur ce 336 8 uz)), (q, .inr (1, [.ref q0])), (q0, cN g 42 (ladd ce xn yn sn)), (v, .inr (6, [.ref v0, .ref v1, .ref v2, .ref v3, .ref v4, nV k, nV nc, nV nb, nV bi, nV mo])), (v0, cN g 8 sg)] := hD
    refine lv_aload_n C.1 C.2.1 dX9_bake_75 rfl (lv_at hl 1 rfl) ?_
    refine r_get C hK hP kw_X9 (ci := 7) rfl 0 2 (by decide) kf_X9_26 rfl rfl dX9_bake_76 ?_
    refine lv_iload_n C.1 C.2.1 dX9_bake_79 rfl (lv_at hl 0 rfl) ?_
    refine lv_iload_n C.1 C.2.1 dX9_bake_80 rfl (lv_at hl 3 rfl) ?_
    refine ro_callS (As := [nV sn, nV yn]) (rest := [.ref q]) C hK (c_X9_flourOf l g sn yn (by first | assumption | omega) (by first | assumption | omega)) (hP.sub (ws' := []) [] rfl) kc_X9_flourOf kl_X9_130 kn_X9 ks_X9_flourOf nk_X9_flourOf (rm_lt (by decide) (by decide)) hl rfl (Nat.le_of_ble_eq_true rfl) dX9_bake_81 (fun r_20 hr_21 => ?_)
    subst hr_21
    have hf_22 := flk_bd (sn) (yn) (by omega)
    refine wr_callVV (As := [nV (flk sn yn)]) (rest := []) C hK (c_X1_useFlour l g q q0 (ladd ce xn yn sn) (flk sn yn)) [3, 4] rfl (fun _ => rfl) (by decide) hP hD hS hA (ci := 1) (q0 := 0) rfl rfl kc_X1_useFlour kl_X9_134 kn_X1 ki_X1_useFlour ke_X1_useFlour nk_X1_useFlour (rm_lt (by decide) (by decide)) hl rfl (Nat.le_of_ble_eq_true rfl) dX9_bake_84 (fun u_25 H locs hr_24 hP hD hS => ?_)
    have hP : va_P g.1 vwCl [(x0, .inr (7, [.ref t, .ref rd0, .ref q, .ref us, .ref ks, .ref rc0, .ref se, .ref v, .ref vd])), (us, .inr (4, [nV 8, .ref ur0, nV (ssz 8 uz)])), (ur0, cN g 336 (srow ur ce 336 8 uz)), (q, .inr (1, [.ref q0])), (q0, cN g 42 (upN (ladd ce xn yn sn) 41 ((ladd ce xn yn sn) 41 + (flk sn yn)))), (v, .inr (6, [.ref v0, .ref v1, .ref v2, .ref v3, .ref v4, nV k, nV nc, nV nb, nV bi, nV mo])), (v0, cN g 8 sg)] H := hP
    have hD : va_D A [(x0, .inr (7, [.ref t, .ref rd0, .ref q, .ref us, .ref ks, .ref rc0, .ref se, .ref v, .ref vd])), (us, .inr (4, [nV 8, .ref ur0, nV (ssz 8 uz)])), (ur0, cN g 336 (srow ur ce 336 8 uz)), (q, .inr (1, [.ref q0])), (q0, cN g 42 (upN (ladd ce xn yn sn) 41 ((ladd ce xn yn sn) 41 + (flk sn yn)))), (v, .inr (6, [.ref v0, .ref v1, .ref v2, .ref v3, .ref v4, nV k, nV nc, nV nb, nV bi, nV mo])), (v0, cN g 8 sg)] := hD
    generalize hc2 : upN (ladd ce xn yn sn) 41 ((ladd ce xn yn sn) 41 + (flk sn yn)) = c2 at hP hD
    have e41 := ladd_41 (ce := ce) (w := xn) (kd := yn) (sn := sn) h40
    rw [e41, hsn] at hc2
    refine lv_aload_n C.1 C.2.1 dX9_bake_87 rfl (lv_at hl 1 rfl) ?_
    refine r_get C hK hP kw_X9 (ci := 7) rfl 0 2 (by decide) kf_X9_26 rfl rfl dX9_bake_88 ?_
    refine ro_callV (As := []) (rest := []) C hK (c_X1_size l g q q0 c2) (hP.sub (ws' := [(q, .inr (1, [.ref q0])), (q0, cN g 42 c2)]) [3, 4] rfl) (ci := 1) (q0 := 0) rfl rfl kc_X1_size kl_X9_137 kn_X1 ki_X1_size ke_X1_size nk_X1_size (rm_lt (by decide) (by decide)) hl rfl (Nat.le_of_ble_eq_true rfl) dX9_bake_91 (fun r_26 hr_27 => ?_)
    subst hr_27
    exact ret (()) dX9_bake_94 hS (by rw [← hc2] at hP; exact hP) (iI_cast (by rw [← hc2]; exact congrArg (fun q : Nat => (q : Int)) (lbk_40 h40)))
  refine lv_aload_n C.1 C.2.1 dX9_bake_52 rfl (lv_at hl 0 rfl) ?_
  refine lv_iload_n C.1 C.2.1 dX9_bake_53 rfl (lv_at hl 1 rfl) ?_
  refine ro_callV (As := [nV xn]) (rest := [.ref v]) C hK (c_X9_wordBehind l g x0 t rd0 q us ks rc0 se v vd v0 v1 v2 v3 v4 k nc nb bi mo xn (by first | assumption | omega) (by first | assumption | omega)) (hP.sub (ws' := [(x0, .inr (7, [.ref t, .ref rd0, .ref q, .ref us, .ref ks, .ref rc0, .ref se, .ref v, .ref vd])), (v, .inr (6, [.ref v0, .ref v1, .ref v2, .ref v3, .ref v4, nV k, nV nc, nV nb, nV bi, nV mo]))]) [0, 5] rfl) (ci := 7) (q0 := 0) rfl rfl kc_X9_wordBehind kl_X9_123 kn_X9 ki_X9_wordBehind ke_X9_wordBehind nk_X9_wordBehind (rm_lt (by decide) (by decide)) hl rfl (Nat.le_of_ble_eq_true rfl) dX9_bake_54 (fun r_28 hr_29 => ?_)
  subst hr_29
  have hf_30 := Nat.mod_lt (xn + 1) (show k > 0 by omega)
  refine r_goto 61 C dX9_bake_57 rfl ?_
  refine ro_callV (As := [nV ((xn + 1) % k)]) (rest := []) C hK (c_X8_signOf l g v v0 v1 v2 v3 v4 sg k nc nb bi mo ((xn + 1) % k) (by first | assumption | omega)) (hP.sub (ws' := [(v, .inr (6, [.ref v0, .ref v1, .ref v2, .ref v3, .ref v4, nV k, nV nc, nV nb, nV bi, nV mo])), (v0, cN g 8 sg)]) [5, 6] rfl) (ci := 6) (q0 := 0) rfl rfl kc_X8_signOf kl_X9_103 kn_X8 ki_X8_signOf ke_X8_signOf nk_X8_signOf (rm_lt (by decide) (by decide)) hl rfl (Nat.le_of_ble_eq_true rfl) dX9_bake_61 (fun r_31 hr_32 => ?_)
  subst hr_32
  have hf_33 := hsg (((xn + 1) % k))
  refine r_topN (bkd sg k xn yn) (by unfold bkd; first | (rw [if_pos (by omega)]; done) | (rw [if_neg (by omega)]; done)) ?_
  refine r_nameN (fun sn hsn => ?_)
  have hsn2 : sn < 72 := by rw [hsn]; exact hsg _
  refine lv_istore_n (lv' := [(3, nV sn), (0, .ref x0), (1, nV xn), (2, nV yn)]) C.1 C.2.1 dX9_bake_64 rfl hl (by decide) rfl (fun ls hl => ?_)
  refine lv_aload_n C.1 C.2.1 dX9_bake_65 rfl (lv_at hl 1 rfl) ?_
  refine r_get C hK hP kw_X9 (ci := 7) rfl 0 2 (by decide) kf_X9_26 rfl rfl dX9_bake_66 ?_
  refine lv_iload_n C.1 C.2.1 dX9_bake_69 rfl (lv_at hl 2 rfl) ?_
  refine lv_iload_n C.1 C.2.1 dX9_bake_70 rfl (lv_at hl 3 rfl) ?_
  refine lv_iload_n C.1 C.2.1 dX9_bake_71 rfl (lv_at hl 0 rfl) ?_
  refine wr_callVV (As := [nV xn, nV yn, nV sn]) (rest := []) C hK (c_X1_add l g q q0 ce xn yn sn (by first | assumption | omega)) [3, 4] rfl (fun _ => rfl) (by decide) hP hD hS hA (ci := 1) (q0 := 0) rfl rfl kc_X1_add kl_X9_126 kn_X1 ki_X1_add ke_X1_add nk_X1_add (rm_lt (by decide) (by decide)) hl rfl (Nat.le_of_ble_eq_true rfl) dX9_bake_72 (fun u_36 H locs hr_35 hP hD hS => ?_)
  have hP : va_P g.1 vwCl [(x0, .inr (7, [.ref t, .ref rd0, .ref q, .ref us, .ref ks, .ref rc0, .ref se, .ref v, .ref vd])), (us, .inr (4, [nV 8, .ref ur0, nV (ssz 8 uz)])), (ur0, cN g 336 (srow ur ce 336 8 uz)), (q, .inr (1, [.ref q0])), (q0, cN g 42 (ladd ce xn yn sn)), (v, .inr (6, [.ref v0, .ref v1, .ref v2, .ref v3, .ref v4, nV k, nV nc, nV nb, nV bi, nV mo])), (v0, cN g 8 sg)] H := hP
  have hD : va_D A [(x0, .inr (7, [.ref t, .ref rd0, .ref q, .ref us, .ref ks, .ref rc0, .ref se, .ref v, .ref vd])), (us, .inr (4, [nV 8, .ref ur0, nV (ssz 8 uz)])), (ur0, cN g 336 (srow ur ce 336 8 uz)), (q, .inr (1, [.ref q0])), (q0, cN g 42 (ladd ce xn yn sn)), (v, .inr (6, [.ref v0, .ref v1, .ref v2, .ref v3, .ref v4, nV k, nV nc, nV nb, nV bi, nV mo])), (v0, cN g 8 sg)] := hD
  refine lv_aload_n C.1 C.2.1 dX9_bake_75 rfl (lv_at hl 1 rfl) ?_
  refine r_get C hK hP kw_X9 (ci := 7) rfl 0 2 (by decide) kf_X9_26 rfl rfl dX9_bake_76 ?_
  refine lv_iload_n C.1 C.2.1 dX9_bake_79 rfl (lv_at hl 0 rfl) ?_
  refine lv_iload_n C.1 C.2.1 dX9_bake_80 rfl (lv_at hl 3 rfl) ?_
  refine ro_callS (As := [nV sn, nV yn]) (rest := [.ref q]) C hK (c_X9_flourOf l g sn yn (by first | assumption | omega) (by first | assumption | omega)) (hP.sub (ws' := []) [] rfl) kc_X9_flourOf kl_X9_130 kn_X9 ks_X9_flourOf nk_X9_flourOf (rm_lt (by decide) (by decide)) hl rfl (Nat.le_of_ble_eq_true rfl) dX9_bake_81 (fun r_37 hr_38 => ?_)
  subst hr_38
  have hf_39 := flk_bd (sn) (yn) (by omega)
  refine wr_callVV (As := [nV (flk sn yn)]) (rest := []) C hK (c_X1_useFlour l g q q0 (ladd ce xn yn sn) (flk sn yn)) [3, 4] rfl (fun _ => rfl) (by decide) hP hD hS hA (ci := 1) (q0 := 0) rfl rfl kc_X1_useFlour kl_X9_134 kn_X1 ki_X1_useFlour ke_X1_useFlour nk_X1_useFlour (rm_lt (by decide) (by decide)) hl rfl (Nat.le_of_ble_eq_true rfl) dX9_bake_84 (fun u_42 H locs hr_41 hP hD hS => ?_)
  have hP : va_P g.1 vwCl [(x0, .inr (7, [.ref t, .ref rd0, .ref q, .ref us, .ref ks, .ref rc0, .ref se, .ref v, .ref vd])), (us, .inr (4, [nV 8, .ref ur0, nV (ssz 8 uz)])), (ur0, cN g 336 (srow ur ce 336 8 uz)), (q, .inr (1, [.ref q0])), (q0, cN g 42 (upN (ladd ce xn yn sn) 41 ((ladd ce xn yn sn) 41 + (flk sn yn)))), (v, .inr (6, [.ref v0, .ref v1, .ref v2, .ref v3, .ref v4, nV k, nV nc, nV nb, nV bi, nV mo])), (v0, cN g 8 sg)] H := hP
  have hD : va_D A [(x0, .inr (7, [.ref t, .ref rd0, .ref q, .ref us, .ref ks, .ref rc0, .ref se, .ref v, .ref vd])), (us, .inr (4, [nV 8, .ref ur0, nV (ssz 8 uz)])), (ur0, cN g 336 (srow ur ce 336 8 uz)), (q, .inr (1, [.ref q0])), (q0, cN g 42 (upN (ladd ce xn yn sn) 41 ((ladd ce xn yn sn) 41 + (flk sn yn)))), (v, .inr (6, [.ref v0, .ref v1, .ref v2, .ref v3, .ref v4, nV k, nV nc, nV nb, nV bi, nV mo])), (v0, cN g 8 sg)] := hD
  generalize hc2 : upN (ladd ce xn yn sn) 41 ((ladd ce xn yn sn) 41 + (flk sn yn)) = c2 at hP hD
  have e41 := ladd_41 (ce := ce) (w := xn) (kd := yn) (sn := sn) h40
  rw [e41, hsn] at hc2
  refine lv_aload_n C.1 C.2.1 dX9_bake_87 rfl (lv_at hl 1 rfl) ?_
  refine r_get C hK hP kw_X9 (ci := 7) rfl 0 2 (by decide) kf_X9_26 rfl rfl dX9_bake_88 ?_
  refine ro_callV (As := []) (rest := []) C hK (c_X1_size l g q q0 c2) (hP.sub (ws' := [(q, .inr (1, [.ref q0])), (q0, cN g 42 c2)]) [3, 4] rfl) (ci := 1) (q0 := 0) rfl rfl kc_X1_size kl_X9_137 kn_X1 ki_X1_size ke_X1_size nk_X1_size (rm_lt (by decide) (by decide)) hl rfl (Nat.le_of_ble_eq_true rfl) dX9_bake_91 (fun r_43 hr_44 => ?_)
  subst hr_44
  exact ret (()) dX9_bake_94 hS (by rw [← hc2] at hP; exact hP) (iI_cast (by rw [← hc2]; exact congrArg (fun q : Nat => (q : Int)) (lbk_40 h40)))
set_option maxHeartbeats 4000000 in
set_option maxRecDepth 100000 in
theorem c_X9_bake_no (l : Launch) (g : GG) (x0 : Nat) (t : Nat) (rd0 : Nat) (q : Nat) (us : Nat) (ks : Nat) (rc0 : Nat) (se : Nat) (v : Nat) (vd : Nat) (q0 : Nat) (ce : Nat → Nat) (v0 : Nat) (v1 : Nat) (v2 : Nat) (v3 : Nat) (v4 : Nat) (k : Nat) (nc : Nat) (nb : Nat) (bi : Nat) (mo : Nat) (x : Int) (y : Int) (hk : k ≤ 8) (h40 : ce 40 ≤ 8) (hno : ¬ ((0 ≤ x ∧ x < (k : Int)) ∧ (0 ≤ y ∧ y ≤ 3) ∧ ce 40 < 8)) (hx : rg x) (hy : rg y) : ROi g l yX9_bake cX9_bake 4 (some .int) 5 [(x0, .inr (7, [.ref t, .ref rd0, .ref q, .ref us, .ref ks, .ref rc0, .ref se, .ref v, .ref vd])), (q, .inr (1, [.ref q0])), (q0, cN g 42 ce), (v, .inr (6, [.ref v0, .ref v1, .ref v2, .ref v3, .ref v4, nV k, nV nc, nV nb, nV bi, nV mo]))] [.ref x0, zV x, zV y] (fun r => r = iI (if (0 ≤ x ∧ x < (k : Int)) ∧ (0 ≤ y ∧ y ≤ 3) then -3 else -1)) := by
  refine ro_startI (by decide +kernel) (Nat.le_of_ble_eq_true rfl) ?_
  intro p e s m args below meth c Q ls C hK hP ret hl
  have C : CT p s m args meth c cX9_bake RX9 4 := C
  have hl : lv_has ls 4 [(0, .ref x0), (1, zV x), (2, zV y)] := hl
  refine lv_aload_n C.1 C.2.1 dX9_bake_0 rfl (lv_at hl 0 rfl) ?_
  refine lv_iload_n C.1 C.2.1 dX9_bake_1 rfl (lv_at hl 1 rfl) ?_
  refine ro_callV (As := [zV x]) (rest := []) C hK (c_X9_isWord l g x0 t rd0 q us ks rc0 se v vd v0 v1 v2 v3 v4 k nc nb bi mo x (by first | assumption | omega) (by first | assumption | exact ⟨by omega, by omega⟩)) (hP.sub (ws' := [(x0, .inr (7, [.ref t, .ref rd0, .ref q, .ref us, .ref ks, .ref rc0, .ref se, .ref v, .ref vd])), (v, .inr (6, [.ref v0, .ref v1, .ref v2, .ref v3, .ref v4, nV k, nV nc, nV nb, nV bi, nV mo]))]) [0, 3] rfl) (ci := 7) (q0 := 0) rfl rfl kc_X9_isWord kl_X9_100 kn_X9 ki_X9_isWord ke_X9_isWord nk_X9_isWord (rm_lt (by decide) (by decide)) hl rfl (Nat.le_of_ble_eq_true rfl) dX9_bake_2 (fun r_1 hr_2 => ?_)
  subst hr_2
  refine r_beq 17 C dX9_bake_5 rfl (fun h_3 => ?_) (fun h_3 => ?_)
  · skip
    refine r_iconstZ C dX9_bake_17 ?_
    exact ret dX9_bake_18 (by rw [if_neg (by omega)])
  refine lv_iload_n C.1 C.2.1 dX9_bake_8 rfl (lv_at hl 2 rfl) ?_
  refine r_iconst 0 C dX9_bake_9 rfl ?_
  refine r_iconst 3 C dX9_bake_10 rfl ?_
  refine ro_callS (As := [zV y, nV 0, nV 3]) (rest := []) C hK (c_X9_within l g y ((0 : Nat) : Int) ((3 : Nat) : Int) (by first | assumption | exact ⟨by omega, by omega⟩) (by first | assumption | exact ⟨by omega, by omega⟩) (by first | assumption | exact ⟨by omega, by omega⟩)) (hP.sub (ws' := []) [] rfl) kc_X9_within kl_X9_72 kn_X9 ks_X9_within nk_X9_within (rm_lt (by decide) (by decide)) hl rfl (Nat.le_of_ble_eq_true rfl) dX9_bake_11 (fun r_4 hr_5 => ?_)
  subst hr_5
  refine r_bne 19 C dX9_bake_14 rfl (fun h_6 => ?_) (fun h_6 => ?_)
  · skip
    refine lv_aload_n C.1 C.2.1 dX9_bake_19 rfl (lv_at hl 0 rfl) ?_
    refine r_get C hK hP kw_X9 (ci := 7) rfl 0 2 (by decide) kf_X9_26 rfl rfl dX9_bake_20 ?_
    refine ro_callV (As := []) (rest := []) C hK (c_X1_isFull l g q q0 ce (by first | assumption | omega)) (hP.sub (ws' := [(q, .inr (1, [.ref q0])), (q0, cN g 42 ce)]) [1, 2] rfl) (ci := 1) (q0 := 0) rfl rfl kc_X1_isFull kl_X9_115 kn_X1 ki_X1_isFull ke_X1_isFull nk_X1_isFull (rm_lt (by decide) (by decide)) hl rfl (Nat.le_of_ble_eq_true rfl) dX9_bake_23 (fun r_7 hr_8 => ?_)
    subst hr_8
    refine r_beq 32 C dX9_bake_26 rfl (fun h_9 => ?_) (fun h_9 => ?_)
    · exact absurd h_9 (by omega)
    refine r_bipushZ C dX9_bake_29 (by decide) ?_
    exact ret dX9_bake_31 (by rw [if_pos (by omega)])
  refine r_iconstZ C dX9_bake_17 ?_
  exact ret dX9_bake_18 (by rw [if_neg (by omega)])
set_option maxHeartbeats 4000000 in
set_option maxRecDepth 100000 in
theorem c_X9_day (l : Launch) (g : GG) (x0 : Nat) (t : Nat) (rd0 : Nat) (q : Nat) (us : Nat) (ks : Nat) (rc0 : Nat) (se : Nat) (v : Nat) (vd : Nat) (ur0 : Nat) (ur : Nat → Nat) (uz : Nat) (q0 : Nat) (ce : Nat → Nat) (v0 : Nat) (v1 : Nat) (v2 : Nat) (v3 : Nat) (v4 : Nat) (sg : Nat → Nat) (k : Nat) (nc : Nat) (nb : Nat) (bi : Nat) (mo : Nat) (hbm : (1 ≤ bi ∧ bi ≤ 9) ∧ (1 ≤ mo ∧ mo ≤ 9)) (hsg : ∀ j, sg j < 72) (hk : k ≤ 8) (huz : uz ≤ 8) (h40 : ce 40 ≤ 8) (hlo : LOK (lday ce (ce 40))) : WRi g l yX9_day cX9_day 3 (some .int) 6 [(x0, .inr (7, [.ref t, .ref rd0, .ref q, .ref us, .ref ks, .ref rc0, .ref se, .ref v, .ref vd])), (us, .inr (4, [nV 8, .ref ur0, nV uz])), (ur0, cN g 336 ur), (q, .inr (1, [.ref q0])), (q0, cN g 42 ce), (v, .inr (6, [.ref v0, .ref v1, .ref v2, .ref v3, .ref v4, nV k, nV nc, nV nb, nV bi, nV mo])), (v0, cN g 8 sg)] [.ref x0] (fun r (_ : Unit) => r = iI ((dyF sg k bi mo (lday ce (ce 40)) (ce 40) : Nat) : Int)) (fun (_ : Unit) => [(x0, .inr (7, [.ref t, .ref rd0, .ref q, .ref us, .ref ks, .ref rc0, .ref se, .ref v, .ref vd])), (us, .inr (4, [nV 8, .ref ur0, nV (ssz 8 uz)])), (ur0, cN g 336 (srow ur ce 336 8 uz)), (q, .inr (1, [.ref q0])), (q0, cN g 42 (lday ce (ce 40))), (v, .inr (6, [.ref v0, .ref v1, .ref v2, .ref v3, .ref v4, nV k, nV nc, nV nb, nV bi, nV mo])), (v0, cN g 8 sg)]) := by
  refine wr_startI (by decide +kernel) (Nat.le_of_ble_eq_true rfl) ?_
  intro p e s m args below meth c Q A ls C hK hA ret hP hD hS hl
  have C : CT p s m args meth c cX9_day RX9 3 := C
  have hl : lv_has ls 3 [(0, .ref x0)] := hl
  refine lv_aload_n C.1 C.2.1 dX9_day_0 rfl (lv_at hl 0 rfl) ?_
  refine r_get C hK hP kw_X9 (ci := 7) rfl 0 3 (by decide) kf_X9_35 rfl rfl dX9_day_1 ?_
  refine lv_aload_n C.1 C.2.1 dX9_day_4 rfl (lv_at hl 0 rfl) ?_
  refine r_get C hK hP kw_X9 (ci := 7) rfl 0 2 (by decide) kf_X9_26 rfl rfl dX9_day_5 ?_
  refine wr_callVV (As := [.ref q]) (rest := []) C hK (c_X5_push l g us ur0 336 ur 8 uz q q0 ce (by omega) (rfl)) [1, 2, 3, 4] rfl (fun _ => rfl) (by decide) hP hD hS hA (ci := 4) (q0 := 0) rfl rfl kc_X5_push kl_X9_119 kn_X5 ki_X5_push ke_X5_push nk_X5_push (rm_lt (by decide) (by decide)) hl rfl (Nat.le_of_ble_eq_true rfl) dX9_day_8 (fun u_3 H locs hr_2 hP hD hS => ?_)
  have hP : va_P g.1 vwCl [(x0, .inr (7, [.ref t, .ref rd0, .ref q, .ref us, .ref ks, .ref rc0, .ref se, .ref v, .ref vd])), (us, .inr (4, [nV 8, .ref ur0, nV (ssz 8 uz)])), (ur0, cN g 336 (srow ur ce 336 8 uz)), (q, .inr (1, [.ref q0])), (q0, cN g 42 ce), (v, .inr (6, [.ref v0, .ref v1, .ref v2, .ref v3, .ref v4, nV k, nV nc, nV nb, nV bi, nV mo])), (v0, cN g 8 sg)] H := hP
  have hD : va_D A [(x0, .inr (7, [.ref t, .ref rd0, .ref q, .ref us, .ref ks, .ref rc0, .ref se, .ref v, .ref vd])), (us, .inr (4, [nV 8, .ref ur0, nV (ssz 8 uz)])), (ur0, cN g 336 (srow ur ce 336 8 uz)), (q, .inr (1, [.ref q0])), (q0, cN g 42 ce), (v, .inr (6, [.ref v0, .ref v1, .ref v2, .ref v3, .ref v4, nV k, nV nc, nV nb, nV bi, nV mo])), (v0, cN g 8 sg)] := hD
  refine lv_aload_n C.1 C.2.1 dX9_day_11 rfl (lv_at hl 0 rfl) ?_
  refine r_get C hK hP kw_X9 (ci := 7) rfl 0 2 (by decide) kf_X9_26 rfl rfl dX9_day_12 ?_
  refine wr_callVV (As := []) (rest := []) C hK (c_X1_passDay l g q q0 ce (by first | assumption | omega)) [3, 4] rfl (fun _ => rfl) (by decide) hP hD hS hA (ci := 1) (q0 := 0) rfl rfl kc_X1_passDay kl_X9_140 kn_X1 ki_X1_passDay ke_X1_passDay nk_X1_passDay (rm_lt (by decide) (by decide)) hl rfl (Nat.le_of_ble_eq_true rfl) dX9_day_15 (fun u_6 H locs hr_5 hP hD hS => ?_)
  have hP : va_P g.1 vwCl [(x0, .inr (7, [.ref t, .ref rd0, .ref q, .ref us, .ref ks, .ref rc0, .ref se, .ref v, .ref vd])), (us, .inr (4, [nV 8, .ref ur0, nV (ssz 8 uz)])), (ur0, cN g 336 (srow ur ce 336 8 uz)), (q, .inr (1, [.ref q0])), (q0, cN g 42 (lday ce (ce 40))), (v, .inr (6, [.ref v0, .ref v1, .ref v2, .ref v3, .ref v4, nV k, nV nc, nV nb, nV bi, nV mo])), (v0, cN g 8 sg)] H := hP
  have hD : va_D A [(x0, .inr (7, [.ref t, .ref rd0, .ref q, .ref us, .ref ks, .ref rc0, .ref se, .ref v, .ref vd])), (us, .inr (4, [nV 8, .ref ur0, nV (ssz 8 uz)])), (ur0, cN g 336 (srow ur ce 336 8 uz)), (q, .inr (1, [.ref q0])), (q0, cN g 42 (lday ce (ce 40))), (v, .inr (6, [.ref v0, .ref v1, .ref v2, .ref v3, .ref v4, nV k, nV nc, nV nb, nV bi, nV mo])), (v0, cN g 8 sg)] := hD
  generalize hc2 : lday ce (ce 40) = c2 at hP hD
  have e40 : c2 40 = ce 40 := by rw [← hc2]; exact lday_40
  rw [hc2] at hlo
  refine r_iconst 0 C dX9_day_18 rfl ?_
  refine lv_istore_n (lv' := [(1, nV 0), (0, .ref x0)]) C.1 C.2.1 dX9_day_19 rfl hl (by decide) rfl (fun ls hl => ?_)
  refine r_iconst 0 C dX9_day_20 rfl ?_
  refine lv_istore_n (lv' := [(2, nV 0), (1, nV 0), (0, .ref x0)]) C.1 C.2.1 dX9_day_21 rfl hl (by decide) rfl (fun ls hl => ?_)
  have L22 : ∀ (n_22 : Nat) (i : Nat) (n1 : Nat) (H : Heap) (locs : List Loc) (ls : Array Slot) (hi : i ≤ ce 40) (hn : n1 = dyF sg k bi mo c2 i) (hm : ce 40 - i < n_22) (hP : va_P g.1 vwCl [(x0, .inr (7, [.ref t, .ref rd0, .ref q, .ref us, .ref ks, .ref rc0, .ref se, .ref v, .ref vd])), (us, .inr (4, [nV 8, .ref ur0, nV (ssz 8 uz)])), (ur0, cN g 336 (srow ur ce 336 8 uz)), (q, .inr (1, [.ref q0])), (q0, cN g 42 c2), (v, .inr (6, [.ref v0, .ref v1, .ref v2, .ref v3, .ref v4, nV k, nV nc, nV nb, nV bi, nV mo])), (v0, cN g 8 sg)] H) (hD : va_D A [(x0, .inr (7, [.ref t, .ref rd0, .ref q, .ref us, .ref ks, .ref rc0, .ref se, .ref v, .ref vd])), (us, .inr (4, [nV 8, .ref ur0, nV (ssz 8 uz)])), (ur0, cN g 336 (srow ur ce 336 8 uz)), (q, .inr (1, [.ref q0])), (q0, cN g 42 c2), (v, .inr (6, [.ref v0, .ref v1, .ref v2, .ref v3, .ref v4, nV k, nV nc, nV nb, nV bi, nV mo])), (v0, cN g 8 sg)]) (hS : va_S A s.heap H locs) (hl : lv_has ls 3 [(2, nV i), (1, nV n1), (0, .ref x0)]), W p l e (rD 6) s m args below meth c H locs 0 0 Q (F0 m 22 ls []) := by
    intro n_22
    induction n_22 with
    | zero => intro i n1 H locs ls hi hn hm hP hD hS hl; exact absurd hm (Nat.not_lt_zero _)
    | succ n_22 ih_22 =>
      intro i n1 H locs ls hi hn hm hP hD hS hl
      have hdl := dyF_le sg k bi mo c2 i
      refine lv_iload_n C.1 C.2.1 dX9_day_22 rfl (lv_at hl 0 rfl) ?_
      refine lv_aload_n C.1 C.2.1 dX9_day_23 rfl (lv_at hl 2 rfl) ?_
      refine r_get C hK hP kw_X9 (ci := 7) rfl 0 2 (by decide) kf_X9_26 rfl rfl dX9_day_24 ?_
      refine ro_callV (As := []) (rest := [nV i]) C hK (c_X1_size l g q q0 c2) (hP.sub (ws' := [(q, .inr (1, [.ref q0])), (q0, cN g 42 c2)]) [3, 4] rfl) (ci := 1) (q0 := 0) rfl rfl kc_X1_size kl_X9_137 kn_X1 ki_X1_size ke_X1_size nk_X1_size (rm_lt (by decide) (by decide)) hl rfl (Nat.le_of_ble_eq_true rfl) dX9_day_27 (fun r_7 hr_8 => ?_)
      subst hr_8
      refine r_cge 59 C dX9_day_30 rfl ⟨rgN (by omega), rgN (by omega)⟩ (fun h_9 => ?_) (fun h_9 => ?_)
      · skip
        refine lv_iload_n C.1 C.2.1 dX9_day_59 rfl (lv_at hl 1 rfl) ?_
        exact ret (()) dX9_day_60 hS (by rw [← hc2] at hP; exact hP) (iI_cast (by rw [hn, hc2, show i = ce 40 by omega]))
      refine lv_aload_n C.1 C.2.1 dX9_day_33 rfl (lv_at hl 2 rfl) ?_
      refine lv_iload_n C.1 C.2.1 dX9_day_34 rfl (lv_at hl 0 rfl) ?_
      refine ro_callV (As := [nV i]) (rest := []) C hK (c_X9_readingOf l g x0 t rd0 q us ks rc0 se v vd q0 c2 v0 v1 v2 v3 v4 sg k nc nb bi mo i (by first | assumption | omega) (by first | assumption | omega) (by first | assumption | omega) (by first | assumption | omega) (by first | assumption | omega)) (hP.sub (ws' := [(x0, .inr (7, [.ref t, .ref rd0, .ref q, .ref us, .ref ks, .ref rc0, .ref se, .ref v, .ref vd])), (q, .inr (1, [.ref q0])), (q0, cN g 42 c2), (v, .inr (6, [.ref v0, .ref v1, .ref v2, .ref v3, .ref v4, nV k, nV nc, nV nb, nV bi, nV mo])), (v0, cN g 8 sg)]) [0, 3, 4, 5, 6] rfl) (ci := 7) (q0 := 0) rfl rfl kc_X9_readingOf kl_X9_143 kn_X9 ki_X9_readingOf ke_X9_readingOf nk_X9_readingOf (rm_lt (by decide) (by decide)) hl rfl (Nat.le_of_ble_eq_true rfl) dX9_day_35 (fun r_10 hr_11 => ?_)
      subst hr_11
      have hf_12 := rd_bd sg (k) (sNow bi mo c2 i)
      have hp0 := hlo.2 i (by omega)
      refine lv_aload_n C.1 C.2.1 dX9_day_38 rfl (lv_at hl 2 rfl) ?_
      refine r_get C hK hP kw_X9 (ci := 7) rfl 0 2 (by decide) kf_X9_26 rfl rfl dX9_day_39 ?_
      refine lv_iload_n C.1 C.2.1 dX9_day_42 rfl (lv_at hl 0 rfl) ?_
      refine r_iconst 0 C dX9_day_43 rfl ?_
      refine ro_callV (As := [nV i, nV 0]) (rest := [zV (rd sg k (sNow bi mo c2 i))]) C hK (c_X1_part l g q q0 c2 i 0 (by first | assumption | omega) (by first | assumption | omega) (by first | assumption | omega)) (hP.sub (ws' := [(q, .inr (1, [.ref q0])), (q0, cN g 42 c2)]) [3, 4] rfl) (ci := 1) (q0 := 0) rfl rfl kc_X1_part kl_X9_146 kn_X1 ki_X1_part ke_X1_part nk_X1_part (rm_lt (by decide) (by decide)) hl rfl (Nat.le_of_ble_eq_true rfl) dX9_day_44 (fun r_13 hr_14 => ?_)
      subst hr_14
      refine r_cne 53 C dX9_day_47 rfl ⟨⟨by omega, by omega⟩, rgN (by omega)⟩ (fun g1 => ?_) (fun g1 => ?_)
      · skip
        refine r_incN (k := 0) (n := 1) [(2, nV (i + 1)), (1, nV n1), (0, .ref x0)] C dX9_day_53 hl rfl rfl (by decide) rfl (fun ls hl => ?_)
        refine r_goto 22 C dX9_day_56 rfl ?_
        exact ih_22 (i + 1) n1 _ _ _ (by first | assumption | omega) (by have hp := (hlo.2 i (by omega)).1; rw [hn]; show _ = dyF sg k bi mo c2 i + (if rd sg k (sNow bi mo c2 i) = (c2 (i * 5 + 0) : Int) then 1 else 0); rw [if_neg g1, Nat.add_zero]) (by omega) hP hD hS (lv_sub hl [0, 1, 2] rfl)
      refine r_incN (k := 1) (n := 1) [(1, nV (n1 + 1)), (2, nV i), (0, .ref x0)] C dX9_day_50 hl rfl rfl (by decide) rfl (fun ls hl => ?_)
      refine r_incN (k := 1) (n := 1) [(2, nV (i + 1)), (1, nV (n1 + 1)), (0, .ref x0)] C dX9_day_53 hl rfl rfl (by decide) rfl (fun ls hl => ?_)
      refine r_goto 22 C dX9_day_56 rfl ?_
      exact ih_22 (i + 1) (n1 + 1) _ _ _ (by first | assumption | omega) (by have hp := (hlo.2 i (by omega)).1; rw [hn]; show _ = dyF sg k bi mo c2 i + (if rd sg k (sNow bi mo c2 i) = (c2 (i * 5 + 0) : Int) then 1 else 0); rw [if_pos g1]) (by omega) hP hD hS (lv_sub hl [0, 1, 2] rfl)
  exact L22 (ce 40 - 0 + 1) 0 0 _ _ _ (by first | assumption | omega) (rfl) (Nat.lt_succ_self _) hP hD hS (lv_sub hl [0, 1, 2] rfl)
set_option maxHeartbeats 4000000 in
set_option maxRecDepth 100000 in
theorem c_X9_bite_ok (l : Launch) (g : GG) (x0 : Nat) (t : Nat) (rd0 : Nat) (q : Nat) (us : Nat) (ks : Nat) (rc0 : Nat) (se : Nat) (v : Nat) (vd : Nat) (ur0 : Nat) (ur : Nat → Nat) (uz : Nat) (q0 : Nat) (ce : Nat → Nat) (xn : Nat) (huz : uz ≤ 8) (h40 : ce 40 ≤ 8) (hx : xn < ce 40) (h9 : ce (xn * 5 + 3) < 9) : WRi g l yX9_bite cX9_bite 2 (some .int) 5 [(x0, .inr (7, [.ref t, .ref rd0, .ref q, .ref us, .ref ks, .ref rc0, .ref se, .ref v, .ref vd])), (us, .inr (4, [nV 8, .ref ur0, nV uz])), (ur0, cN g 336 ur), (q, .inr (1, [.ref q0])), (q0, cN g 42 ce)] [.ref x0, nV xn] (fun r (_ : Unit) => r = iI ((ce (xn * 5 + 3) + 1 : Nat) : Int)) (fun (_ : Unit) => [(x0, .inr (7, [.ref t, .ref rd0, .ref q, .ref us, .ref ks, .ref rc0, .ref se, .ref v, .ref vd])), (us, .inr (4, [nV 8, .ref ur0, nV (ssz 8 uz)])), (ur0, cN g 336 (srow ur ce 336 8 uz)), (q, .inr (1, [.ref q0])), (q0, cN g 42 (lbit ce xn))]) := by
  refine wr_startI (by decide +kernel) (Nat.le_of_ble_eq_true rfl) ?_
  intro p e s m args below meth c Q A ls C hK hA ret hP hD hS hl
  have C : CT p s m args meth c cX9_bite RX9 2 := C
  have hl : lv_has ls 2 [(0, .ref x0), (1, nV xn)] := hl
  refine lv_aload_n C.1 C.2.1 dX9_bite_0 rfl (lv_at hl 0 rfl) ?_
  refine r_get C hK hP kw_X9 (ci := 7) rfl 0 2 (by decide) kf_X9_26 rfl rfl dX9_bite_1 ?_
  refine lv_iload_n C.1 C.2.1 dX9_bite_4 rfl (lv_at hl 1 rfl) ?_
  refine ro_callV (As := [nV xn]) (rest := []) C hK (c_X1_holds l g q q0 ce ((xn : Nat) : Int) (by first | assumption | omega) (by first | assumption | exact ⟨by omega, by omega⟩)) (hP.sub (ws' := [(q, .inr (1, [.ref q0])), (q0, cN g 42 ce)]) [3, 4] rfl) (ci := 1) (q0 := 0) rfl rfl kc_X1_holds kl_X9_149 kn_X1 ki_X1_holds ke_X1_holds nk_X1_holds (rm_lt (by decide) (by decide)) hl rfl (Nat.le_of_ble_eq_true rfl) dX9_bite_5 (fun r_1 hr_2 => ?_)
  subst hr_2
  refine r_bne 13 C dX9_bite_8 rfl (fun h_3 => ?_) (fun h_3 => ?_)
  rotate_left
  · exact absurd h_3 (by omega)
  refine lv_aload_n C.1 C.2.1 dX9_bite_13 rfl (lv_at hl 0 rfl) ?_
  refine r_get C hK hP kw_X9 (ci := 7) rfl 0 2 (by decide) kf_X9_26 rfl rfl dX9_bite_14 ?_
  refine lv_iload_n C.1 C.2.1 dX9_bite_17 rfl (lv_at hl 1 rfl) ?_
  refine r_iconst 3 C dX9_bite_18 rfl ?_
  refine ro_callV (As := [nV xn, nV 3]) (rest := []) C hK (c_X1_part l g q q0 ce xn 3 (by first | assumption | omega) (by first | assumption | omega) (by first | assumption | omega)) (hP.sub (ws' := [(q, .inr (1, [.ref q0])), (q0, cN g 42 ce)]) [3, 4] rfl) (ci := 1) (q0 := 0) rfl rfl kc_X1_part kl_X9_146 kn_X1 ki_X1_part ke_X1_part nk_X1_part (rm_lt (by decide) (by decide)) hl rfl (Nat.le_of_ble_eq_true rfl) dX9_bite_19 (fun r_4 hr_5 => ?_)
  subst hr_5
  refine r_bipush 9 C dX9_bite_22 (by decide) ?_
  refine r_clt 30 C dX9_bite_24 rfl ⟨rgN (by omega), rgN (by decide)⟩ (fun h_6 => ?_) (fun h_6 => ?_)
  rotate_left
  · exact absurd h_6 (by omega)
  refine lv_aload_n C.1 C.2.1 dX9_bite_30 rfl (lv_at hl 0 rfl) ?_
  refine r_get C hK hP kw_X9 (ci := 7) rfl 0 3 (by decide) kf_X9_35 rfl rfl dX9_bite_31 ?_
  refine lv_aload_n C.1 C.2.1 dX9_bite_34 rfl (lv_at hl 0 rfl) ?_
  refine r_get C hK hP kw_X9 (ci := 7) rfl 0 2 (by decide) kf_X9_26 rfl rfl dX9_bite_35 ?_
  refine wr_callVV (As := [.ref q]) (rest := []) C hK (c_X5_push l g us ur0 336 ur 8 uz q q0 ce (by omega) (rfl)) [1, 2, 3, 4] rfl (fun _ => rfl) (by decide) hP hD hS hA (ci := 4) (q0 := 0) rfl rfl kc_X5_push kl_X9_119 kn_X5 ki_X5_push ke_X5_push nk_X5_push (rm_lt (by decide) (by decide)) hl rfl (Nat.le_of_ble_eq_true rfl) dX9_bite_38 (fun u_9 H locs hr_8 hP hD hS => ?_)
  have hP : va_P g.1 vwCl [(x0, .inr (7, [.ref t, .ref rd0, .ref q, .ref us, .ref ks, .ref rc0, .ref se, .ref v, .ref vd])), (us, .inr (4, [nV 8, .ref ur0, nV (ssz 8 uz)])), (ur0, cN g 336 (srow ur ce 336 8 uz)), (q, .inr (1, [.ref q0])), (q0, cN g 42 ce)] H := hP
  have hD : va_D A [(x0, .inr (7, [.ref t, .ref rd0, .ref q, .ref us, .ref ks, .ref rc0, .ref se, .ref v, .ref vd])), (us, .inr (4, [nV 8, .ref ur0, nV (ssz 8 uz)])), (ur0, cN g 336 (srow ur ce 336 8 uz)), (q, .inr (1, [.ref q0])), (q0, cN g 42 ce)] := hD
  refine lv_aload_n C.1 C.2.1 dX9_bite_41 rfl (lv_at hl 0 rfl) ?_
  refine r_get C hK hP kw_X9 (ci := 7) rfl 0 2 (by decide) kf_X9_26 rfl rfl dX9_bite_42 ?_
  refine lv_iload_n C.1 C.2.1 dX9_bite_45 rfl (lv_at hl 1 rfl) ?_
  refine wr_callVV (As := [nV xn]) (rest := []) C hK (c_X1_addBite l g q q0 ce xn (by first | assumption | omega) (by first | assumption | omega)) [3, 4] rfl (fun _ => rfl) (by decide) hP hD hS hA (ci := 1) (q0 := 0) rfl rfl kc_X1_addBite kl_X9_152 kn_X1 ki_X1_addBite ke_X1_addBite nk_X1_addBite (rm_lt (by decide) (by decide)) hl rfl (Nat.le_of_ble_eq_true rfl) dX9_bite_46 (fun u_12 H locs hr_11 hP hD hS => ?_)
  have hP : va_P g.1 vwCl [(x0, .inr (7, [.ref t, .ref rd0, .ref q, .ref us, .ref ks, .ref rc0, .ref se, .ref v, .ref vd])), (us, .inr (4, [nV 8, .ref ur0, nV (ssz 8 uz)])), (ur0, cN g 336 (srow ur ce 336 8 uz)), (q, .inr (1, [.ref q0])), (q0, cN g 42 (lbit ce xn))] H := hP
  have hD : va_D A [(x0, .inr (7, [.ref t, .ref rd0, .ref q, .ref us, .ref ks, .ref rc0, .ref se, .ref v, .ref vd])), (us, .inr (4, [nV 8, .ref ur0, nV (ssz 8 uz)])), (ur0, cN g 336 (srow ur ce 336 8 uz)), (q, .inr (1, [.ref q0])), (q0, cN g 42 (lbit ce xn))] := hD
  generalize hc2 : lbit ce xn = c2 at hP hD
  have e40 : c2 40 = ce 40 := by rw [← hc2]; exact upN_n (by omega)
  refine lv_aload_n C.1 C.2.1 dX9_bite_49 rfl (lv_at hl 0 rfl) ?_
  refine r_get C hK hP kw_X9 (ci := 7) rfl 0 2 (by decide) kf_X9_26 rfl rfl dX9_bite_50 ?_
  refine lv_iload_n C.1 C.2.1 dX9_bite_53 rfl (lv_at hl 1 rfl) ?_
  refine r_iconst 3 C dX9_bite_54 rfl ?_
  refine ro_callV (As := [nV xn, nV 3]) (rest := []) C hK (c_X1_part l g q q0 c2 xn 3 (by first | assumption | omega) (by first | assumption | omega) (by first | assumption | omega)) (hP.sub (ws' := [(q, .inr (1, [.ref q0])), (q0, cN g 42 c2)]) [3, 4] rfl) (ci := 1) (q0 := 0) rfl rfl kc_X1_part kl_X9_146 kn_X1 ki_X1_part ke_X1_part nk_X1_part (rm_lt (by decide) (by decide)) hl rfl (Nat.le_of_ble_eq_true rfl) dX9_bite_55 (fun r_13 hr_14 => ?_)
  subst hr_14
  exact ret (()) dX9_bite_58 hS (by rw [← hc2] at hP; exact hP) (by rw [← hc2]; exact iI_cast (congrArg (fun q : Nat => (q : Int)) upN_s))
set_option maxHeartbeats 4000000 in
set_option maxRecDepth 100000 in
theorem c_X9_bite_no (l : Launch) (g : GG) (x0 : Nat) (t : Nat) (rd0 : Nat) (q : Nat) (us : Nat) (ks : Nat) (rc0 : Nat) (se : Nat) (v : Nat) (vd : Nat) (q0 : Nat) (ce : Nat → Nat) (x : Int) (h40 : ce 40 ≤ 8) (hno : ¬ ((0 ≤ x ∧ x < (ce 40 : Int)) ∧ ce (x.toNat * 5 + 3) < 9)) (hpb : ∀ j, ce j < 2147483648) (hx : rg x) : ROi g l yX9_bite cX9_bite 2 (some .int) 5 [(x0, .inr (7, [.ref t, .ref rd0, .ref q, .ref us, .ref ks, .ref rc0, .ref se, .ref v, .ref vd])), (q, .inr (1, [.ref q0])), (q0, cN g 42 ce)] [.ref x0, zV x] (fun r => r = iI (if 0 ≤ x ∧ x < (ce 40 : Int) then -3 else -1)) := by
  refine ro_startI (by decide +kernel) (Nat.le_of_ble_eq_true rfl) ?_
  intro p e s m args below meth c Q ls C hK hP ret hl
  have C : CT p s m args meth c cX9_bite RX9 2 := C
  have hl : lv_has ls 2 [(0, .ref x0), (1, zV x)] := hl
  refine lv_aload_n C.1 C.2.1 dX9_bite_0 rfl (lv_at hl 0 rfl) ?_
  refine r_get C hK hP kw_X9 (ci := 7) rfl 0 2 (by decide) kf_X9_26 rfl rfl dX9_bite_1 ?_
  refine lv_iload_n C.1 C.2.1 dX9_bite_4 rfl (lv_at hl 1 rfl) ?_
  refine ro_callV (As := [zV x]) (rest := []) C hK (c_X1_holds l g q q0 ce x (by first | assumption | omega) (by first | assumption | exact ⟨by omega, by omega⟩)) (hP.sub (ws' := [(q, .inr (1, [.ref q0])), (q0, cN g 42 ce)]) [1, 2] rfl) (ci := 1) (q0 := 0) rfl rfl kc_X1_holds kl_X9_149 kn_X1 ki_X1_holds ke_X1_holds nk_X1_holds (rm_lt (by decide) (by decide)) hl rfl (Nat.le_of_ble_eq_true rfl) dX9_bite_5 (fun r_1 hr_2 => ?_)
  subst hr_2
  refine r_bne 13 C dX9_bite_8 rfl (fun h_3 => ?_) (fun h_3 => ?_)
  · skip
    obtain ⟨xn, rfl⟩ : ∃ n : Nat, x = (n : Int) := ⟨x.toNat, by omega⟩
    have hl : lv_has ls 2 [(0, .ref x0), (1, nV xn)] := hl
    refine lv_aload_n C.1 C.2.1 dX9_bite_13 rfl (lv_at hl 0 rfl) ?_
    refine r_get C hK hP kw_X9 (ci := 7) rfl 0 2 (by decide) kf_X9_26 rfl rfl dX9_bite_14 ?_
    refine lv_iload_n C.1 C.2.1 dX9_bite_17 rfl (lv_at hl 1 rfl) ?_
    refine r_iconst 3 C dX9_bite_18 rfl ?_
    refine ro_callV (As := [nV xn, nV 3]) (rest := []) C hK (c_X1_part l g q q0 ce xn 3 (by first | assumption | omega) (by first | assumption | omega) (by first | assumption | omega)) (hP.sub (ws' := [(q, .inr (1, [.ref q0])), (q0, cN g 42 ce)]) [1, 2] rfl) (ci := 1) (q0 := 0) rfl rfl kc_X1_part kl_X9_146 kn_X1 ki_X1_part ke_X1_part nk_X1_part (rm_lt (by decide) (by decide)) hl rfl (Nat.le_of_ble_eq_true rfl) dX9_bite_19 (fun r_4 hr_5 => ?_)
    subst hr_5
    have hp3 := hpb (xn * 5 + 3)
    rw [Int.toNat_natCast] at hno
    refine r_bipush 9 C dX9_bite_22 (by decide) ?_
    refine r_clt 30 C dX9_bite_24 rfl ⟨rgN (by omega), rgN (by decide)⟩ (fun h_6 => ?_) (fun h_6 => ?_)
    · exact absurd h_6 (by omega)
    refine r_bipushZ C dX9_bite_27 (by decide) ?_
    exact ret dX9_bite_29 (by rw [if_pos (by omega)])
  refine r_iconstZ C dX9_bite_11 ?_
  exact ret dX9_bite_12 (by rw [if_neg (by omega)])
set_option maxHeartbeats 4000000 in
set_option maxRecDepth 100000 in
theorem c_X9_take_ok (l : Launch) (g : GG) (x0 : Nat) (t : Nat) (rd0 : Nat) (q : Nat) (us : Nat) (ks : Nat) (rc0 : Nat) (se : Nat) (v : Nat) (vd : Nat) (ur0 : Nat) (ur : Nat → Nat) (uz : Nat) (q0 : Nat) (ce : Nat → Nat) (xn : Nat) (huz : uz ≤ 8) (h40 : ce 40 ≤ 8) (hx : xn < ce 40) : WRi g l yX9_take cX9_take 3 (some .int) 5 [(x0, .inr (7, [.ref t, .ref rd0, .ref q, .ref us, .ref ks, .ref rc0, .ref se, .ref v, .ref vd])), (us, .inr (4, [nV 8, .ref ur0, nV uz])), (ur0, cN g 336 ur), (q, .inr (1, [.ref q0])), (q0, cN g 42 ce)] [.ref x0, nV xn] (fun r (_ : Unit) => r = iI ((ce (xn * 5 + 0) : Nat) : Int)) (fun (_ : Unit) => [(x0, .inr (7, [.ref t, .ref rd0, .ref q, .ref us, .ref ks, .ref rc0, .ref se, .ref v, .ref vd])), (us, .inr (4, [nV 8, .ref ur0, nV (ssz 8 uz)])), (ur0, cN g 336 (srow ur ce 336 8 uz)), (q, .inr (1, [.ref q0])), (q0, cN g 42 (lrem ce xn))]) := by
  refine wr_startI (by decide +kernel) (Nat.le_of_ble_eq_true rfl) ?_
  intro p e s m args below meth c Q A ls C hK hA ret hP hD hS hl
  have C : CT p s m args meth c cX9_take RX9 3 := C
  have hl : lv_has ls 3 [(0, .ref x0), (1, nV xn)] := hl
  refine lv_aload_n C.1 C.2.1 dX9_take_0 rfl (lv_at hl 0 rfl) ?_
  refine r_get C hK hP kw_X9 (ci := 7) rfl 0 2 (by decide) kf_X9_26 rfl rfl dX9_take_1 ?_
  refine lv_iload_n C.1 C.2.1 dX9_take_4 rfl (lv_at hl 1 rfl) ?_
  refine ro_callV (As := [nV xn]) (rest := []) C hK (c_X1_holds l g q q0 ce ((xn : Nat) : Int) (by first | assumption | omega) (by first | assumption | exact ⟨by omega, by omega⟩)) (hP.sub (ws' := [(q, .inr (1, [.ref q0])), (q0, cN g 42 ce)]) [3, 4] rfl) (ci := 1) (q0 := 0) rfl rfl kc_X1_holds kl_X9_149 kn_X1 ki_X1_holds ke_X1_holds nk_X1_holds (rm_lt (by decide) (by decide)) hl rfl (Nat.le_of_ble_eq_true rfl) dX9_take_5 (fun r_1 hr_2 => ?_)
  subst hr_2
  refine r_bne 13 C dX9_take_8 rfl (fun h_3 => ?_) (fun h_3 => ?_)
  rotate_left
  · exact absurd h_3 (by omega)
  refine lv_aload_n C.1 C.2.1 dX9_take_13 rfl (lv_at hl 0 rfl) ?_
  refine r_get C hK hP kw_X9 (ci := 7) rfl 0 3 (by decide) kf_X9_35 rfl rfl dX9_take_14 ?_
  refine lv_aload_n C.1 C.2.1 dX9_take_17 rfl (lv_at hl 0 rfl) ?_
  refine r_get C hK hP kw_X9 (ci := 7) rfl 0 2 (by decide) kf_X9_26 rfl rfl dX9_take_18 ?_
  refine wr_callVV (As := [.ref q]) (rest := []) C hK (c_X5_push l g us ur0 336 ur 8 uz q q0 ce (by omega) (rfl)) [1, 2, 3, 4] rfl (fun _ => rfl) (by decide) hP hD hS hA (ci := 4) (q0 := 0) rfl rfl kc_X5_push kl_X9_119 kn_X5 ki_X5_push ke_X5_push nk_X5_push (rm_lt (by decide) (by decide)) hl rfl (Nat.le_of_ble_eq_true rfl) dX9_take_21 (fun u_6 H locs hr_5 hP hD hS => ?_)
  have hP : va_P g.1 vwCl [(x0, .inr (7, [.ref t, .ref rd0, .ref q, .ref us, .ref ks, .ref rc0, .ref se, .ref v, .ref vd])), (us, .inr (4, [nV 8, .ref ur0, nV (ssz 8 uz)])), (ur0, cN g 336 (srow ur ce 336 8 uz)), (q, .inr (1, [.ref q0])), (q0, cN g 42 ce)] H := hP
  have hD : va_D A [(x0, .inr (7, [.ref t, .ref rd0, .ref q, .ref us, .ref ks, .ref rc0, .ref se, .ref v, .ref vd])), (us, .inr (4, [nV 8, .ref ur0, nV (ssz 8 uz)])), (ur0, cN g 336 (srow ur ce 336 8 uz)), (q, .inr (1, [.ref q0])), (q0, cN g 42 ce)] := hD
  refine lv_aload_n C.1 C.2.1 dX9_take_24 rfl (lv_at hl 0 rfl) ?_
  refine r_get C hK hP kw_X9 (ci := 7) rfl 0 2 (by decide) kf_X9_26 rfl rfl dX9_take_25 ?_
  refine lv_iload_n C.1 C.2.1 dX9_take_28 rfl (lv_at hl 1 rfl) ?_
  refine r_iconst 0 C dX9_take_29 rfl ?_
  refine ro_callV (As := [nV xn, nV 0]) (rest := []) C hK (c_X1_part l g q q0 ce xn 0 (by first | assumption | omega) (by first | assumption | omega) (by first | assumption | omega)) (hP.sub (ws' := [(q, .inr (1, [.ref q0])), (q0, cN g 42 ce)]) [3, 4] rfl) (ci := 1) (q0 := 0) rfl rfl kc_X1_part kl_X9_146 kn_X1 ki_X1_part ke_X1_part nk_X1_part (rm_lt (by decide) (by decide)) hl rfl (Nat.le_of_ble_eq_true rfl) dX9_take_30 (fun r_7 hr_8 => ?_)
  subst hr_8
  refine lv_istore_n (lv' := [(2, nV (ce (xn * 5 + 0))), (0, .ref x0), (1, nV xn)]) C.1 C.2.1 dX9_take_33 rfl hl (by decide) rfl (fun ls hl => ?_)
  refine lv_aload_n C.1 C.2.1 dX9_take_34 rfl (lv_at hl 1 rfl) ?_
  refine r_get C hK hP kw_X9 (ci := 7) rfl 0 2 (by decide) kf_X9_26 rfl rfl dX9_take_35 ?_
  refine lv_iload_n C.1 C.2.1 dX9_take_38 rfl (lv_at hl 2 rfl) ?_
  refine wr_callVV (As := [nV xn]) (rest := []) C hK (c_X1_remove l g q q0 ce xn (by first | assumption | omega) (by first | assumption | omega)) [3, 4] rfl (fun _ => rfl) (by decide) hP hD hS hA (ci := 1) (q0 := 0) rfl rfl kc_X1_remove kl_X9_155 kn_X1 ki_X1_remove ke_X1_remove nk_X1_remove (rm_lt (by decide) (by decide)) hl rfl (Nat.le_of_ble_eq_true rfl) dX9_take_39 (fun u_11 H locs hr_10 hP hD hS => ?_)
  have hP : va_P g.1 vwCl [(x0, .inr (7, [.ref t, .ref rd0, .ref q, .ref us, .ref ks, .ref rc0, .ref se, .ref v, .ref vd])), (us, .inr (4, [nV 8, .ref ur0, nV (ssz 8 uz)])), (ur0, cN g 336 (srow ur ce 336 8 uz)), (q, .inr (1, [.ref q0])), (q0, cN g 42 (lrem ce xn))] H := hP
  have hD : va_D A [(x0, .inr (7, [.ref t, .ref rd0, .ref q, .ref us, .ref ks, .ref rc0, .ref se, .ref v, .ref vd])), (us, .inr (4, [nV 8, .ref ur0, nV (ssz 8 uz)])), (ur0, cN g 336 (srow ur ce 336 8 uz)), (q, .inr (1, [.ref q0])), (q0, cN g 42 (lrem ce xn))] := hD
  refine lv_iload_n C.1 C.2.1 dX9_take_42 rfl (lv_at hl 0 rfl) ?_
  exact ret (()) dX9_take_43 hS hP (by first | rfl | exact iI_cast (by omega) | exact congrArg lI (by omega) | omega)
set_option maxHeartbeats 4000000 in
set_option maxRecDepth 100000 in
theorem c_X9_take_no (l : Launch) (g : GG) (x0 : Nat) (t : Nat) (rd0 : Nat) (q : Nat) (us : Nat) (ks : Nat) (rc0 : Nat) (se : Nat) (v : Nat) (vd : Nat) (q0 : Nat) (ce : Nat → Nat) (x : Int) (h40 : ce 40 ≤ 8) (hno : ¬ (0 ≤ x ∧ x < (ce 40 : Int))) (hx : rg x) : ROi g l yX9_take cX9_take 3 (some .int) 5 [(x0, .inr (7, [.ref t, .ref rd0, .ref q, .ref us, .ref ks, .ref rc0, .ref se, .ref v, .ref vd])), (q, .inr (1, [.ref q0])), (q0, cN g 42 ce)] [.ref x0, zV x] (fun r => r = iI (-1)) := by
  refine ro_startI (by decide +kernel) (Nat.le_of_ble_eq_true rfl) ?_
  intro p e s m args below meth c Q ls C hK hP ret hl
  have C : CT p s m args meth c cX9_take RX9 3 := C
  have hl : lv_has ls 3 [(0, .ref x0), (1, zV x)] := hl
  refine lv_aload_n C.1 C.2.1 dX9_take_0 rfl (lv_at hl 0 rfl) ?_
  refine r_get C hK hP kw_X9 (ci := 7) rfl 0 2 (by decide) kf_X9_26 rfl rfl dX9_take_1 ?_
  refine lv_iload_n C.1 C.2.1 dX9_take_4 rfl (lv_at hl 1 rfl) ?_
  refine ro_callV (As := [zV x]) (rest := []) C hK (c_X1_holds l g q q0 ce x (by first | assumption | omega) (by first | assumption | exact ⟨by omega, by omega⟩)) (hP.sub (ws' := [(q, .inr (1, [.ref q0])), (q0, cN g 42 ce)]) [1, 2] rfl) (ci := 1) (q0 := 0) rfl rfl kc_X1_holds kl_X9_149 kn_X1 ki_X1_holds ke_X1_holds nk_X1_holds (rm_lt (by decide) (by decide)) hl rfl (Nat.le_of_ble_eq_true rfl) dX9_take_5 (fun r_1 hr_2 => ?_)
  subst hr_2
  refine r_bne 13 C dX9_take_8 rfl (fun h_3 => ?_) (fun h_3 => ?_)
  · exact absurd h_3 (by omega)
  refine r_iconstZ C dX9_take_11 ?_
  exact ret dX9_take_12 (by first | rfl | exact iI_cast (by omega) | exact congrArg lI (by omega) | omega)
set_option maxHeartbeats 4000000 in
set_option maxRecDepth 100000 in
theorem c_X9_undo_ok (l : Launch) (g : GG) (x0 : Nat) (t : Nat) (rd0 : Nat) (q : Nat) (us : Nat) (ks : Nat) (rc0 : Nat) (se : Nat) (v : Nat) (vd : Nat) (ur0 : Nat) (ur : Nat → Nat) (uz : Nat) (q0 : Nat) (ce : Nat → Nat) (huz : uz ≤ 8) (hz : 1 ≤ uz) : WRi g l yX9_undo cX9_undo 1 (some .int) 5 [(x0, .inr (7, [.ref t, .ref rd0, .ref q, .ref us, .ref ks, .ref rc0, .ref se, .ref v, .ref vd])), (us, .inr (4, [nV 8, .ref ur0, nV uz])), (ur0, cN g 336 ur), (q, .inr (1, [.ref q0])), (q0, cN g 42 ce)] [.ref x0] (fun r (_ : Unit) => r = iI ((uz - 1 : Nat) : Int)) (fun (_ : Unit) => [(x0, .inr (7, [.ref t, .ref rd0, .ref q, .ref us, .ref ks, .ref rc0, .ref se, .ref v, .ref vd])), (us, .inr (4, [nV 8, .ref ur0, nV (uz - 1)])), (ur0, cN g 336 ur), (q, .inr (1, [.ref q0])), (q0, cN g 42 (va_cpy ur ce ((uz - 1) * 42) 0 42))]) := by
  refine wr_startI (by decide +kernel) (Nat.le_of_ble_eq_true rfl) ?_
  intro p e s m args below meth c Q A ls C hK hA ret hP hD hS hl
  have C : CT p s m args meth c cX9_undo RX9 1 := C
  have hl : lv_has ls 1 [(0, .ref x0)] := hl
  refine lv_aload_n C.1 C.2.1 dX9_undo_0 rfl (lv_at hl 0 rfl) ?_
  refine r_get C hK hP kw_X9 (ci := 7) rfl 0 3 (by decide) kf_X9_35 rfl rfl dX9_undo_1 ?_
  refine ro_callV (As := []) (rest := []) C hK (c_X5_size l g us ur0 8 uz) (hP.sub (ws' := [(us, .inr (4, [nV 8, .ref ur0, nV uz]))]) [1] rfl) (ci := 4) (q0 := 0) rfl rfl kc_X5_size kl_X9_158 kn_X5 ki_X5_size ke_X5_size nk_X5_size (rm_lt (by decide) (by decide)) hl rfl (Nat.le_of_ble_eq_true rfl) dX9_undo_4 (fun r_1 hr_2 => ?_)
  subst hr_2
  refine r_ine 13 C dX9_undo_7 rfl (rgN (by omega)) (fun h_3 => ?_) (fun h_3 => ?_)
  rotate_left
  · exact absurd h_3 (by omega)
  refine lv_aload_n C.1 C.2.1 dX9_undo_13 rfl (lv_at hl 0 rfl) ?_
  refine r_get C hK hP kw_X9 (ci := 7) rfl 0 3 (by decide) kf_X9_35 rfl rfl dX9_undo_14 ?_
  refine lv_aload_n C.1 C.2.1 dX9_undo_17 rfl (lv_at hl 0 rfl) ?_
  refine r_get C hK hP kw_X9 (ci := 7) rfl 0 2 (by decide) kf_X9_26 rfl rfl dX9_undo_18 ?_
  refine wr_callVV (As := [.ref q]) (rest := []) C hK (c_X5_popInto l g us ur0 336 ur 8 uz q q0 ce (by omega) (rfl) (by first | assumption | omega)) [1, 2, 3, 4] rfl (fun _ => rfl) (by decide) hP hD hS hA (ci := 4) (q0 := 0) rfl rfl kc_X5_popInto kl_X9_159 kn_X5 ki_X5_popInto ke_X5_popInto nk_X5_popInto (rm_lt (by decide) (by decide)) hl rfl (Nat.le_of_ble_eq_true rfl) dX9_undo_21 (fun u_6 H locs hr_5 hP hD hS => ?_)
  have hP : va_P g.1 vwCl [(x0, .inr (7, [.ref t, .ref rd0, .ref q, .ref us, .ref ks, .ref rc0, .ref se, .ref v, .ref vd])), (us, .inr (4, [nV 8, .ref ur0, nV (uz - 1)])), (ur0, cN g 336 ur), (q, .inr (1, [.ref q0])), (q0, cN g 42 (va_cpy ur ce ((uz - 1) * 42) 0 42))] H := hP
  have hD : va_D A [(x0, .inr (7, [.ref t, .ref rd0, .ref q, .ref us, .ref ks, .ref rc0, .ref se, .ref v, .ref vd])), (us, .inr (4, [nV 8, .ref ur0, nV (uz - 1)])), (ur0, cN g 336 ur), (q, .inr (1, [.ref q0])), (q0, cN g 42 (va_cpy ur ce ((uz - 1) * 42) 0 42))] := hD
  refine lv_aload_n C.1 C.2.1 dX9_undo_24 rfl (lv_at hl 0 rfl) ?_
  refine r_get C hK hP kw_X9 (ci := 7) rfl 0 3 (by decide) kf_X9_35 rfl rfl dX9_undo_25 ?_
  refine ro_callV (As := []) (rest := []) C hK (c_X5_size l g us ur0 8 (uz - 1)) (hP.sub (ws' := [(us, .inr (4, [nV 8, .ref ur0, nV (uz - 1)]))]) [1] rfl) (ci := 4) (q0 := 0) rfl rfl kc_X5_size kl_X9_158 kn_X5 ki_X5_size ke_X5_size nk_X5_size (rm_lt (by decide) (by decide)) hl rfl (Nat.le_of_ble_eq_true rfl) dX9_undo_28 (fun r_7 hr_8 => ?_)
  subst hr_8
  exact ret (()) dX9_undo_31 hS hP (by first | rfl | exact iI_cast (by omega) | exact congrArg lI (by omega) | omega)
set_option maxHeartbeats 4000000 in
set_option maxRecDepth 100000 in
theorem c_X9_undo_no (l : Launch) (g : GG) (x0 : Nat) (t : Nat) (rd0 : Nat) (q : Nat) (us : Nat) (ks : Nat) (rc0 : Nat) (se : Nat) (v : Nat) (vd : Nat) (ur0 : Nat) (uz : Nat) (hz : uz = 0) : ROi g l yX9_undo cX9_undo 1 (some .int) 5 [(x0, .inr (7, [.ref t, .ref rd0, .ref q, .ref us, .ref ks, .ref rc0, .ref se, .ref v, .ref vd])), (us, .inr (4, [nV 8, .ref ur0, nV uz]))] [.ref x0] (fun r => r = iI (-2)) := by
  refine ro_startI (by decide +kernel) (Nat.le_of_ble_eq_true rfl) ?_
  intro p e s m args below meth c Q ls C hK hP ret hl
  have C : CT p s m args meth c cX9_undo RX9 1 := C
  have hl : lv_has ls 1 [(0, .ref x0)] := hl
  refine lv_aload_n C.1 C.2.1 dX9_undo_0 rfl (lv_at hl 0 rfl) ?_
  refine r_get C hK hP kw_X9 (ci := 7) rfl 0 3 (by decide) kf_X9_35 rfl rfl dX9_undo_1 ?_
  refine ro_callV (As := []) (rest := []) C hK (c_X5_size l g us ur0 8 uz) (hP.sub (ws' := [(us, .inr (4, [nV 8, .ref ur0, nV uz]))]) [1] rfl) (ci := 4) (q0 := 0) rfl rfl kc_X5_size kl_X9_158 kn_X5 ki_X5_size ke_X5_size nk_X5_size (rm_lt (by decide) (by decide)) hl rfl (Nat.le_of_ble_eq_true rfl) dX9_undo_4 (fun r_1 hr_2 => ?_)
  subst hr_2
  refine r_ine 13 C dX9_undo_7 rfl (rgN (by omega)) (fun h_3 => ?_) (fun h_3 => ?_)
  · exact absurd h_3 (by omega)
  refine r_bipushZ C dX9_undo_10 (by decide) ?_
  exact ret dX9_undo_12 (by first | rfl | exact iI_cast (by omega) | exact congrArg lI (by omega) | omega)
set_option maxHeartbeats 4000000 in
set_option maxRecDepth 100000 in
theorem c_X9_keep_ok (l : Launch) (g : GG) (x0 : Nat) (t : Nat) (rd0 : Nat) (q : Nat) (us : Nat) (ks : Nat) (rc0 : Nat) (se : Nat) (v : Nat) (vd : Nat) (kr0 : Nat) (kr : Nat → Nat) (kz : Nat) (q0 : Nat) (ce : Nat → Nat) (hz : kz < 2) : WRi g l yX9_keep cX9_keep 1 (some .int) 5 [(x0, .inr (7, [.ref t, .ref rd0, .ref q, .ref us, .ref ks, .ref rc0, .ref se, .ref v, .ref vd])), (ks, .inr (4, [nV 2, .ref kr0, nV kz])), (kr0, cN g 84 kr), (q, .inr (1, [.ref q0])), (q0, cN g 42 ce)] [.ref x0] (fun r (_ : Unit) => r = iI ((kz + 1 : Nat) : Int)) (fun (_ : Unit) => [(x0, .inr (7, [.ref t, .ref rd0, .ref q, .ref us, .ref ks, .ref rc0, .ref se, .ref v, .ref vd])), (ks, .inr (4, [nV 2, .ref kr0, nV (kz + 1)])), (kr0, cN g 84 (va_cpy ce kr 0 (kz * 42) 42)), (q, .inr (1, [.ref q0])), (q0, cN g 42 ce)]) := by
  refine wr_startI (by decide +kernel) (Nat.le_of_ble_eq_true rfl) ?_
  intro p e s m args below meth c Q A ls C hK hA ret hP hD hS hl
  have C : CT p s m args meth c cX9_keep RX9 1 := C
  have hl : lv_has ls 1 [(0, .ref x0)] := hl
  refine lv_aload_n C.1 C.2.1 dX9_keep_0 rfl (lv_at hl 0 rfl) ?_
  refine r_get C hK hP kw_X9 (ci := 7) rfl 0 4 (by decide) kf_X9_39 rfl rfl dX9_keep_1 ?_
  refine ro_callV (As := []) (rest := []) C hK (c_X5_isFull l g ks kr0 2 kz (by first | assumption | omega)) (hP.sub (ws' := [(ks, .inr (4, [nV 2, .ref kr0, nV kz]))]) [1] rfl) (ci := 4) (q0 := 0) rfl rfl kc_X5_isFull kl_X9_260 kn_X5 ki_X5_isFull ke_X5_isFull nk_X5_isFull (rm_lt (by decide) (by decide)) hl rfl (Nat.le_of_ble_eq_true rfl) dX9_keep_4 (fun r_1 hr_2 => ?_)
  subst hr_2
  refine r_beq 13 C dX9_keep_7 rfl (fun h_3 => ?_) (fun h_3 => ?_)
  rotate_left
  · exact absurd h_3 (by omega)
  refine lv_aload_n C.1 C.2.1 dX9_keep_13 rfl (lv_at hl 0 rfl) ?_
  refine r_get C hK hP kw_X9 (ci := 7) rfl 0 4 (by decide) kf_X9_39 rfl rfl dX9_keep_14 ?_
  refine lv_aload_n C.1 C.2.1 dX9_keep_17 rfl (lv_at hl 0 rfl) ?_
  refine r_get C hK hP kw_X9 (ci := 7) rfl 0 2 (by decide) kf_X9_26 rfl rfl dX9_keep_18 ?_
  refine wr_callVV (As := [.ref q]) (rest := []) C hK (c_X5_push l g ks kr0 84 kr 2 kz q q0 ce (by omega) (rfl)) [1, 2, 3, 4] rfl (fun _ => rfl) (by decide) hP hD hS hA (ci := 4) (q0 := 0) rfl rfl kc_X5_push kl_X9_119 kn_X5 ki_X5_push ke_X5_push nk_X5_push (rm_lt (by decide) (by decide)) hl rfl (Nat.le_of_ble_eq_true rfl) dX9_keep_21 (fun u_6 H locs hr_5 hP hD hS => ?_)
  have hP : va_P g.1 vwCl [(x0, .inr (7, [.ref t, .ref rd0, .ref q, .ref us, .ref ks, .ref rc0, .ref se, .ref v, .ref vd])), (ks, .inr (4, [nV 2, .ref kr0, nV (ssz 2 kz)])), (kr0, cN g 84 (srow kr ce 84 2 kz)), (q, .inr (1, [.ref q0])), (q0, cN g 42 ce)] H := hP
  have hD : va_D A [(x0, .inr (7, [.ref t, .ref rd0, .ref q, .ref us, .ref ks, .ref rc0, .ref se, .ref v, .ref vd])), (ks, .inr (4, [nV 2, .ref kr0, nV (ssz 2 kz)])), (kr0, cN g 84 (srow kr ce 84 2 kz)), (q, .inr (1, [.ref q0])), (q0, cN g 42 ce)] := hD
  refine lv_aload_n C.1 C.2.1 dX9_keep_24 rfl (lv_at hl 0 rfl) ?_
  refine r_get C hK hP kw_X9 (ci := 7) rfl 0 4 (by decide) kf_X9_39 rfl rfl dX9_keep_25 ?_
  refine ro_callV (As := []) (rest := []) C hK (c_X5_size l g ks kr0 2 (ssz 2 kz)) (hP.sub (ws' := [(ks, .inr (4, [nV 2, .ref kr0, nV (ssz 2 kz)]))]) [1] rfl) (ci := 4) (q0 := 0) rfl rfl kc_X5_size kl_X9_158 kn_X5 ki_X5_size ke_X5_size nk_X5_size (rm_lt (by decide) (by decide)) hl rfl (Nat.le_of_ble_eq_true rfl) dX9_keep_28 (fun r_7 hr_8 => ?_)
  subst hr_8
  exact ret (()) dX9_keep_31 hS (by unfold srow ssz at hP; rw [if_neg (by omega), if_neg (by omega)] at hP; exact hP) (by unfold ssz; rw [if_neg (by omega)])
set_option maxHeartbeats 4000000 in
set_option maxRecDepth 100000 in
theorem c_X9_keep_no (l : Launch) (g : GG) (x0 : Nat) (t : Nat) (rd0 : Nat) (q : Nat) (us : Nat) (ks : Nat) (rc0 : Nat) (se : Nat) (v : Nat) (vd : Nat) (kr0 : Nat) (kz : Nat) (hz : kz = 2) : ROi g l yX9_keep cX9_keep 1 (some .int) 5 [(x0, .inr (7, [.ref t, .ref rd0, .ref q, .ref us, .ref ks, .ref rc0, .ref se, .ref v, .ref vd])), (ks, .inr (4, [nV 2, .ref kr0, nV kz]))] [.ref x0] (fun r => r = iI (-3)) := by
  refine ro_startI (by decide +kernel) (Nat.le_of_ble_eq_true rfl) ?_
  intro p e s m args below meth c Q ls C hK hP ret hl
  have C : CT p s m args meth c cX9_keep RX9 1 := C
  have hl : lv_has ls 1 [(0, .ref x0)] := hl
  refine lv_aload_n C.1 C.2.1 dX9_keep_0 rfl (lv_at hl 0 rfl) ?_
  refine r_get C hK hP kw_X9 (ci := 7) rfl 0 4 (by decide) kf_X9_39 rfl rfl dX9_keep_1 ?_
  refine ro_callV (As := []) (rest := []) C hK (c_X5_isFull l g ks kr0 2 kz (by first | assumption | omega)) (hP.sub (ws' := [(ks, .inr (4, [nV 2, .ref kr0, nV kz]))]) [1] rfl) (ci := 4) (q0 := 0) rfl rfl kc_X5_isFull kl_X9_260 kn_X5 ki_X5_isFull ke_X5_isFull nk_X5_isFull (rm_lt (by decide) (by decide)) hl rfl (Nat.le_of_ble_eq_true rfl) dX9_keep_4 (fun r_1 hr_2 => ?_)
  subst hr_2
  refine r_beq 13 C dX9_keep_7 rfl (fun h_3 => ?_) (fun h_3 => ?_)
  · exact absurd h_3 (by omega)
  refine r_bipushZ C dX9_keep_10 (by decide) ?_
  exact ret dX9_keep_12 (by first | rfl | exact iI_cast (by omega) | exact congrArg lI (by omega) | omega)
set_option maxHeartbeats 4000000 in
set_option maxRecDepth 100000 in
theorem c_X9_back_ok (l : Launch) (g : GG) (x0 : Nat) (t : Nat) (rd0 : Nat) (q : Nat) (us : Nat) (ks : Nat) (rc0 : Nat) (se : Nat) (v : Nat) (vd : Nat) (kr0 : Nat) (kr : Nat → Nat) (kz : Nat) (q0 : Nat) (ce : Nat → Nat) (ur0 : Nat) (uz : Nat) (hz : 1 ≤ kz ∧ kz ≤ 2) : WRi g l yX9_back cX9_back 1 (some .int) 5 [(x0, .inr (7, [.ref t, .ref rd0, .ref q, .ref us, .ref ks, .ref rc0, .ref se, .ref v, .ref vd])), (ks, .inr (4, [nV 2, .ref kr0, nV kz])), (kr0, cN g 84 kr), (q, .inr (1, [.ref q0])), (q0, cN g 42 ce), (us, .inr (4, [nV 8, .ref ur0, nV uz]))] [.ref x0] (fun r (_ : Unit) => r = iI ((kz - 1 : Nat) : Int)) (fun (_ : Unit) => [(x0, .inr (7, [.ref t, .ref rd0, .ref q, .ref us, .ref ks, .ref rc0, .ref se, .ref v, .ref vd])), (ks, .inr (4, [nV 2, .ref kr0, nV (kz - 1)])), (kr0, cN g 84 kr), (q, .inr (1, [.ref q0])), (q0, cN g 42 (va_cpy kr ce ((kz - 1) * 42) 0 42)), (us, .inr (4, [nV 8, .ref ur0, nV 0]))]) := by
  refine wr_startI (by decide +kernel) (Nat.le_of_ble_eq_true rfl) ?_
  intro p e s m args below meth c Q A ls C hK hA ret hP hD hS hl
  have C : CT p s m args meth c cX9_back RX9 1 := C
  have hl : lv_has ls 1 [(0, .ref x0)] := hl
  refine lv_aload_n C.1 C.2.1 dX9_back_0 rfl (lv_at hl 0 rfl) ?_
  refine r_get C hK hP kw_X9 (ci := 7) rfl 0 4 (by decide) kf_X9_39 rfl rfl dX9_back_1 ?_
  refine ro_callV (As := []) (rest := []) C hK (c_X5_size l g ks kr0 2 kz) (hP.sub (ws' := [(ks, .inr (4, [nV 2, .ref kr0, nV kz]))]) [1] rfl) (ci := 4) (q0 := 0) rfl rfl kc_X5_size kl_X9_158 kn_X5 ki_X5_size ke_X5_size nk_X5_size (rm_lt (by decide) (by decide)) hl rfl (Nat.le_of_ble_eq_true rfl) dX9_back_4 (fun r_1 hr_2 => ?_)
  subst hr_2
  refine r_ine 13 C dX9_back_7 rfl (rgN (by omega)) (fun h_3 => ?_) (fun h_3 => ?_)
  rotate_left
  · exact absurd h_3 (by omega)
  refine lv_aload_n C.1 C.2.1 dX9_back_13 rfl (lv_at hl 0 rfl) ?_
  refine r_get C hK hP kw_X9 (ci := 7) rfl 0 4 (by decide) kf_X9_39 rfl rfl dX9_back_14 ?_
  refine lv_aload_n C.1 C.2.1 dX9_back_17 rfl (lv_at hl 0 rfl) ?_
  refine r_get C hK hP kw_X9 (ci := 7) rfl 0 2 (by decide) kf_X9_26 rfl rfl dX9_back_18 ?_
  refine wr_callVV (As := [.ref q]) (rest := []) C hK (c_X5_popInto l g ks kr0 84 kr 2 kz q q0 ce (by omega) (rfl) (by first | assumption | omega)) [1, 2, 3, 4] rfl (fun _ => rfl) (by decide) hP hD hS hA (ci := 4) (q0 := 0) rfl rfl kc_X5_popInto kl_X9_159 kn_X5 ki_X5_popInto ke_X5_popInto nk_X5_popInto (rm_lt (by decide) (by decide)) hl rfl (Nat.le_of_ble_eq_true rfl) dX9_back_21 (fun u_6 H locs hr_5 hP hD hS => ?_)
  have hP : va_P g.1 vwCl [(x0, .inr (7, [.ref t, .ref rd0, .ref q, .ref us, .ref ks, .ref rc0, .ref se, .ref v, .ref vd])), (ks, .inr (4, [nV 2, .ref kr0, nV (kz - 1)])), (kr0, cN g 84 kr), (q, .inr (1, [.ref q0])), (q0, cN g 42 (va_cpy kr ce ((kz - 1) * 42) 0 42)), (us, .inr (4, [nV 8, .ref ur0, nV uz]))] H := hP
  have hD : va_D A [(x0, .inr (7, [.ref t, .ref rd0, .ref q, .ref us, .ref ks, .ref rc0, .ref se, .ref v, .ref vd])), (ks, .inr (4, [nV 2, .ref kr0, nV (kz - 1)])), (kr0, cN g 84 kr), (q, .inr (1, [.ref q0])), (q0, cN g 42 (va_cpy kr ce ((kz - 1) * 42) 0 42)), (us, .inr (4, [nV 8, .ref ur0, nV uz]))] := hD
  refine lv_aload_n C.1 C.2.1 dX9_back_24 rfl (lv_at hl 0 rfl) ?_
  refine r_get C hK hP kw_X9 (ci := 7) rfl 0 3 (by decide) kf_X9_35 rfl rfl dX9_back_25 ?_
  refine wr_callVV (As := []) (rest := []) C hK (c_X5_clear l g us ur0 8 uz) [5] rfl (fun _ => rfl) (by decide) hP hD hS hA (ci := 4) (q0 := 0) rfl rfl kc_X5_clear kl_X9_99 kn_X5 ki_X5_clear ke_X5_clear nk_X5_clear (rm_lt (by decide) (by decide)) hl rfl (Nat.le_of_ble_eq_true rfl) dX9_back_28 (fun u_9 H locs hr_8 hP hD hS => ?_)
  have hP : va_P g.1 vwCl [(x0, .inr (7, [.ref t, .ref rd0, .ref q, .ref us, .ref ks, .ref rc0, .ref se, .ref v, .ref vd])), (ks, .inr (4, [nV 2, .ref kr0, nV (kz - 1)])), (kr0, cN g 84 kr), (q, .inr (1, [.ref q0])), (q0, cN g 42 (va_cpy kr ce ((kz - 1) * 42) 0 42)), (us, .inr (4, [nV 8, .ref ur0, nV 0]))] H := hP
  have hD : va_D A [(x0, .inr (7, [.ref t, .ref rd0, .ref q, .ref us, .ref ks, .ref rc0, .ref se, .ref v, .ref vd])), (ks, .inr (4, [nV 2, .ref kr0, nV (kz - 1)])), (kr0, cN g 84 kr), (q, .inr (1, [.ref q0])), (q0, cN g 42 (va_cpy kr ce ((kz - 1) * 42) 0 42)), (us, .inr (4, [nV 8, .ref ur0, nV 0]))] := hD
  refine lv_aload_n C.1 C.2.1 dX9_back_31 rfl (lv_at hl 0 rfl) ?_
  refine r_get C hK hP kw_X9 (ci := 7) rfl 0 4 (by decide) kf_X9_39 rfl rfl dX9_back_32 ?_
  refine ro_callV (As := []) (rest := []) C hK (c_X5_size l g ks kr0 2 (kz - 1)) (hP.sub (ws' := [(ks, .inr (4, [nV 2, .ref kr0, nV (kz - 1)]))]) [1] rfl) (ci := 4) (q0 := 0) rfl rfl kc_X5_size kl_X9_158 kn_X5 ki_X5_size ke_X5_size nk_X5_size (rm_lt (by decide) (by decide)) hl rfl (Nat.le_of_ble_eq_true rfl) dX9_back_35 (fun r_10 hr_11 => ?_)
  subst hr_11
  exact ret (()) dX9_back_38 hS hP (by first | rfl | exact iI_cast (by omega) | exact congrArg lI (by omega) | omega)
set_option maxHeartbeats 4000000 in
set_option maxRecDepth 100000 in
theorem c_X9_back_no (l : Launch) (g : GG) (x0 : Nat) (t : Nat) (rd0 : Nat) (q : Nat) (us : Nat) (ks : Nat) (rc0 : Nat) (se : Nat) (v : Nat) (vd : Nat) (kr0 : Nat) (kz : Nat) (hz : kz = 0) : ROi g l yX9_back cX9_back 1 (some .int) 5 [(x0, .inr (7, [.ref t, .ref rd0, .ref q, .ref us, .ref ks, .ref rc0, .ref se, .ref v, .ref vd])), (ks, .inr (4, [nV 2, .ref kr0, nV kz]))] [.ref x0] (fun r => r = iI (-2)) := by
  refine ro_startI (by decide +kernel) (Nat.le_of_ble_eq_true rfl) ?_
  intro p e s m args below meth c Q ls C hK hP ret hl
  have C : CT p s m args meth c cX9_back RX9 1 := C
  have hl : lv_has ls 1 [(0, .ref x0)] := hl
  refine lv_aload_n C.1 C.2.1 dX9_back_0 rfl (lv_at hl 0 rfl) ?_
  refine r_get C hK hP kw_X9 (ci := 7) rfl 0 4 (by decide) kf_X9_39 rfl rfl dX9_back_1 ?_
  refine ro_callV (As := []) (rest := []) C hK (c_X5_size l g ks kr0 2 kz) (hP.sub (ws' := [(ks, .inr (4, [nV 2, .ref kr0, nV kz]))]) [1] rfl) (ci := 4) (q0 := 0) rfl rfl kc_X5_size kl_X9_158 kn_X5 ki_X5_size ke_X5_size nk_X5_size (rm_lt (by decide) (by decide)) hl rfl (Nat.le_of_ble_eq_true rfl) dX9_back_4 (fun r_1 hr_2 => ?_)
  subst hr_2
  refine r_ine 13 C dX9_back_7 rfl (rgN (by omega)) (fun h_3 => ?_) (fun h_3 => ?_)
  · exact absurd h_3 (by omega)
  refine r_bipushZ C dX9_back_10 (by decide) ?_
  exact ret dX9_back_12 (by first | rfl | exact iI_cast (by omega) | exact congrArg lI (by omega) | omega)
