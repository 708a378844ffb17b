set_option maxHeartbeats 4000000 in
set_option maxRecDepth 100000 in
theorem c_X4_isFigure (l : Launch) (g : GG) (x : Int) (hx : rg x) : ROi g l yX4_isFigure cX4_isFigure 1 (some .boolean) 2 [] [zV x] (fun r => r = bI (48 ≤ x ∧ x ≤ 57)) := by
  refine ro_startZ (by decide +kernel) (Nat.le_of_ble_eq_true rfl) ?_
  intro p e s m args below meth c Q ls C hK hP ret hl
  have C : CT p s m args meth c cX4_isFigure RX4 1 := C
  have hl : lv_has ls 1 [(0, zV x)] := hl
  refine lv_iload_n C.1 C.2.1 dX4_isFigure_0 rfl (lv_at hl 0 rfl) ?_
  refine r_bipush 48 C dX4_isFigure_1 (by decide) ?_
  refine r_bipush 57 C dX4_isFigure_3 (by decide) ?_
  refine ro_callSN (As := [zV x, nV 48, nV 57]) (rest := []) C hK (c_X9_within l g x ((48 : Nat) : Int) ((57 : Nat) : Int) (hx) (by decide) (by decide)) hP kc_X9_within kx_X4_64 kn_X9 ks_X9_within nk_X9_within (rm_lt (by decide) (by decide)) hl rfl (Nat.le_of_ble_eq_true rfl) dX4_isFigure_5 (fun r_1 hr_2 => ?_)
  subst hr_2
  exact ret dX4_isFigure_8 bI_nar (rfl)
set_option maxHeartbeats 4000000 in
set_option maxRecDepth 100000 in
theorem c_X4_readNumber (l : Launch) (g : GG) (rd0 : Nat) (rd1 : Nat) (x : Nat) (t : Nat) (t0 : Nat) (u : Nat → Nat) (Lt : Nat) (hux : ∀ j, u j < 256) (hLt : Lt ≤ 300) (hx : x < 1000) : WRi g l yX4_readNumber cX4_readNumber 4 (some .int) 3 [(rd0, .inr (3, [.ref rd1, nV x])), (t, .inr (5, [.ref t0, nV Lt])), (t0, cB g 300 u)] [.ref rd0, .ref t] (fun r (_ : Unit) => r = iI (rnI u Lt x)) (fun (_ : Unit) => [(rd0, .inr (3, [.ref rd1, nV (rnP u Lt x)])), (t, .inr (5, [.ref t0, nV Lt])), (t0, cB g 300 u)]) := by
  refine wr_startI (by decide +kernel) (Nat.le_of_ble_eq_true rfl) ?_
  intro p e s m args below meth c Q A ls C hK hA ret hP hD hS hl
  have C : CT p s m args meth c cX4_readNumber RX4 4 := C
  have hl : lv_has ls 4 [(0, .ref rd0), (1, .ref t)] := hl
  refine lv_aload_n C.1 C.2.1 dX4_readNumber_0 rfl (lv_at hl 1 rfl) ?_
  refine lv_aload_n C.1 C.2.1 dX4_readNumber_1 rfl (lv_at hl 0 rfl) ?_
  refine r_get C hK hP kw_X4 (ci := 3) rfl 0 1 (by decide) kf_X4_20 rfl rfl dX4_readNumber_2 ?_
  refine ro_callV (As := [nV x]) (rest := []) C hK (c_X7_byteAt l g t t0 u Lt x (by first | assumption | omega) (by first | assumption | omega) (by first | assumption | omega)) (hP.sub (ws' := [(t, .inr (5, [.ref t0, nV Lt])), (t0, cB g 300 u)]) [1, 2] rfl) (ci := 5) (q0 := 0) rfl rfl kc_X7_byteAt kl_X4_34 kn_X7 ki_X7_byteAt ke_X7_byteAt nk_X7_byteAt (rm_lt (by decide) (by decide)) hl rfl (Nat.le_of_ble_eq_true rfl) dX4_readNumber_5 (fun r_1 hr_2 => ?_)
  subst hr_2
  have hf_3 := chr_bd u Lt (x) hux
  refine lv_istore_n (lv' := [(2, zV (chr u Lt x)), (0, .ref rd0), (1, .ref t)]) C.1 C.2.1 dX4_readNumber_8 rfl hl (by decide) rfl (fun ls hl => ?_)
  refine lv_iload_n C.1 C.2.1 dX4_readNumber_9 rfl (lv_at hl 0 rfl) ?_
  refine ro_callS (As := [zV (chr u Lt x)]) (rest := []) C hK (c_X4_isFigure l g (chr u Lt x) (by first | assumption | exact ⟨by omega, by omega⟩)) (hP.sub (ws' := []) [] rfl) kc_X4_isFigure kl_X4_61 kn_X4 ks_X4_isFigure nk_X4_isFigure (rm_lt (by decide) (by decide)) hl rfl (Nat.le_of_ble_eq_true rfl) dX4_readNumber_10 (fun r_4 hr_5 => ?_)
  subst hr_5
  refine r_bne 19 C dX4_readNumber_13 rfl (fun g1 => ?_) (fun g1 => ?_)
  · skip
    refine lv_aload_n C.1 C.2.1 dX4_readNumber_19 rfl (lv_at hl 1 rfl) ?_
    refine lv_dup C.1 C.2.1 dX4_readNumber_20 rfl ?_
    refine r_get C hK hP kw_X4 (ci := 3) rfl 0 1 (by decide) kf_X4_20 rfl rfl dX4_readNumber_21 ?_
    refine r_iconst 1 C dX4_readNumber_24 rfl ?_
    refine r_addN C dX4_readNumber_25 ?_
    refine r_put (v := nV (x + 1)) C hK hP hD hS kw_X4 tyX4_ok nmX4 (ci := 3) rfl 0 1 (by decide) kf_X4_20 rfl rfl rfl rfl rfl (Nat.le_of_ble_eq_true rfl) dX4_readNumber_26 (fun H locs hP hD hS => ?_)
    have hP : va_P g.1 vwCl [(rd0, .inr (3, [.ref rd1, nV (x + 1)])), (t, .inr (5, [.ref t0, nV Lt])), (t0, cB g 300 u)] H := hP
    have hD : va_D A [(rd0, .inr (3, [.ref rd1, nV (x + 1)])), (t, .inr (5, [.ref t0, nV Lt])), (t0, cB g 300 u)] := hD
    refine lv_aload_n C.1 C.2.1 dX4_readNumber_29 rfl (lv_at hl 2 rfl) ?_
    refine lv_aload_n C.1 C.2.1 dX4_readNumber_30 rfl (lv_at hl 1 rfl) ?_
    refine r_get C hK hP kw_X4 (ci := 3) rfl 0 1 (by decide) kf_X4_20 rfl rfl dX4_readNumber_31 ?_
    refine ro_callV (As := [nV (x + 1)]) (rest := []) C hK (c_X7_byteAt l g t t0 u Lt (x + 1) (by first | assumption | omega) (by first | assumption | omega) (by first | assumption | omega)) (hP.sub (ws' := [(t, .inr (5, [.ref t0, nV Lt])), (t0, cB g 300 u)]) [1, 2] rfl) (ci := 5) (q0 := 0) rfl rfl kc_X7_byteAt kl_X4_34 kn_X7 ki_X7_byteAt ke_X7_byteAt nk_X7_byteAt (rm_lt (by decide) (by decide)) hl rfl (Nat.le_of_ble_eq_true rfl) dX4_readNumber_34 (fun r_6 hr_7 => ?_)
    subst hr_7
    have hf_8 := chr_bd u Lt ((x + 1)) hux
    refine lv_istore_n (lv' := [(3, zV (chr u Lt (x + 1))), (2, zV (chr u Lt x)), (0, .ref rd0), (1, .ref t)]) C.1 C.2.1 dX4_readNumber_37 rfl hl (by decide) rfl (fun ls hl => ?_)
    refine lv_iload_n C.1 C.2.1 dX4_readNumber_38 rfl (lv_at hl 0 rfl) ?_
    refine ro_callS (As := [zV (chr u Lt (x + 1))]) (rest := []) C hK (c_X4_isFigure l g (chr u Lt (x + 1)) (by first | assumption | exact ⟨by omega, by omega⟩)) (hP.sub (ws' := []) [] rfl) kc_X4_isFigure kl_X4_61 kn_X4 ks_X4_isFigure nk_X4_isFigure (rm_lt (by decide) (by decide)) hl rfl (Nat.le_of_ble_eq_true rfl) dX4_readNumber_39 (fun r_9 hr_10 => ?_)
    subst hr_10
    refine r_bne 50 C dX4_readNumber_42 rfl (fun g2 => ?_) (fun g2 => ?_)
    · skip
      refine lv_aload_n C.1 C.2.1 dX4_readNumber_50 rfl (lv_at hl 2 rfl) ?_
      refine lv_dup C.1 C.2.1 dX4_readNumber_51 rfl ?_
      refine r_get C hK hP kw_X4 (ci := 3) rfl 0 1 (by decide) kf_X4_20 rfl rfl dX4_readNumber_52 ?_
      refine r_iconst 1 C dX4_readNumber_55 rfl ?_
      refine r_addN C dX4_readNumber_56 ?_
      refine r_put (v := nV ((x + 1) + 1)) C hK hP hD hS kw_X4 tyX4_ok nmX4 (ci := 3) rfl 0 1 (by decide) kf_X4_20 rfl rfl rfl rfl rfl (Nat.le_of_ble_eq_true rfl) dX4_readNumber_57 (fun H locs hP hD hS => ?_)
      have hP : va_P g.1 vwCl [(rd0, .inr (3, [.ref rd1, nV ((x + 1) + 1)])), (t, .inr (5, [.ref t0, nV Lt])), (t0, cB g 300 u)] H := hP
      have hD : va_D A [(rd0, .inr (3, [.ref rd1, nV ((x + 1) + 1)])), (t, .inr (5, [.ref t0, nV Lt])), (t0, cB g 300 u)] := hD
      refine r_bipush 10 C dX4_readNumber_60 (by decide) ?_
      refine lv_iload_n C.1 C.2.1 dX4_readNumber_62 rfl (lv_at hl 1 rfl) ?_
      refine r_bipush 48 C dX4_readNumber_63 (by decide) ?_
      refine r_subZ C dX4_readNumber_65 ?_
      refine r_mulZ C dX4_readNumber_66 ?_
      refine lv_iload_n C.1 C.2.1 dX4_readNumber_67 rfl (lv_at hl 0 rfl) ?_
      refine r_addZ C dX4_readNumber_68 ?_
      refine r_bipush 48 C dX4_readNumber_69 (by decide) ?_
      refine r_subZ C dX4_readNumber_71 ?_
      exact ret (()) dX4_readNumber_72 hS (by rw [(rn2 g1 g2).2]; exact hP) (iI_cast ((rn2 g1 g2).1.trans rfl).symm)
    refine lv_iload_n C.1 C.2.1 dX4_readNumber_45 rfl (lv_at hl 1 rfl) ?_
    refine r_bipush 48 C dX4_readNumber_46 (by decide) ?_
    refine r_subZ C dX4_readNumber_48 ?_
    exact ret (()) dX4_readNumber_49 hS (by rw [(rn1 g1 g2).2]; exact hP) (iI_cast ((rn1 g1 g2).1.trans rfl).symm)
  refine r_bipushZ C dX4_readNumber_16 (by decide) ?_
  exact ret (()) dX4_readNumber_18 hS (by rw [(rn0 g1).2]; exact hP) (iI_cast (rn0 g1).1.symm)
set_option maxHeartbeats 4000000 in
set_option maxRecDepth 100000 in
theorem c_X4_readNumbers (l : Launch) (g : GG) (rd0 : Nat) (rd1 : Nat) (x : Nat) (nu : Nat → Nat) (t : Nat) (t0 : Nat) (u : Nat → Nat) (Lt : Nat) (cnt : Nat) (hux : ∀ j, u j < 256) (hLt : Lt ≤ 300) (hx : x < 900) (hcn : 1 ≤ cnt ∧ cnt ≤ 4) : WRi g l yX4_readNumbers cX4_readNumbers 6 (some .boolean) 4 [(rd0, .inr (3, [.ref rd1, nV x])), (rd1, cN g 4 nu), (t, .inr (5, [.ref t0, nV Lt])), (t0, cB g 300 u)] [.ref rd0, .ref t, nV cnt] (fun r (uq_ : Nat × (Nat → Nat)) => match uq_ with | (pl1, nu1) => r = bI ((rna u Lt cnt x (fun _ => 0) cnt).isSome = true) ∧ ∀ q, rna u Lt cnt x (fun _ => 0) cnt = some q → pl1 = q.1 ∧ ∀ j, j < cnt → nu1 j = q.2 j) (fun (uq_ : Nat × (Nat → Nat)) => match uq_ with | (pl1, nu1) => [(rd0, .inr (3, [.ref rd1, nV pl1])), (rd1, cN g 4 nu1), (t, .inr (5, [.ref t0, nV Lt])), (t0, cB g 300 u)]) := by
  refine wr_startZ (by decide +kernel) (Nat.le_of_ble_eq_true rfl) ?_
  intro p e s m args below meth c Q A ls C hK hA ret hP hD hS hl
  have C : CT p s m args meth c cX4_readNumbers RX4 6 := C
  have hl : lv_has ls 6 [(0, .ref rd0), (1, .ref t), (2, nV cnt)] := hl
  refine r_iconst 0 C dX4_readNumbers_0 rfl ?_
  refine lv_istore_n (lv' := [(3, nV 0), (0, .ref rd0), (1, .ref t), (2, nV cnt)]) C.1 C.2.1 dX4_readNumbers_1 rfl hl (by decide) rfl (fun ls hl => ?_)
  have L2 : ∀ (n_2 : Nat) (i : Nat) (pl : Nat) (nw : Nat → Nat) (nz : Nat → Nat) (H : Heap) (locs : List Loc) (ls : Array Slot) (hi : i ≤ cnt) (hr : rna u Lt cnt x (fun _ => 0) i = some (pl, nz)) (he : ∀ j, j < i → nw j = nz j) (hpl : pl ≤ x + 3 * i) (hm : cnt - i < n_2) (hP : va_P g.1 vwCl [(rd0, .inr (3, [.ref rd1, nV pl])), (rd1, cN g 4 nw), (t, .inr (5, [.ref t0, nV Lt])), (t0, cB g 300 u)] H) (hD : va_D A [(rd0, .inr (3, [.ref rd1, nV pl])), (rd1, cN g 4 nw), (t, .inr (5, [.ref t0, nV Lt])), (t0, cB g 300 u)]) (hS : va_S A s.heap H locs) (hl : lv_has ls 6 [(3, nV i), (0, .ref rd0), (1, .ref t), (2, nV cnt)]), W p l e (rD 4) s m args below meth c H locs 0 0 Q (F0 m 2 ls []) := by
    intro n_2
    induction n_2 with
    | zero => intro i pl nw nz H locs ls hi hr he hpl hm hP hD hS hl; exact absurd hm (Nat.not_lt_zero _)
    | succ n_2 ih_2 =>
      intro i pl nw nz H locs ls hi hr he hpl hm hP hD hS hl
      refine lv_iload_n C.1 C.2.1 dX4_readNumbers_2 rfl (lv_at hl 0 rfl) ?_
      refine lv_iload_n C.1 C.2.1 dX4_readNumbers_3 rfl (lv_at hl 3 rfl) ?_
      refine r_cge 85 C dX4_readNumbers_4 rfl ⟨rgN (by omega), rgN (by omega)⟩ (fun h_1 => ?_) (fun h_1 => ?_)
      · skip
        refine r_iconst 1 C dX4_readNumbers_85 rfl ?_
        exact ret ((pl, nw)) dX4_readNumbers_86 (by decide) hS hP (by rw [show i = cnt by omega] at hr; exact ⟨bI_1 (by rw [hr]; rfl), fun q hq => by rw [hr] at hq; cases hq; exact ⟨rfl, fun j hj => he j (by omega)⟩⟩)
      refine lv_iload_n C.1 C.2.1 dX4_readNumbers_7 rfl (lv_at hl 0 rfl) ?_
      refine lv_aload_n C.1 C.2.1 dX4_readNumbers_8 rfl (lv_at hl 1 rfl) ?_
      refine r_get C hK hP kw_X4 (ci := 3) rfl 0 0 (by decide) kf_X4_9 rfl rfl dX4_readNumbers_9 ?_
      refine r_alen 4 (t0 := 1) C hK hP 1 rfl rfl rfl dX4_readNumbers_12 ?_
      refine r_cge 85 C dX4_readNumbers_13 rfl ⟨rgN (by omega), rgN (by decide)⟩ (fun h_2 => ?_) (fun h_2 => ?_)
      · exact absurd h_2 (by omega)
      refine lv_aload_n C.1 C.2.1 dX4_readNumbers_16 rfl (lv_at hl 1 rfl) ?_
      refine lv_aload_n C.1 C.2.1 dX4_readNumbers_17 rfl (lv_at hl 2 rfl) ?_
      refine wr_callV (As := [.ref t]) (rest := []) C hK (c_X4_readNumber l g rd0 rd1 pl t t0 u Lt (by first | assumption | omega) (by first | assumption | omega) (by first | assumption | omega)) [0, 2, 3] rfl (fun _ => rfl) (by decide) hP hD hS hA (ci := 3) (q0 := 0) rfl rfl kc_X4_readNumber kl_X4_57 kn_X4 ki_X4_readNumber ke_X4_readNumber nk_X4_readNumber (rm_lt (by decide) (by decide)) hl rfl (Nat.le_of_ble_eq_true rfl) dX4_readNumbers_18 (fun r_3 u_5 H locs hr_4 hP hD hS => ?_)
      have hP : va_P g.1 vwCl [(rd0, .inr (3, [.ref rd1, nV (rnP u Lt pl)])), (rd1, cN g 4 nw), (t, .inr (5, [.ref t0, nV Lt])), (t0, cB g 300 u)] H := hP
      have hD : va_D A [(rd0, .inr (3, [.ref rd1, nV (rnP u Lt pl)])), (rd1, cN g 4 nw), (t, .inr (5, [.ref t0, nV Lt])), (t0, cB g 300 u)] := hD
      subst hr_4
      have hf_6 := rnP_le u (Lt) (pl)
      have hf_7 := rnI_bd u (Lt) (pl)
      refine lv_istore (lv' := [(4, zV (rnI u Lt pl)), (3, nV i), (0, .ref rd0), (1, .ref t), (2, nV cnt)]) C.1 C.2.1 dX4_readNumbers_21 hl (by decide) rfl (fun ls hl => ?_)
      refine lv_aload_n C.1 C.2.1 dX4_readNumbers_23 rfl (lv_at hl 3 rfl) ?_
      refine lv_aload_n C.1 C.2.1 dX4_readNumbers_24 rfl (lv_at hl 2 rfl) ?_
      refine r_get C hK hP kw_X4 (ci := 3) rfl 0 1 (by decide) kf_X4_20 rfl rfl dX4_readNumbers_25 ?_
      refine ro_callV (As := [nV (rnP u Lt pl)]) (rest := []) C hK (c_X7_byteAt l g t t0 u Lt (rnP u Lt pl) (by first | assumption | omega) (by first | assumption | omega) (by first | assumption | omega)) (hP.sub (ws' := [(t, .inr (5, [.ref t0, nV Lt])), (t0, cB g 300 u)]) [2, 3] rfl) (ci := 5) (q0 := 0) rfl rfl kc_X7_byteAt kl_X4_34 kn_X7 ki_X7_byteAt ke_X7_byteAt nk_X7_byteAt (rm_lt (by decide) (by decide)) hl rfl (Nat.le_of_ble_eq_true rfl) dX4_readNumbers_28 (fun r_8 hr_9 => ?_)
      subst hr_9
      have hf_10 := chr_bd u Lt ((rnP u Lt pl)) hux
      refine lv_istore (lv' := [(5, zV (chr u Lt (rnP u Lt pl))), (4, zV (rnI u Lt pl)), (3, nV i), (0, .ref rd0), (1, .ref t), (2, nV cnt)]) C.1 C.2.1 dX4_readNumbers_31 hl (by decide) rfl (fun ls hl => ?_)
      refine lv_aload_n C.1 C.2.1 dX4_readNumbers_33 rfl (lv_at hl 3 rfl) ?_
      refine lv_dup C.1 C.2.1 dX4_readNumbers_34 rfl ?_
      refine r_get C hK hP kw_X4 (ci := 3) rfl 0 1 (by decide) kf_X4_20 rfl rfl dX4_readNumbers_35 ?_
      refine r_iconst 1 C dX4_readNumbers_38 rfl ?_
      refine r_addN C dX4_readNumbers_39 ?_
      refine r_put (v := nV ((rnP u Lt pl) + 1)) C hK hP hD hS kw_X4 tyX4_ok nmX4 (ci := 3) rfl 0 1 (by decide) kf_X4_20 rfl rfl rfl rfl rfl (Nat.le_of_ble_eq_true rfl) dX4_readNumbers_40 (fun H locs hP hD hS => ?_)
      have hP : va_P g.1 vwCl [(rd0, .inr (3, [.ref rd1, nV ((rnP u Lt pl) + 1)])), (rd1, cN g 4 nw), (t, .inr (5, [.ref t0, nV Lt])), (t0, cB g 300 u)] H := hP
      have hD : va_D A [(rd0, .inr (3, [.ref rd1, nV ((rnP u Lt pl) + 1)])), (rd1, cN g 4 nw), (t, .inr (5, [.ref t0, nV Lt])), (t0, cB g 300 u)] := hD
      refine lv_iload C.1 C.2.1 dX4_readNumbers_43 (lv_at hl 1 rfl) ?_
      refine r_bipushZ C dX4_readNumbers_45 (by decide) ?_
      refine r_ceq 69 C dX4_readNumbers_47 rfl ⟨⟨by omega, by omega⟩, (by decide)⟩ (fun g1 => ?_) (fun g1 => ?_)
      · skip
        refine r_iconst 0 C dX4_readNumbers_69 rfl ?_
        exact ret (((rnP u Lt pl) + 1, nw)) dX4_readNumbers_70 (by decide) hS hP (by have hno : rna u Lt cnt x (fun _ => 0) cnt = none := rna_stop hr (by omega) (fun q => by first | exact rnI_4 g1 q.1 | (have q2 := q.2; rw [if_pos (by omega)] at q2; omega) | (have q2 := q.2; rw [if_neg (by omega)] at q2; omega)); exact ⟨bI_z (by rw [hno]; decide), fun q hq => by rw [hno] at hq; cases hq⟩)
      refine lv_iload C.1 C.2.1 dX4_readNumbers_50 (lv_at hl 0 rfl) ?_
      refine lv_iload_n C.1 C.2.1 dX4_readNumbers_52 rfl (lv_at hl 2 rfl) ?_
      refine lv_iload_n C.1 C.2.1 dX4_readNumbers_53 rfl (lv_at hl 5 rfl) ?_
      refine r_iconst 1 C dX4_readNumbers_54 rfl ?_
      refine r_subN C dX4_readNumbers_55 (by omega) ?_
      refine r_cne 64 C dX4_readNumbers_56 rfl ⟨rgN (by omega), rgN (by omega)⟩ (fun g2 => ?_) (fun g2 => ?_)
      · skip
        refine r_bipush 44 C dX4_readNumbers_64 (by decide) ?_
        refine r_ceq 71 C dX4_readNumbers_66 rfl ⟨⟨by omega, by omega⟩, rgN (by decide)⟩ (fun g3 => ?_) (fun g3 => ?_)
        · skip
          refine lv_aload_n C.1 C.2.1 dX4_readNumbers_71 rfl (lv_at hl 3 rfl) ?_
          refine r_get C hK hP kw_X4 (ci := 3) rfl 0 0 (by decide) kf_X4_9 rfl rfl dX4_readNumbers_72 ?_
          refine lv_iload_n C.1 C.2.1 dX4_readNumbers_75 rfl (lv_at hl 2 rfl) ?_
          refine lv_iload C.1 C.2.1 dX4_readNumbers_76 (lv_at hl 1 rfl) ?_
          refine r_topN (rnV u Lt pl) (by exact (rnI_V g1).2) ?_
          refine r_astN C hK hP hD hS 1 rfl ⟨by omega, by omega⟩ dX4_readNumbers_78 (fun H locs hP hD hS => ?_)
          have hP : va_P g.1 vwCl [(rd0, .inr (3, [.ref rd1, nV ((rnP u Lt pl) + 1)])), (rd1, cN g 4 (upN nw i (rnV u Lt pl))), (t, .inr (5, [.ref t0, nV Lt])), (t0, cB g 300 u)] H := hP
          have hD : va_D A [(rd0, .inr (3, [.ref rd1, nV ((rnP u Lt pl) + 1)])), (rd1, cN g 4 (upN nw i (rnV u Lt pl))), (t, .inr (5, [.ref t0, nV Lt])), (t0, cB g 300 u)] := hD
          refine r_incN (k := 2) (n := 1) [(3, nV (i + 1)), (5, zV (chr u Lt (rnP u Lt pl))), (4, zV (rnI u Lt pl)), (0, .ref rd0), (1, .ref t), (2, nV cnt)] C dX4_readNumbers_79 hl rfl rfl (by decide) rfl (fun ls hl => ?_)
          refine r_goto 2 C dX4_readNumbers_82 rfl ?_
          exact ih_2 (i + 1) ((rnP u Lt pl) + 1) (upN nw i (rnV u Lt pl)) (upN nz i (rnV u Lt pl)) _ _ _ (by first | assumption | omega) (rna_go hr ⟨(rnI_V g1).1, by first | (rw [if_pos (by omega)]; omega) | (rw [if_neg (by omega)]; omega)⟩) (fun j hj => by unfold upN; split; rfl; exact he j (by omega)) (by first | assumption | omega) (by omega) hP hD hS (lv_sub hl [0, 3, 4, 5] rfl)
        refine r_iconst 0 C dX4_readNumbers_69 rfl ?_
        exact ret (((rnP u Lt pl) + 1, nw)) dX4_readNumbers_70 (by decide) hS hP (by have hno : rna u Lt cnt x (fun _ => 0) cnt = none := rna_stop hr (by omega) (fun q => by first | exact rnI_4 g1 q.1 | (have q2 := q.2; rw [if_pos (by omega)] at q2; omega) | (have q2 := q.2; rw [if_neg (by omega)] at q2; omega)); exact ⟨bI_z (by rw [hno]; decide), fun q hq => by rw [hno] at hq; cases hq⟩)
      refine r_bipush 59 C dX4_readNumbers_59 (by decide) ?_
      refine r_goto 66 C dX4_readNumbers_61 rfl ?_
      refine r_ceq 71 C dX4_readNumbers_66 rfl ⟨⟨by omega, by omega⟩, rgN (by decide)⟩ (fun g3 => ?_) (fun g3 => ?_)
      · skip
        refine lv_aload_n C.1 C.2.1 dX4_readNumbers_71 rfl (lv_at hl 3 rfl) ?_
        refine r_get C hK hP kw_X4 (ci := 3) rfl 0 0 (by decide) kf_X4_9 rfl rfl dX4_readNumbers_72 ?_
        refine lv_iload_n C.1 C.2.1 dX4_readNumbers_75 rfl (lv_at hl 2 rfl) ?_
        refine lv_iload C.1 C.2.1 dX4_readNumbers_76 (lv_at hl 1 rfl) ?_
        refine r_topN (rnV u Lt pl) (by exact (rnI_V g1).2) ?_
        refine r_astN C hK hP hD hS 1 rfl ⟨by omega, by omega⟩ dX4_readNumbers_78 (fun H locs hP hD hS => ?_)
        have hP : va_P g.1 vwCl [(rd0, .inr (3, [.ref rd1, nV ((rnP u Lt pl) + 1)])), (rd1, cN g 4 (upN nw i (rnV u Lt pl))), (t, .inr (5, [.ref t0, nV Lt])), (t0, cB g 300 u)] H := hP
        have hD : va_D A [(rd0, .inr (3, [.ref rd1, nV ((rnP u Lt pl) + 1)])), (rd1, cN g 4 (upN nw i (rnV u Lt pl))), (t, .inr (5, [.ref t0, nV Lt])), (t0, cB g 300 u)] := hD
        refine r_incN (k := 2) (n := 1) [(3, nV (i + 1)), (5, zV (chr u Lt (rnP u Lt pl))), (4, zV (rnI u Lt pl)), (0, .ref rd0), (1, .ref t), (2, nV cnt)] C dX4_readNumbers_79 hl rfl rfl (by decide) rfl (fun ls hl => ?_)
        refine r_goto 2 C dX4_readNumbers_82 rfl ?_
        exact ih_2 (i + 1) ((rnP u Lt pl) + 1) (upN nw i (rnV u Lt pl)) (upN nz i (rnV u Lt pl)) _ _ _ (by first | assumption | omega) (rna_go hr ⟨(rnI_V g1).1, by first | (rw [if_pos (by omega)]; omega) | (rw [if_neg (by omega)]; omega)⟩) (fun j hj => by unfold upN; split; rfl; exact he j (by omega)) (by first | assumption | omega) (by omega) hP hD hS (lv_sub hl [0, 3, 4, 5] rfl)
      refine r_iconst 0 C dX4_readNumbers_69 rfl ?_
      exact ret (((rnP u Lt pl) + 1, nw)) dX4_readNumbers_70 (by decide) hS hP (by have hno : rna u Lt cnt x (fun _ => 0) cnt = none := rna_stop hr (by omega) (fun q => by first | exact rnI_4 g1 q.1 | (have q2 := q.2; rw [if_pos (by omega)] at q2; omega) | (have q2 := q.2; rw [if_neg (by omega)] at q2; omega)); exact ⟨bI_z (by rw [hno]; decide), fun q hq => by rw [hno] at hq; cases hq⟩)
  exact L2 (cnt - 0 + 1) 0 x nu (fun _ => 0) _ _ _ (by first | assumption | omega) (rfl) (fun j hj => by omega) (by first | assumption | omega) (Nat.lt_succ_self _) hP hD hS (lv_sub hl [0, 1, 2, 3] rfl)
set_option maxHeartbeats 4000000 in
set_option maxRecDepth 100000 in
theorem c_X4_readItem (l : Launch) (g : GG) (rd0 : Nat) (rd1 : Nat) (x : Nat) (nu : Nat → Nat) (t : Nat) (t0 : Nat) (u : Nat → Nat) (Lt : Nat) (v : Nat) (v0 : Nat) (v1 : Nat) (v2 : Nat) (v3 : Nat) (v4 : Nat) (vv : VS) (hux : ∀ j, u j < 256) (hLt : Lt ≤ 300) (hx : x < Lt) (hv : VOK vv) : WRi g l yX4_readItem cX4_readItem 4 (some .boolean) 5 [(rd0, .inr (3, [.ref rd1, nV x])), (rd1, cN g 4 nu), (t, .inr (5, [.ref t0, nV Lt])), (t0, cB g 300 u), (v, .inr (6, [.ref v0, .ref v1, .ref v2, .ref v3, .ref v4, nV (vk vv), nV (vnc vv), nV (vnb vv), nV (vbi vv), nV (vmo vv)])), (v0, cN g 8 (vsg vv)), (v1, cN g 8 (vwo vv)), (v2, cN g 5 (vhu vv)), (v3, cN g 5 (vmi vv)), (v4, cN g 5 (vkn vv))] [.ref rd0, .ref t, .ref v] (fun r (uq_ : Nat × (Nat → Nat)) => match uq_ with | (pl1, nu1) => r = bI ((itm u Lt x vv).1 = true) ∧ ((itm u Lt x vv).1 = true → pl1 = (itm u Lt x vv).2.1)) (fun (uq_ : Nat × (Nat → Nat)) => match uq_ with | (pl1, nu1) => [(rd0, .inr (3, [.ref rd1, nV pl1])), (rd1, cN g 4 nu1), (t, .inr (5, [.ref t0, nV Lt])), (t0, cB g 300 u), (v, .inr (6, [.ref v0, .ref v1, .ref v2, .ref v3, .ref v4, nV (vk ((itm u Lt x vv).2.2)), nV (vnc ((itm u Lt x vv).2.2)), nV (vnb ((itm u Lt x vv).2.2)), nV (vbi ((itm u Lt x vv).2.2)), nV (vmo ((itm u Lt x vv).2.2))])), (v0, cN g 8 (vsg ((itm u Lt x vv).2.2))), (v1, cN g 8 (vwo ((itm u Lt x vv).2.2))), (v2, cN g 5 (vhu ((itm u Lt x vv).2.2))), (v3, cN g 5 (vmi ((itm u Lt x vv).2.2))), (v4, cN g 5 (vkn ((itm u Lt x vv).2.2)))]) := by
  refine wr_startZ (by decide +kernel) (Nat.le_of_ble_eq_true rfl) ?_
  intro p e s m args below meth c Q A ls C hK hA ret hP hD hS hl
  have C : CT p s m args meth c cX4_readItem RX4 4 := C
  have hl : lv_has ls 4 [(0, .ref rd0), (1, .ref t), (2, .ref v)] := hl
  obtain ⟨hsg, hwo, hhu, hmi, hkn, hk, hnc, hnb, hbi, hmo⟩ := id hv
  refine lv_aload_n C.1 C.2.1 dX4_readItem_0 rfl (lv_at hl 1 rfl) ?_
  refine lv_aload_n C.1 C.2.1 dX4_readItem_1 rfl (lv_at hl 0 rfl) ?_
  refine r_get C hK hP kw_X4 (ci := 3) rfl 0 1 (by decide) kf_X4_20 rfl rfl dX4_readItem_2 ?_
  refine ro_callV (As := [nV x]) (rest := []) C hK (c_X7_byteAt l g t t0 u Lt x (by first | assumption | omega) (by first | assumption | omega) (by first | assumption | omega)) (hP.sub (ws' := [(t, .inr (5, [.ref t0, nV Lt])), (t0, cB g 300 u)]) [2, 3] rfl) (ci := 5) (q0 := 0) rfl rfl kc_X7_byteAt kl_X4_34 kn_X7 ki_X7_byteAt ke_X7_byteAt nk_X7_byteAt (rm_lt (by decide) (by decide)) hl rfl (Nat.le_of_ble_eq_true rfl) dX4_readItem_5 (fun r_1 hr_2 => ?_)
  subst hr_2
  have hf_3 := chr_bd u Lt (x) hux
  refine lv_istore_n (lv' := [(3, zV (chr u Lt x)), (0, .ref rd0), (1, .ref t), (2, .ref v)]) C.1 C.2.1 dX4_readItem_8 rfl hl (by decide) rfl (fun ls hl => ?_)
  refine lv_aload_n C.1 C.2.1 dX4_readItem_9 rfl (lv_at hl 1 rfl) ?_
  refine lv_dup C.1 C.2.1 dX4_readItem_10 rfl ?_
  refine r_get C hK hP kw_X4 (ci := 3) rfl 0 1 (by decide) kf_X4_20 rfl rfl dX4_readItem_11 ?_
  refine r_iconst 1 C dX4_readItem_14 rfl ?_
  refine r_addN C dX4_readItem_15 ?_
  refine r_put (v := nV (x + 1)) C hK hP hD hS kw_X4 tyX4_ok nmX4 (ci := 3) rfl 0 1 (by decide) kf_X4_20 rfl rfl rfl rfl rfl (Nat.le_of_ble_eq_true rfl) dX4_readItem_16 (fun H locs hP hD hS => ?_)
  have hP : va_P g.1 vwCl [(rd0, .inr (3, [.ref rd1, nV (x + 1)])), (rd1, cN g 4 nu), (t, .inr (5, [.ref t0, nV Lt])), (t0, cB g 300 u), (v, .inr (6, [.ref v0, .ref v1, .ref v2, .ref v3, .ref v4, nV (vk vv), nV (vnc vv), nV (vnb vv), nV (vbi vv), nV (vmo vv)])), (v0, cN g 8 (vsg vv)), (v1, cN g 8 (vwo vv)), (v2, cN g 5 (vhu vv)), (v3, cN g 5 (vmi vv)), (v4, cN g 5 (vkn vv))] H := hP
  have hD : va_D A [(rd0, .inr (3, [.ref rd1, nV (x + 1)])), (rd1, cN g 4 nu), (t, .inr (5, [.ref t0, nV Lt])), (t0, cB g 300 u), (v, .inr (6, [.ref v0, .ref v1, .ref v2, .ref v3, .ref v4, nV (vk vv), nV (vnc vv), nV (vnb vv), nV (vbi vv), nV (vmo vv)])), (v0, cN g 8 (vsg vv)), (v1, cN g 8 (vwo vv)), (v2, cN g 5 (vhu vv)), (v3, cN g 5 (vmi vv)), (v4, cN g 5 (vkn vv))] := hD
  refine lv_iload_n C.1 C.2.1 dX4_readItem_19 rfl (lv_at hl 0 rfl) ?_
  by_cases hs_4 : chr u Lt x = 98
  · refine r_lsw 110 C dX4_readItem_20 (by decide) (⟨by omega, by omega⟩) (by rw [hs_4] <;> rfl) rfl ?_
    have hz : chr u Lt x = 98 := by assumption
    refine lv_aload_n C.1 C.2.1 dX4_readItem_110 rfl (lv_at hl 1 rfl) ?_
    refine lv_aload_n C.1 C.2.1 dX4_readItem_111 rfl (lv_at hl 2 rfl) ?_
    refine r_iconst 2 C dX4_readItem_112 rfl ?_
    refine wr_callV (As := [.ref t, nV 2]) (rest := []) C hK (c_X4_readNumbers l g rd0 rd1 (x + 1) nu t t0 u Lt 2 (by first | assumption | omega) (by first | assumption | omega) (by first | assumption | omega) (by first | assumption | omega)) [0, 1, 2, 3] rfl (fun _ => rfl) (by decide) hP hD hS hA (ci := 3) (q0 := 0) rfl rfl kc_X4_readNumbers kl_X4_38 kn_X4 ki_X4_readNumbers ke_X4_readNumbers nk_X4_readNumbers (rm_lt (by decide) (by decide)) hl rfl (Nat.le_of_ble_eq_true rfl) dX4_readItem_113 (fun r_5 u_7 H locs hr_6 hP hD hS => ?_)
    obtain ⟨pl1_2_113, nu1_2_113⟩ := u_7
    have hP : va_P g.1 vwCl [(rd0, .inr (3, [.ref rd1, nV pl1_2_113])), (rd1, cN g 4 nu1_2_113), (t, .inr (5, [.ref t0, nV Lt])), (t0, cB g 300 u), (v, .inr (6, [.ref v0, .ref v1, .ref v2, .ref v3, .ref v4, nV (vk vv), nV (vnc vv), nV (vnb vv), nV (vbi vv), nV (vmo vv)])), (v0, cN g 8 (vsg vv)), (v1, cN g 8 (vwo vv)), (v2, cN g 5 (vhu vv)), (v3, cN g 5 (vmi vv)), (v4, cN g 5 (vkn vv))] H := hP
    have hD : va_D A [(rd0, .inr (3, [.ref rd1, nV pl1_2_113])), (rd1, cN g 4 nu1_2_113), (t, .inr (5, [.ref t0, nV Lt])), (t0, cB g 300 u), (v, .inr (6, [.ref v0, .ref v1, .ref v2, .ref v3, .ref v4, nV (vk vv), nV (vnc vv), nV (vnb vv), nV (vbi vv), nV (vmo vv)])), (v0, cN g 8 (vsg vv)), (v1, cN g 8 (vwo vv)), (v2, cN g 5 (vhu vv)), (v3, cN g 5 (vmi vv)), (v4, cN g 5 (vkn vv))] := hD
    try dsimp only at hr_6
    obtain ⟨hxr_5, hr_6⟩ := hr_6
    subst hxr_5
    have hpo := hr_6
    refine r_beq 142 C dX4_readItem_116 rfl (fun g1 => ?_) (fun g1 => ?_)
    · skip
      refine r_iconst 0 C dX4_readItem_142 rfl ?_
      exact ret ((pl1_2_113, nu1_2_113)) dX4_readItem_143 (by decide) hS (by first | (rw [ei]; exact hP) | (have en : itm u Lt x vv = (false, 0, vv) := itm_none (n := 2) (by rw [hz]; rfl) (by simpa using g1); rw [en]; exact hP)) (by first | (exact ⟨bI_z (by rw [ei]; exact g2), fun h => by rw [ei] at h; exact absurd h g2⟩) | (have en : itm u Lt x vv = (false, 0, vv) := itm_none (n := 2) (by rw [hz]; rfl) (by simpa using g1); exact ⟨bI_z (by rw [en]; exact Bool.false_ne_true), fun h => by rw [en] at h; cases h⟩))
    obtain ⟨q, hq⟩ := Option.isSome_iff_exists.mp g1
    obtain ⟨ep, en⟩ := hpo q hq
    have hb := (rna_ok hq).1
    have n0 : nu1_2_113 0 = q.2 0 := en 0 (by decide)
    have b0 : nu1_2_113 0 < 100 := by rw [n0]; exact hb 0 (by decide)
    have n1 : nu1_2_113 1 = q.2 1 := en 1 (by decide)
    have b1 : nu1_2_113 1 < 100 := by rw [n1]; exact hb 1 (by decide)
    have ei : itm u Lt x vv = (al (nu1_2_113 0) (nu1_2_113 1), pl1_2_113, vB vv (nu1_2_113 0) (nu1_2_113 1)) := by rw [itm_b hz hq, ep, n0, n1]
    refine lv_aload_n C.1 C.2.1 dX4_readItem_119 rfl (lv_at hl 3 rfl) ?_
    refine lv_aload_n C.1 C.2.1 dX4_readItem_120 rfl (lv_at hl 1 rfl) ?_
    refine r_get C hK hP kw_X4 (ci := 3) rfl 0 0 (by decide) kf_X4_9 rfl rfl dX4_readItem_121 ?_
    refine r_iconst 0 C dX4_readItem_124 rfl ?_
    refine r_aldN C hK hP 1 rfl ⟨by omega, by omega⟩ dX4_readItem_125 ?_
    refine lv_aload_n C.1 C.2.1 dX4_readItem_126 rfl (lv_at hl 1 rfl) ?_
    refine r_get C hK hP kw_X4 (ci := 3) rfl 0 0 (by decide) kf_X4_9 rfl rfl dX4_readItem_127 ?_
    refine r_iconst 1 C dX4_readItem_130 rfl ?_
    refine r_aldN C hK hP 1 rfl ⟨by omega, by omega⟩ dX4_readItem_131 ?_
    refine wr_callV (As := [nV (nu1_2_113 0), nV (nu1_2_113 1)]) (rest := []) C hK (c_X8_setLosses l g v v0 v1 v2 v3 v4 (vk vv) (vnc vv) (vnb vv) (vbi vv) (vmo vv) (nu1_2_113 0) (nu1_2_113 1) (by first | assumption | omega) (by first | assumption | omega)) [4] rfl (fun _ => rfl) (by decide) hP hD hS hA (ci := 6) (q0 := 0) rfl rfl kc_X8_setLosses kl_X4_46 kn_X8 ki_X8_setLosses ke_X8_setLosses nk_X8_setLosses (rm_lt (by decide) (by decide)) hl rfl (Nat.le_of_ble_eq_true rfl) dX4_readItem_132 (fun r_8 u_10 H locs hr_9 hP hD hS => ?_)
    have hP : va_P g.1 vwCl [(rd0, .inr (3, [.ref rd1, nV pl1_2_113])), (rd1, cN g 4 nu1_2_113), (t, .inr (5, [.ref t0, nV Lt])), (t0, cB g 300 u), (v, .inr (6, [.ref v0, .ref v1, .ref v2, .ref v3, .ref v4, nV (vk vv), nV (vnc vv), nV (vnb vv), nV (if al (nu1_2_113 0) (nu1_2_113 1) = true then (nu1_2_113 0) else (vbi vv)), nV (if al (nu1_2_113 0) (nu1_2_113 1) = true then (nu1_2_113 1) else (vmo vv))])), (v0, cN g 8 (vsg vv)), (v1, cN g 8 (vwo vv)), (v2, cN g 5 (vhu vv)), (v3, cN g 5 (vmi vv)), (v4, cN g 5 (vkn vv))] H := hP
    have hD : va_D A [(rd0, .inr (3, [.ref rd1, nV pl1_2_113])), (rd1, cN g 4 nu1_2_113), (t, .inr (5, [.ref t0, nV Lt])), (t0, cB g 300 u), (v, .inr (6, [.ref v0, .ref v1, .ref v2, .ref v3, .ref v4, nV (vk vv), nV (vnc vv), nV (vnb vv), nV (if al (nu1_2_113 0) (nu1_2_113 1) = true then (nu1_2_113 0) else (vbi vv)), nV (if al (nu1_2_113 0) (nu1_2_113 1) = true then (nu1_2_113 1) else (vmo vv))])), (v0, cN g 8 (vsg vv)), (v1, cN g 8 (vwo vv)), (v2, cN g 5 (vhu vv)), (v3, cN g 5 (vmi vv)), (v4, cN g 5 (vkn vv))] := hD
    subst hr_9
    refine r_beq 142 C dX4_readItem_135 rfl (fun g2 => ?_) (fun g2 => ?_)
    · skip
      refine r_iconst 0 C dX4_readItem_142 rfl ?_
      exact ret ((pl1_2_113, nu1_2_113)) dX4_readItem_143 (by decide) hS (by first | (rw [ei]; exact hP) | (have en : itm u Lt x vv = (false, 0, vv) := itm_none (n := 2) (by rw [hz]; rfl) (by simpa using g1); rw [en]; exact hP)) (by first | (exact ⟨bI_z (by rw [ei]; exact g2), fun h => by rw [ei] at h; exact absurd h g2⟩) | (have en : itm u Lt x vv = (false, 0, vv) := itm_none (n := 2) (by rw [hz]; rfl) (by simpa using g1); exact ⟨bI_z (by rw [en]; exact Bool.false_ne_true), fun h => by rw [en] at h; cases h⟩))
    refine r_iconst 1 C dX4_readItem_138 rfl ?_
    refine r_goto 143 C dX4_readItem_139 rfl ?_
    exact ret ((pl1_2_113, nu1_2_113)) dX4_readItem_143 (by decide) hS (by first | (rw [ei]; exact hP) | (have en : itm u Lt x vv = (false, 0, vv) := itm_none (n := 2) (by rw [hz]; rfl) (by simpa using g1); rw [en]; exact hP)) (⟨bI_1 (by rw [ei]; exact g2), fun _ => by rw [ei]⟩)
  by_cases hs_11 : chr u Lt x = 99
  · refine r_lsw 144 C dX4_readItem_20 (by decide) (⟨by omega, by omega⟩) (by rw [hs_11] <;> rfl) rfl ?_
    have hz : chr u Lt x = 99 := by assumption
    refine lv_aload_n C.1 C.2.1 dX4_readItem_144 rfl (lv_at hl 1 rfl) ?_
    refine lv_aload_n C.1 C.2.1 dX4_readItem_145 rfl (lv_at hl 2 rfl) ?_
    refine r_iconst 2 C dX4_readItem_146 rfl ?_
    refine wr_callV (As := [.ref t, nV 2]) (rest := []) C hK (c_X4_readNumbers l g rd0 rd1 (x + 1) nu t t0 u Lt 2 (by first | assumption | omega) (by first | assumption | omega) (by first | assumption | omega) (by first | assumption | omega)) [0, 1, 2, 3] rfl (fun _ => rfl) (by decide) hP hD hS hA (ci := 3) (q0 := 0) rfl rfl kc_X4_readNumbers kl_X4_38 kn_X4 ki_X4_readNumbers ke_X4_readNumbers nk_X4_readNumbers (rm_lt (by decide) (by decide)) hl rfl (Nat.le_of_ble_eq_true rfl) dX4_readItem_147 (fun r_12 u_14 H locs hr_13 hP hD hS => ?_)
    obtain ⟨pl1_2_147, nu1_2_147⟩ := u_14
    have hP : va_P g.1 vwCl [(rd0, .inr (3, [.ref rd1, nV pl1_2_147])), (rd1, cN g 4 nu1_2_147), (t, .inr (5, [.ref t0, nV Lt])), (t0, cB g 300 u), (v, .inr (6, [.ref v0, .ref v1, .ref v2, .ref v3, .ref v4, nV (vk vv), nV (vnc vv), nV (vnb vv), nV (vbi vv), nV (vmo vv)])), (v0, cN g 8 (vsg vv)), (v1, cN g 8 (vwo vv)), (v2, cN g 5 (vhu vv)), (v3, cN g 5 (vmi vv)), (v4, cN g 5 (vkn vv))] H := hP
    have hD : va_D A [(rd0, .inr (3, [.ref rd1, nV pl1_2_147])), (rd1, cN g 4 nu1_2_147), (t, .inr (5, [.ref t0, nV Lt])), (t0, cB g 300 u), (v, .inr (6, [.ref v0, .ref v1, .ref v2, .ref v3, .ref v4, nV (vk vv), nV (vnc vv), nV (vnb vv), nV (vbi vv), nV (vmo vv)])), (v0, cN g 8 (vsg vv)), (v1, cN g 8 (vwo vv)), (v2, cN g 5 (vhu vv)), (v3, cN g 5 (vmi vv)), (v4, cN g 5 (vkn vv))] := hD
    try dsimp only at hr_13
    obtain ⟨hxr_12, hr_13⟩ := hr_13
    subst hxr_12
    have hpo := hr_13
    refine r_beq 176 C dX4_readItem_150 rfl (fun g1 => ?_) (fun g1 => ?_)
    · skip
      refine r_iconst 0 C dX4_readItem_176 rfl ?_
      exact ret ((pl1_2_147, nu1_2_147)) dX4_readItem_177 (by decide) hS (by first | (rw [ei]; exact hP) | (have en : itm u Lt x vv = (false, 0, vv) := itm_none (n := 2) (by rw [hz]; rfl) (by simpa using g1); rw [en]; exact hP)) (by first | (exact ⟨bI_z (by rw [ei]; exact g2), fun h => by rw [ei] at h; exact absurd h g2⟩) | (have en : itm u Lt x vv = (false, 0, vv) := itm_none (n := 2) (by rw [hz]; rfl) (by simpa using g1); exact ⟨bI_z (by rw [en]; exact Bool.false_ne_true), fun h => by rw [en] at h; cases h⟩))
    obtain ⟨q, hq⟩ := Option.isSome_iff_exists.mp g1
    obtain ⟨ep, en⟩ := hpo q hq
    have hb := (rna_ok hq).1
    have n0 : nu1_2_147 0 = q.2 0 := en 0 (by decide)
    have b0 : nu1_2_147 0 < 100 := by rw [n0]; exact hb 0 (by decide)
    have n1 : nu1_2_147 1 = q.2 1 := en 1 (by decide)
    have b1 : nu1_2_147 1 < 100 := by rw [n1]; exact hb 1 (by decide)
    have ei : itm u Lt x vv = (ac (vnc vv) (nu1_2_147 0) (nu1_2_147 1), pl1_2_147, vC vv (nu1_2_147 0) (nu1_2_147 1)) := by rw [itm_c hz hq, ep, n0, n1]
    refine lv_aload_n C.1 C.2.1 dX4_readItem_153 rfl (lv_at hl 3 rfl) ?_
    refine lv_aload_n C.1 C.2.1 dX4_readItem_154 rfl (lv_at hl 1 rfl) ?_
    refine r_get C hK hP kw_X4 (ci := 3) rfl 0 0 (by decide) kf_X4_9 rfl rfl dX4_readItem_155 ?_
    refine r_iconst 0 C dX4_readItem_158 rfl ?_
    refine r_aldN C hK hP 1 rfl ⟨by omega, by omega⟩ dX4_readItem_159 ?_
    refine lv_aload_n C.1 C.2.1 dX4_readItem_160 rfl (lv_at hl 1 rfl) ?_
    refine r_get C hK hP kw_X4 (ci := 3) rfl 0 0 (by decide) kf_X4_9 rfl rfl dX4_readItem_161 ?_
    refine r_iconst 1 C dX4_readItem_164 rfl ?_
    refine r_aldN C hK hP 1 rfl ⟨by omega, by omega⟩ dX4_readItem_165 ?_
    refine wr_callV (As := [nV (nu1_2_147 0), nV (nu1_2_147 1)]) (rest := []) C hK (c_X8_addCarrier l g v v0 v1 v2 v3 v4 (vhu vv) (vmi vv) (vk vv) (vnc vv) (vnb vv) (vbi vv) (vmo vv) (nu1_2_147 0) (nu1_2_147 1) (by first | assumption | omega) (by first | assumption | omega) (by first | assumption | omega)) [4, 7, 8] rfl (fun _ => rfl) (by decide) hP hD hS hA (ci := 6) (q0 := 0) rfl rfl kc_X8_addCarrier kl_X4_50 kn_X8 ki_X8_addCarrier ke_X8_addCarrier nk_X8_addCarrier (rm_lt (by decide) (by decide)) hl rfl (Nat.le_of_ble_eq_true rfl) dX4_readItem_166 (fun r_15 u_17 H locs hr_16 hP hD hS => ?_)
    have hP : va_P g.1 vwCl [(rd0, .inr (3, [.ref rd1, nV pl1_2_147])), (rd1, cN g 4 nu1_2_147), (t, .inr (5, [.ref t0, nV Lt])), (t0, cB g 300 u), (v, .inr (6, [.ref v0, .ref v1, .ref v2, .ref v3, .ref v4, nV (vk vv), nV (if ac (vnc vv) (nu1_2_147 0) (nu1_2_147 1) = true then (vnc vv) + 1 else (vnc vv)), nV (vnb vv), nV (vbi vv), nV (vmo vv)])), (v0, cN g 8 (vsg vv)), (v1, cN g 8 (vwo vv)), (v2, cN g 5 (if ac (vnc vv) (nu1_2_147 0) (nu1_2_147 1) = true then upN (vhu vv) (vnc vv) (nu1_2_147 0) else (vhu vv))), (v3, cN g 5 (if ac (vnc vv) (nu1_2_147 0) (nu1_2_147 1) = true then upN (vmi vv) (vnc vv) (nu1_2_147 1) else (vmi vv))), (v4, cN g 5 (vkn vv))] H := hP
    have hD : va_D A [(rd0, .inr (3, [.ref rd1, nV pl1_2_147])), (rd1, cN g 4 nu1_2_147), (t, .inr (5, [.ref t0, nV Lt])), (t0, cB g 300 u), (v, .inr (6, [.ref v0, .ref v1, .ref v2, .ref v3, .ref v4, nV (vk vv), nV (if ac (vnc vv) (nu1_2_147 0) (nu1_2_147 1) = true then (vnc vv) + 1 else (vnc vv)), nV (vnb vv), nV (vbi vv), nV (vmo vv)])), (v0, cN g 8 (vsg vv)), (v1, cN g 8 (vwo vv)), (v2, cN g 5 (if ac (vnc vv) (nu1_2_147 0) (nu1_2_147 1) = true then upN (vhu vv) (vnc vv) (nu1_2_147 0) else (vhu vv))), (v3, cN g 5 (if ac (vnc vv) (nu1_2_147 0) (nu1_2_147 1) = true then upN (vmi vv) (vnc vv) (nu1_2_147 1) else (vmi vv))), (v4, cN g 5 (vkn vv))] := hD
    subst hr_16
    refine r_beq 176 C dX4_readItem_169 rfl (fun g2 => ?_) (fun g2 => ?_)
    · skip
      refine r_iconst 0 C dX4_readItem_176 rfl ?_
      exact ret ((pl1_2_147, nu1_2_147)) dX4_readItem_177 (by decide) hS (by first | (rw [ei]; exact hP) | (have en : itm u Lt x vv = (false, 0, vv) := itm_none (n := 2) (by rw [hz]; rfl) (by simpa using g1); rw [en]; exact hP)) (by first | (exact ⟨bI_z (by rw [ei]; exact g2), fun h => by rw [ei] at h; exact absurd h g2⟩) | (have en : itm u Lt x vv = (false, 0, vv) := itm_none (n := 2) (by rw [hz]; rfl) (by simpa using g1); exact ⟨bI_z (by rw [en]; exact Bool.false_ne_true), fun h => by rw [en] at h; cases h⟩))
    refine r_iconst 1 C dX4_readItem_172 rfl ?_
    refine r_goto 177 C dX4_readItem_173 rfl ?_
    exact ret ((pl1_2_147, nu1_2_147)) dX4_readItem_177 (by decide) hS (by first | (rw [ei]; exact hP) | (have en : itm u Lt x vv = (false, 0, vv) := itm_none (n := 2) (by rw [hz]; rfl) (by simpa using g1); rw [en]; exact hP)) (⟨bI_1 (by rw [ei]; exact g2), fun _ => by rw [ei]⟩)
  by_cases hs_18 : chr u Lt x = 107
  · refine r_lsw 178 C dX4_readItem_20 (by decide) (⟨by omega, by omega⟩) (by rw [hs_18] <;> rfl) rfl ?_
    have hz : chr u Lt x = 107 := by assumption
    refine lv_aload_n C.1 C.2.1 dX4_readItem_178 rfl (lv_at hl 1 rfl) ?_
    refine lv_aload_n C.1 C.2.1 dX4_readItem_179 rfl (lv_at hl 2 rfl) ?_
    refine r_iconst 1 C dX4_readItem_180 rfl ?_
    refine wr_callV (As := [.ref t, nV 1]) (rest := []) C hK (c_X4_readNumbers l g rd0 rd1 (x + 1) nu t t0 u Lt 1 (by first | assumption | omega) (by first | assumption | omega) (by first | assumption | omega) (by first | assumption | omega)) [0, 1, 2, 3] rfl (fun _ => rfl) (by decide) hP hD hS hA (ci := 3) (q0 := 0) rfl rfl kc_X4_readNumbers kl_X4_38 kn_X4 ki_X4_readNumbers ke_X4_readNumbers nk_X4_readNumbers (rm_lt (by decide) (by decide)) hl rfl (Nat.le_of_ble_eq_true rfl) dX4_readItem_181 (fun r_19 u_21 H locs hr_20 hP hD hS => ?_)
    obtain ⟨pl1_1_181, nu1_1_181⟩ := u_21
    have hP : va_P g.1 vwCl [(rd0, .inr (3, [.ref rd1, nV pl1_1_181])), (rd1, cN g 4 nu1_1_181), (t, .inr (5, [.ref t0, nV Lt])), (t0, cB g 300 u), (v, .inr (6, [.ref v0, .ref v1, .ref v2, .ref v3, .ref v4, nV (vk vv), nV (vnc vv), nV (vnb vv), nV (vbi vv), nV (vmo vv)])), (v0, cN g 8 (vsg vv)), (v1, cN g 8 (vwo vv)), (v2, cN g 5 (vhu vv)), (v3, cN g 5 (vmi vv)), (v4, cN g 5 (vkn vv))] H := hP
    have hD : va_D A [(rd0, .inr (3, [.ref rd1, nV pl1_1_181])), (rd1, cN g 4 nu1_1_181), (t, .inr (5, [.ref t0, nV Lt])), (t0, cB g 300 u), (v, .inr (6, [.ref v0, .ref v1, .ref v2, .ref v3, .ref v4, nV (vk vv), nV (vnc vv), nV (vnb vv), nV (vbi vv), nV (vmo vv)])), (v0, cN g 8 (vsg vv)), (v1, cN g 8 (vwo vv)), (v2, cN g 5 (vhu vv)), (v3, cN g 5 (vmi vv)), (v4, cN g 5 (vkn vv))] := hD
    try dsimp only at hr_20
    obtain ⟨hxr_19, hr_20⟩ := hr_20
    subst hxr_19
    have hpo := hr_20
    refine r_beq 204 C dX4_readItem_184 rfl (fun g1 => ?_) (fun g1 => ?_)
    · skip
      refine r_iconst 0 C dX4_readItem_204 rfl ?_
      exact ret ((pl1_1_181, nu1_1_181)) dX4_readItem_205 (by decide) hS (by first | (rw [ei]; exact hP) | (have en : itm u Lt x vv = (false, 0, vv) := itm_none (n := 1) (by rw [hz]; rfl) (by simpa using g1); rw [en]; exact hP)) (by first | (exact ⟨bI_z (by rw [ei]; exact g2), fun h => by rw [ei] at h; exact absurd h g2⟩) | (have en : itm u Lt x vv = (false, 0, vv) := itm_none (n := 1) (by rw [hz]; rfl) (by simpa using g1); exact ⟨bI_z (by rw [en]; exact Bool.false_ne_true), fun h => by rw [en] at h; cases h⟩))
    obtain ⟨q, hq⟩ := Option.isSome_iff_exists.mp g1
    obtain ⟨ep, en⟩ := hpo q hq
    have hb := (rna_ok hq).1
    have n0 : nu1_1_181 0 = q.2 0 := en 0 (by decide)
    have b0 : nu1_1_181 0 < 100 := by rw [n0]; exact hb 0 (by decide)
    have ei : itm u Lt x vv = (ab (vnb vv) (nu1_1_181 0), pl1_1_181, vK vv (nu1_1_181 0)) := by rw [itm_k hz hq, ep, n0]
    refine lv_aload_n C.1 C.2.1 dX4_readItem_187 rfl (lv_at hl 3 rfl) ?_
    refine lv_aload_n C.1 C.2.1 dX4_readItem_188 rfl (lv_at hl 1 rfl) ?_
    refine r_get C hK hP kw_X4 (ci := 3) rfl 0 0 (by decide) kf_X4_9 rfl rfl dX4_readItem_189 ?_
    refine r_iconst 0 C dX4_readItem_192 rfl ?_
    refine r_aldN C hK hP 1 rfl ⟨by omega, by omega⟩ dX4_readItem_193 ?_
    refine wr_callV (As := [nV (nu1_1_181 0)]) (rest := []) C hK (c_X8_addBaker l g v v0 v1 v2 v3 v4 (vkn vv) (vk vv) (vnc vv) (vnb vv) (vbi vv) (vmo vv) (nu1_1_181 0) (by first | assumption | omega) (by first | assumption | omega)) [4, 9] rfl (fun _ => rfl) (by decide) hP hD hS hA (ci := 6) (q0 := 0) rfl rfl kc_X8_addBaker kl_X4_53 kn_X8 ki_X8_addBaker ke_X8_addBaker nk_X8_addBaker (rm_lt (by decide) (by decide)) hl rfl (Nat.le_of_ble_eq_true rfl) dX4_readItem_194 (fun r_22 u_24 H locs hr_23 hP hD hS => ?_)
    have hP : va_P g.1 vwCl [(rd0, .inr (3, [.ref rd1, nV pl1_1_181])), (rd1, cN g 4 nu1_1_181), (t, .inr (5, [.ref t0, nV Lt])), (t0, cB g 300 u), (v, .inr (6, [.ref v0, .ref v1, .ref v2, .ref v3, .ref v4, nV (vk vv), nV (vnc vv), nV (if ab (vnb vv) (nu1_1_181 0) = true then (vnb vv) + 1 else (vnb vv)), nV (vbi vv), nV (vmo vv)])), (v0, cN g 8 (vsg vv)), (v1, cN g 8 (vwo vv)), (v2, cN g 5 (vhu vv)), (v3, cN g 5 (vmi vv)), (v4, cN g 5 (if ab (vnb vv) (nu1_1_181 0) = true then upN (vkn vv) (vnb vv) (nu1_1_181 0) else (vkn vv)))] H := hP
    have hD : va_D A [(rd0, .inr (3, [.ref rd1, nV pl1_1_181])), (rd1, cN g 4 nu1_1_181), (t, .inr (5, [.ref t0, nV Lt])), (t0, cB g 300 u), (v, .inr (6, [.ref v0, .ref v1, .ref v2, .ref v3, .ref v4, nV (vk vv), nV (vnc vv), nV (if ab (vnb vv) (nu1_1_181 0) = true then (vnb vv) + 1 else (vnb vv)), nV (vbi vv), nV (vmo vv)])), (v0, cN g 8 (vsg vv)), (v1, cN g 8 (vwo vv)), (v2, cN g 5 (vhu vv)), (v3, cN g 5 (vmi vv)), (v4, cN g 5 (if ab (vnb vv) (nu1_1_181 0) = true then upN (vkn vv) (vnb vv) (nu1_1_181 0) else (vkn vv)))] := hD
    subst hr_23
    refine r_beq 204 C dX4_readItem_197 rfl (fun g2 => ?_) (fun g2 => ?_)
    · skip
      refine r_iconst 0 C dX4_readItem_204 rfl ?_
      exact ret ((pl1_1_181, nu1_1_181)) dX4_readItem_205 (by decide) hS (by first | (rw [ei]; exact hP) | (have en : itm u Lt x vv = (false, 0, vv) := itm_none (n := 1) (by rw [hz]; rfl) (by simpa using g1); rw [en]; exact hP)) (by first | (exact ⟨bI_z (by rw [ei]; exact g2), fun h => by rw [ei] at h; exact absurd h g2⟩) | (have en : itm u Lt x vv = (false, 0, vv) := itm_none (n := 1) (by rw [hz]; rfl) (by simpa using g1); exact ⟨bI_z (by rw [en]; exact Bool.false_ne_true), fun h => by rw [en] at h; cases h⟩))
    refine r_iconst 1 C dX4_readItem_200 rfl ?_
    refine r_goto 205 C dX4_readItem_201 rfl ?_
    exact ret ((pl1_1_181, nu1_1_181)) dX4_readItem_205 (by decide) hS (by first | (rw [ei]; exact hP) | (have en : itm u Lt x vv = (false, 0, vv) := itm_none (n := 1) (by rw [hz]; rfl) (by simpa using g1); rw [en]; exact hP)) (⟨bI_1 (by rw [ei]; exact g2), fun _ => by rw [ei]⟩)
  by_cases hs_25 : chr u Lt x = 119
  · refine r_lsw 64 C dX4_readItem_20 (by decide) (⟨by omega, by omega⟩) (by rw [hs_25] <;> rfl) rfl ?_
    have hz : chr u Lt x = 119 := by assumption
    refine lv_aload_n C.1 C.2.1 dX4_readItem_64 rfl (lv_at hl 1 rfl) ?_
    refine lv_aload_n C.1 C.2.1 dX4_readItem_65 rfl (lv_at hl 2 rfl) ?_
    refine r_iconst 4 C dX4_readItem_66 rfl ?_
    refine wr_callV (As := [.ref t, nV 4]) (rest := []) C hK (c_X4_readNumbers l g rd0 rd1 (x + 1) nu t t0 u Lt 4 (by first | assumption | omega) (by first | assumption | omega) (by first | assumption | omega) (by first | assumption | omega)) [0, 1, 2, 3] rfl (fun _ => rfl) (by decide) hP hD hS hA (ci := 3) (q0 := 0) rfl rfl kc_X4_readNumbers kl_X4_38 kn_X4 ki_X4_readNumbers ke_X4_readNumbers nk_X4_readNumbers (rm_lt (by decide) (by decide)) hl rfl (Nat.le_of_ble_eq_true rfl) dX4_readItem_67 (fun r_26 u_28 H locs hr_27 hP hD hS => ?_)
    obtain ⟨pl1_4_67, nu1_4_67⟩ := u_28
    have hP : va_P g.1 vwCl [(rd0, .inr (3, [.ref rd1, nV pl1_4_67])), (rd1, cN g 4 nu1_4_67), (t, .inr (5, [.ref t0, nV Lt])), (t0, cB g 300 u), (v, .inr (6, [.ref v0, .ref v1, .ref v2, .ref v3, .ref v4, nV (vk vv), nV (vnc vv), nV (vnb vv), nV (vbi vv), nV (vmo vv)])), (v0, cN g 8 (vsg vv)), (v1, cN g 8 (vwo vv)), (v2, cN g 5 (vhu vv)), (v3, cN g 5 (vmi vv)), (v4, cN g 5 (vkn vv))] H := hP
    have hD : va_D A [(rd0, .inr (3, [.ref rd1, nV pl1_4_67])), (rd1, cN g 4 nu1_4_67), (t, .inr (5, [.ref t0, nV Lt])), (t0, cB g 300 u), (v, .inr (6, [.ref v0, .ref v1, .ref v2, .ref v3, .ref v4, nV (vk vv), nV (vnc vv), nV (vnb vv), nV (vbi vv), nV (vmo vv)])), (v0, cN g 8 (vsg vv)), (v1, cN g 8 (vwo vv)), (v2, cN g 5 (vhu vv)), (v3, cN g 5 (vmi vv)), (v4, cN g 5 (vkn vv))] := hD
    try dsimp only at hr_27
    obtain ⟨hxr_26, hr_27⟩ := hr_27
    subst hxr_26
    have hpo := hr_27
    refine r_beq 108 C dX4_readItem_70 rfl (fun g1 => ?_) (fun g1 => ?_)
    · skip
      refine r_iconst 0 C dX4_readItem_108 rfl ?_
      exact ret ((pl1_4_67, nu1_4_67)) dX4_readItem_109 (by decide) hS (by first | (rw [ei]; exact hP) | (have en : itm u Lt x vv = (false, 0, vv) := itm_none (n := 4) (by rw [hz]; rfl) (by simpa using g1); rw [en]; exact hP)) (by first | (exact ⟨bI_z (by rw [ei]; exact g2), fun h => by rw [ei] at h; exact absurd h g2⟩) | (have en : itm u Lt x vv = (false, 0, vv) := itm_none (n := 4) (by rw [hz]; rfl) (by simpa using g1); exact ⟨bI_z (by rw [en]; exact Bool.false_ne_true), fun h => by rw [en] at h; cases h⟩))
    obtain ⟨q, hq⟩ := Option.isSome_iff_exists.mp g1
    obtain ⟨ep, en⟩ := hpo q hq
    have hb := (rna_ok hq).1
    have n0 : nu1_4_67 0 = q.2 0 := en 0 (by decide)
    have b0 : nu1_4_67 0 < 100 := by rw [n0]; exact hb 0 (by decide)
    have n1 : nu1_4_67 1 = q.2 1 := en 1 (by decide)
    have b1 : nu1_4_67 1 < 100 := by rw [n1]; exact hb 1 (by decide)
    have n2 : nu1_4_67 2 = q.2 2 := en 2 (by decide)
    have b2 : nu1_4_67 2 < 100 := by rw [n2]; exact hb 2 (by decide)
    have n3 : nu1_4_67 3 = q.2 3 := en 3 (by decide)
    have b3 : nu1_4_67 3 < 100 := by rw [n3]; exact hb 3 (by decide)
    have ei : itm u Lt x vv = (aw (vsg vv) (vk vv) (nu1_4_67 0) (nu1_4_67 1) (nu1_4_67 2), pl1_4_67, vW vv (nu1_4_67 0) (nu1_4_67 1) (nu1_4_67 2) (nu1_4_67 3)) := by rw [itm_w hz hq, ep, n0, n1, n2, n3]
    refine lv_aload_n C.1 C.2.1 dX4_readItem_73 rfl (lv_at hl 3 rfl) ?_
    refine lv_aload_n C.1 C.2.1 dX4_readItem_74 rfl (lv_at hl 1 rfl) ?_
    refine r_get C hK hP kw_X4 (ci := 3) rfl 0 0 (by decide) kf_X4_9 rfl rfl dX4_readItem_75 ?_
    refine r_iconst 0 C dX4_readItem_78 rfl ?_
    refine r_aldN C hK hP 1 rfl ⟨by omega, by omega⟩ dX4_readItem_79 ?_
    refine lv_aload_n C.1 C.2.1 dX4_readItem_80 rfl (lv_at hl 1 rfl) ?_
    refine r_get C hK hP kw_X4 (ci := 3) rfl 0 0 (by decide) kf_X4_9 rfl rfl dX4_readItem_81 ?_
    refine r_iconst 1 C dX4_readItem_84 rfl ?_
    refine r_aldN C hK hP 1 rfl ⟨by omega, by omega⟩ dX4_readItem_85 ?_
    refine lv_aload_n C.1 C.2.1 dX4_readItem_86 rfl (lv_at hl 1 rfl) ?_
    refine r_get C hK hP kw_X4 (ci := 3) rfl 0 0 (by decide) kf_X4_9 rfl rfl dX4_readItem_87 ?_
    refine r_iconst 2 C dX4_readItem_90 rfl ?_
    refine r_aldN C hK hP 1 rfl ⟨by omega, by omega⟩ dX4_readItem_91 ?_
    refine lv_aload_n C.1 C.2.1 dX4_readItem_92 rfl (lv_at hl 1 rfl) ?_
    refine r_get C hK hP kw_X4 (ci := 3) rfl 0 0 (by decide) kf_X4_9 rfl rfl dX4_readItem_93 ?_
    refine r_iconst 3 C dX4_readItem_96 rfl ?_
    refine r_aldN C hK hP 1 rfl ⟨by omega, by omega⟩ dX4_readItem_97 ?_
    refine wr_callV (As := [nV (nu1_4_67 0), nV (nu1_4_67 1), nV (nu1_4_67 2), nV (nu1_4_67 3)]) (rest := []) C hK (c_X8_addWord l g v v0 v1 v2 v3 v4 (vsg vv) (vwo vv) (vk vv) (vnc vv) (vnb vv) (vbi vv) (vmo vv) (nu1_4_67 0) (nu1_4_67 1) (nu1_4_67 2) (nu1_4_67 3) (by first | assumption | omega) (by first | assumption | omega) (by first | assumption | omega) (by first | assumption | omega) (by first | assumption | omega) (by first | assumption | omega)) [4, 5, 6] rfl (fun _ => rfl) (by decide) hP hD hS hA (ci := 6) (q0 := 0) rfl rfl kc_X8_addWord kl_X4_42 kn_X8 ki_X8_addWord ke_X8_addWord nk_X8_addWord (rm_lt (by decide) (by decide)) hl rfl (Nat.le_of_ble_eq_true rfl) dX4_readItem_98 (fun r_29 u_31 H locs hr_30 hP hD hS => ?_)
    have hP : va_P g.1 vwCl [(rd0, .inr (3, [.ref rd1, nV pl1_4_67])), (rd1, cN g 4 nu1_4_67), (t, .inr (5, [.ref t0, nV Lt])), (t0, cB g 300 u), (v, .inr (6, [.ref v0, .ref v1, .ref v2, .ref v3, .ref v4, nV (if aw (vsg vv) (vk vv) (nu1_4_67 0) (nu1_4_67 1) (nu1_4_67 2) = true then (vk vv) + 1 else (vk vv)), nV (vnc vv), nV (vnb vv), nV (vbi vv), nV (vmo vv)])), (v0, cN g 8 (if aw (vsg vv) (vk vv) (nu1_4_67 0) (nu1_4_67 1) (nu1_4_67 2) = true then upN (vsg vv) (vk vv) ((nu1_4_67 0) + 6 * (nu1_4_67 1) + 24 * (nu1_4_67 2)) else (vsg vv))), (v1, cN g 8 (if aw (vsg vv) (vk vv) (nu1_4_67 0) (nu1_4_67 1) (nu1_4_67 2) = true then upN (vwo vv) (vk vv) (nu1_4_67 3) else (vwo vv))), (v2, cN g 5 (vhu vv)), (v3, cN g 5 (vmi vv)), (v4, cN g 5 (vkn vv))] H := hP
    have hD : va_D A [(rd0, .inr (3, [.ref rd1, nV pl1_4_67])), (rd1, cN g 4 nu1_4_67), (t, .inr (5, [.ref t0, nV Lt])), (t0, cB g 300 u), (v, .inr (6, [.ref v0, .ref v1, .ref v2, .ref v3, .ref v4, nV (if aw (vsg vv) (vk vv) (nu1_4_67 0) (nu1_4_67 1) (nu1_4_67 2) = true then (vk vv) + 1 else (vk vv)), nV (vnc vv), nV (vnb vv), nV (vbi vv), nV (vmo vv)])), (v0, cN g 8 (if aw (vsg vv) (vk vv) (nu1_4_67 0) (nu1_4_67 1) (nu1_4_67 2) = true then upN (vsg vv) (vk vv) ((nu1_4_67 0) + 6 * (nu1_4_67 1) + 24 * (nu1_4_67 2)) else (vsg vv))), (v1, cN g 8 (if aw (vsg vv) (vk vv) (nu1_4_67 0) (nu1_4_67 1) (nu1_4_67 2) = true then upN (vwo vv) (vk vv) (nu1_4_67 3) else (vwo vv))), (v2, cN g 5 (vhu vv)), (v3, cN g 5 (vmi vv)), (v4, cN g 5 (vkn vv))] := hD
    subst hr_30
    refine r_beq 108 C dX4_readItem_101 rfl (fun g2 => ?_) (fun g2 => ?_)
    · skip
      refine r_iconst 0 C dX4_readItem_108 rfl ?_
      exact ret ((pl1_4_67, nu1_4_67)) dX4_readItem_109 (by decide) hS (by first | (rw [ei]; exact hP) | (have en : itm u Lt x vv = (false, 0, vv) := itm_none (n := 4) (by rw [hz]; rfl) (by simpa using g1); rw [en]; exact hP)) (by first | (exact ⟨bI_z (by rw [ei]; exact g2), fun h => by rw [ei] at h; exact absurd h g2⟩) | (have en : itm u Lt x vv = (false, 0, vv) := itm_none (n := 4) (by rw [hz]; rfl) (by simpa using g1); exact ⟨bI_z (by rw [en]; exact Bool.false_ne_true), fun h => by rw [en] at h; cases h⟩))
    refine r_iconst 1 C dX4_readItem_104 rfl ?_
    refine r_goto 109 C dX4_readItem_105 rfl ?_
    exact ret ((pl1_4_67, nu1_4_67)) dX4_readItem_109 (by decide) hS (by first | (rw [ei]; exact hP) | (have en : itm u Lt x vv = (false, 0, vv) := itm_none (n := 4) (by rw [hz]; rfl) (by simpa using g1); rw [en]; exact hP)) (⟨bI_1 (by rw [ei]; exact g2), fun _ => by rw [ei]⟩)
  refine r_lsw 206 C dX4_readItem_20 (by decide) (⟨by omega, by omega⟩) (by show Op.lookupswitch.offset [(98, 90), (99, 124), (107, 158), (119, 44)] 186 _ = _; rw [Op.lookupswitch.offset_cons, if_neg (by omega), Op.lookupswitch.offset_cons, if_neg (by omega), Op.lookupswitch.offset_cons, if_neg (by omega), Op.lookupswitch.offset_cons, if_neg (by omega)] <;> rfl) rfl ?_
  refine r_iconst 0 C dX4_readItem_206 rfl ?_
  exact ret ((x + 1, nu)) dX4_readItem_207 (by decide) hS (by have en : itm u Lt x vv = (false, 0, vv) := itm_def (by omega) (by omega) (by omega) (by omega); rw [en]; exact hP) (by have en : itm u Lt x vv = (false, 0, vv) := itm_def (by omega) (by omega) (by omega) (by omega); exact ⟨bI_z (by rw [en]; exact Bool.false_ne_true), fun h => by rw [en] at h; cases h⟩)
set_option maxHeartbeats 4000000 in
set_option maxRecDepth 100000 in
theorem c_X4_firstFault (l : Launch) (g : GG) (rd0 : Nat) (rd1 : Nat) (x : Nat) (nu : Nat → Nat) (t : Nat) (t0 : Nat) (u : Nat → Nat) (Lt : Nat) (v : Nat) (v0 : Nat) (v1 : Nat) (v2 : Nat) (v3 : Nat) (v4 : Nat) (sg : Nat → Nat) (wo : Nat → Nat) (hu : Nat → Nat) (mi : Nat → Nat) (kn : Nat → Nat) (k : Nat) (nc : Nat) (nb : Nat) (bi : Nat) (mo : Nat) (hux : ∀ j, u j < 256) (hLt : Lt ≤ 300) (hsg : ∀ j, sg j < 72) (hwo : ∀ j, wo j < 100) (hhu : ∀ j, hu j < 10) (hmi : ∀ j, mi j ≤ 6) (hkn : ∀ j, kn j < 64) : WRi g l yX4_firstFault cX4_firstFault 5 (some .int) 6 [(rd0, .inr (3, [.ref rd1, nV x])), (rd1, cN g 4 nu), (t, .inr (5, [.ref t0, nV Lt])), (t0, cB g 300 u), (v, .inr (6, [.ref v0, .ref v1, .ref v2, .ref v3, .ref v4, nV k, nV nc, nV nb, nV bi, nV mo])), (v0, cN g 8 sg), (v1, cN g 8 wo), (v2, cN g 5 hu), (v3, cN g 5 mi), (v4, cN g 5 kn)] [.ref rd0, .ref t, .ref v] (fun r (uq_ : Nat × (Nat → Nat)) => match uq_ with | (pl1, nu1) => r = iI ((prs u Lt 300 0 (sg, wo, hu, mi, kn, 0, 0, 0, 2, 3)).1)) (fun (uq_ : Nat × (Nat → Nat)) => match uq_ with | (pl1, nu1) => [(rd0, .inr (3, [.ref rd1, nV pl1])), (rd1, cN g 4 nu1), (t, .inr (5, [.ref t0, nV Lt])), (t0, cB g 300 u), (v, .inr (6, [.ref v0, .ref v1, .ref v2, .ref v3, .ref v4, nV (vk ((prs u Lt 300 0 (sg, wo, hu, mi, kn, 0, 0, 0, 2, 3)).2)), nV (vnc ((prs u Lt 300 0 (sg, wo, hu, mi, kn, 0, 0, 0, 2, 3)).2)), nV (vnb ((prs u Lt 300 0 (sg, wo, hu, mi, kn, 0, 0, 0, 2, 3)).2)), nV (vbi ((prs u Lt 300 0 (sg, wo, hu, mi, kn, 0, 0, 0, 2, 3)).2)), nV (vmo ((prs u Lt 300 0 (sg, wo, hu, mi, kn, 0, 0, 0, 2, 3)).2))])), (v0, cN g 8 (vsg ((prs u Lt 300 0 (sg, wo, hu, mi, kn, 0, 0, 0, 2, 3)).2))), (v1, cN g 8 (vwo ((prs u Lt 300 0 (sg, wo, hu, mi, kn, 0, 0, 0, 2, 3)).2))), (v2, cN g 5 (vhu ((prs u Lt 300 0 (sg, wo, hu, mi, kn, 0, 0, 0, 2, 3)).2))), (v3, cN g 5 (vmi ((prs u Lt 300 0 (sg, wo, hu, mi, kn, 0, 0, 0, 2, 3)).2))), (v4, cN g 5 (vkn ((prs u Lt 300 0 (sg, wo, hu, mi, kn, 0, 0, 0, 2, 3)).2)))]) := by
  refine wr_startI (by decide +kernel) (Nat.le_of_ble_eq_true rfl) ?_
  intro p e s m args below meth c Q A ls C hK hA ret hP hD hS hl
  have C : CT p s m args meth c cX4_firstFault RX4 5 := C
  have hl : lv_has ls 5 [(0, .ref rd0), (1, .ref t), (2, .ref v)] := hl
  refine lv_aload_n C.1 C.2.1 dX4_firstFault_0 rfl (lv_at hl 2 rfl) ?_
  refine wr_callVV (As := []) (rest := []) C hK (c_X8_clear l g v v0 v1 v2 v3 v4 k nc nb bi mo) [4] rfl (fun _ => rfl) (by decide) hP hD hS hA (ci := 6) (q0 := 0) rfl rfl kc_X8_clear kl_X4_15 kn_X8 ki_X8_clear ke_X8_clear nk_X8_clear (rm_lt (by decide) (by decide)) hl rfl (Nat.le_of_ble_eq_true rfl) dX4_firstFault_1 (fun u_3 H locs hr_2 hP hD hS => ?_)
  have hP : va_P g.1 vwCl [(rd0, .inr (3, [.ref rd1, nV x])), (rd1, cN g 4 nu), (t, .inr (5, [.ref t0, nV Lt])), (t0, cB g 300 u), (v, .inr (6, [.ref v0, .ref v1, .ref v2, .ref v3, .ref v4, nV 0, nV 0, nV 0, nV 2, nV 3])), (v0, cN g 8 sg), (v1, cN g 8 wo), (v2, cN g 5 hu), (v3, cN g 5 mi), (v4, cN g 5 kn)] H := hP
  have hD : va_D A [(rd0, .inr (3, [.ref rd1, nV x])), (rd1, cN g 4 nu), (t, .inr (5, [.ref t0, nV Lt])), (t0, cB g 300 u), (v, .inr (6, [.ref v0, .ref v1, .ref v2, .ref v3, .ref v4, nV 0, nV 0, nV 0, nV 2, nV 3])), (v0, cN g 8 sg), (v1, cN g 8 wo), (v2, cN g 5 hu), (v3, cN g 5 mi), (v4, cN g 5 kn)] := hD
  refine lv_aload_n C.1 C.2.1 dX4_firstFault_4 rfl (lv_at hl 0 rfl) ?_
  refine r_iconst 0 C dX4_firstFault_5 rfl ?_
  refine r_put (v := nV 0) C hK hP hD hS kw_X4 tyX4_ok nmX4 (ci := 3) rfl 0 1 (by decide) kf_X4_20 rfl rfl rfl rfl rfl (Nat.le_of_ble_eq_true rfl) dX4_firstFault_6 (fun H locs hP hD hS => ?_)
  have hP : va_P g.1 vwCl [(rd0, .inr (3, [.ref rd1, nV 0])), (rd1, cN g 4 nu), (t, .inr (5, [.ref t0, nV Lt])), (t0, cB g 300 u), (v, .inr (6, [.ref v0, .ref v1, .ref v2, .ref v3, .ref v4, nV 0, nV 0, nV 0, nV 2, nV 3])), (v0, cN g 8 sg), (v1, cN g 8 wo), (v2, cN g 5 hu), (v3, cN g 5 mi), (v4, cN g 5 kn)] H := hP
  have hD : va_D A [(rd0, .inr (3, [.ref rd1, nV 0])), (rd1, cN g 4 nu), (t, .inr (5, [.ref t0, nV Lt])), (t0, cB g 300 u), (v, .inr (6, [.ref v0, .ref v1, .ref v2, .ref v3, .ref v4, nV 0, nV 0, nV 0, nV 2, nV 3])), (v0, cN g 8 sg), (v1, cN g 8 wo), (v2, cN g 5 hu), (v3, cN g 5 mi), (v4, cN g 5 kn)] := hD
  refine r_iconst 0 C dX4_firstFault_9 rfl ?_
  refine lv_istore_n (lv' := [(3, nV 0), (0, .ref rd0), (1, .ref t), (2, .ref v)]) C.1 C.2.1 dX4_firstFault_10 rfl hl (by decide) rfl (fun ls hl => ?_)
  have L11 : ∀ (n_11 : Nat) (i : Nat) (pl : Nat) (nw : Nat → Nat) (vv : VS) (H : Heap) (locs : List Loc) (ls : Array Slot) (hi : i ≤ 300) (hpl : pl ≤ 300) (hv : VOK vv) (hpr : prs u Lt (300 - i) pl vv = prs u Lt 300 0 (sg, wo, hu, mi, kn, 0, 0, 0, 2, 3)) (hm : 300 - i < n_11) (hP : va_P g.1 vwCl [(rd0, .inr (3, [.ref rd1, nV pl])), (rd1, cN g 4 nw), (t, .inr (5, [.ref t0, nV Lt])), (t0, cB g 300 u), (v, .inr (6, [.ref v0, .ref v1, .ref v2, .ref v3, .ref v4, nV (vk vv), nV (vnc vv), nV (vnb vv), nV (vbi vv), nV (vmo vv)])), (v0, cN g 8 (vsg vv)), (v1, cN g 8 (vwo vv)), (v2, cN g 5 (vhu vv)), (v3, cN g 5 (vmi vv)), (v4, cN g 5 (vkn vv))] H) (hD : va_D A [(rd0, .inr (3, [.ref rd1, nV pl])), (rd1, cN g 4 nw), (t, .inr (5, [.ref t0, nV Lt])), (t0, cB g 300 u), (v, .inr (6, [.ref v0, .ref v1, .ref v2, .ref v3, .ref v4, nV (vk vv), nV (vnc vv), nV (vnb vv), nV (vbi vv), nV (vmo vv)])), (v0, cN g 8 (vsg vv)), (v1, cN g 8 (vwo vv)), (v2, cN g 5 (vhu vv)), (v3, cN g 5 (vmi vv)), (v4, cN g 5 (vkn vv))]) (hS : va_S A s.heap H locs) (hl : lv_has ls 5 [(3, nV i), (0, .ref rd0), (1, .ref t), (2, .ref v)]), W p l e (rD 6) s m args below meth c H locs 0 0 Q (F0 m 11 ls []) := by
    intro n_11
    induction n_11 with
    | zero => intro i pl nw vv H locs ls hi hpl hv hpr hm hP hD hS hl; exact absurd hm (Nat.not_lt_zero _)
    | succ n_11 ih_11 =>
      intro i pl nw vv H locs ls hi hpl hv hpr hm hP hD hS hl
      refine lv_iload_n C.1 C.2.1 dX4_firstFault_11 rfl (lv_at hl 0 rfl) ?_
      refine r_sipush 300 C dX4_firstFault_12 (by decide) ?_
      refine r_cge 53 C dX4_firstFault_15 rfl ⟨rgN (by omega), rgN (by decide)⟩ (fun h_4 => ?_) (fun h_4 => ?_)
      · skip
        refine r_bipushZ C dX4_firstFault_53 (by decide) ?_
        exact ret ((pl, nw)) dX4_firstFault_55 hS (by have e := hpr; rw [prs_end (by omega)] at e; rw [← e]; exact hP) (by have e := hpr; rw [prs_end (by omega)] at e; rw [← e] <;> rfl)
      refine lv_aload_n C.1 C.2.1 dX4_firstFault_18 rfl (lv_at hl 1 rfl) ?_
      refine r_get C hK hP kw_X4 (ci := 3) rfl 0 1 (by decide) kf_X4_20 rfl rfl dX4_firstFault_19 ?_
      refine lv_aload_n C.1 C.2.1 dX4_firstFault_22 rfl (lv_at hl 2 rfl) ?_
      refine ro_callV (As := []) (rest := [nV pl]) C hK (c_X7_length l g t t0 Lt) (hP.sub (ws' := [(t, .inr (5, [.ref t0, nV Lt]))]) [2] rfl) (ci := 5) (q0 := 0) rfl rfl kc_X7_length kl_X4_26 kn_X7 ki_X7_length ke_X7_length nk_X7_length (rm_lt (by decide) (by decide)) hl rfl (Nat.le_of_ble_eq_true rfl) dX4_firstFault_23 (fun r_5 hr_6 => ?_)
      subst hr_6
      refine r_cge 53 C dX4_firstFault_26 rfl ⟨rgN (by omega), rgN (by omega)⟩ (fun h_7 => ?_) (fun h_7 => ?_)
      · skip
        refine r_bipushZ C dX4_firstFault_53 (by decide) ?_
        exact ret ((pl, nw)) dX4_firstFault_55 hS (by have e := hpr; rw [prs_end (by omega)] at e; rw [← e]; exact hP) (by have e := hpr; rw [prs_end (by omega)] at e; rw [← e] <;> rfl)
      refine lv_aload_n C.1 C.2.1 dX4_firstFault_29 rfl (lv_at hl 1 rfl) ?_
      refine r_get C hK hP kw_X4 (ci := 3) rfl 0 1 (by decide) kf_X4_20 rfl rfl dX4_firstFault_30 ?_
      refine lv_istore (lv' := [(4, nV pl), (3, nV i), (0, .ref rd0), (1, .ref t), (2, .ref v)]) C.1 C.2.1 dX4_firstFault_33 hl (by decide) rfl (fun ls hl => ?_)
      refine lv_aload_n C.1 C.2.1 dX4_firstFault_35 rfl (lv_at hl 2 rfl) ?_
      refine lv_aload_n C.1 C.2.1 dX4_firstFault_36 rfl (lv_at hl 3 rfl) ?_
      refine lv_aload_n C.1 C.2.1 dX4_firstFault_37 rfl (lv_at hl 4 rfl) ?_
      refine wr_callV (As := [.ref t, .ref v]) (rest := []) C hK (c_X4_readItem l g rd0 rd1 pl nw t t0 u Lt v v0 v1 v2 v3 v4 vv (by first | assumption | omega) (by first | assumption | omega) (by first | assumption | omega) (by first | assumption | omega)) [0, 1, 2, 3, 4, 5, 6, 7, 8, 9] rfl (fun _ => rfl) (by decide) hP hD hS hA (ci := 3) (q0 := 0) rfl rfl kc_X4_readItem kl_X4_30 kn_X4 ki_X4_readItem ke_X4_readItem nk_X4_readItem (rm_lt (by decide) (by decide)) hl rfl (Nat.le_of_ble_eq_true rfl) dX4_firstFault_38 (fun r_8 u_10 H locs hr_9 hP hD hS => ?_)
      obtain ⟨pl1_x, nu1_x⟩ := u_10
      have hP : va_P g.1 vwCl [(rd0, .inr (3, [.ref rd1, nV pl1_x])), (rd1, cN g 4 nu1_x), (t, .inr (5, [.ref t0, nV Lt])), (t0, cB g 300 u), (v, .inr (6, [.ref v0, .ref v1, .ref v2, .ref v3, .ref v4, nV (vk ((itm u Lt pl vv).2.2)), nV (vnc ((itm u Lt pl vv).2.2)), nV (vnb ((itm u Lt pl vv).2.2)), nV (vbi ((itm u Lt pl vv).2.2)), nV (vmo ((itm u Lt pl vv).2.2))])), (v0, cN g 8 (vsg ((itm u Lt pl vv).2.2))), (v1, cN g 8 (vwo ((itm u Lt pl vv).2.2))), (v2, cN g 5 (vhu ((itm u Lt pl vv).2.2))), (v3, cN g 5 (vmi ((itm u Lt pl vv).2.2))), (v4, cN g 5 (vkn ((itm u Lt pl vv).2.2)))] H := hP
      have hD : va_D A [(rd0, .inr (3, [.ref rd1, nV pl1_x])), (rd1, cN g 4 nu1_x), (t, .inr (5, [.ref t0, nV Lt])), (t0, cB g 300 u), (v, .inr (6, [.ref v0, .ref v1, .ref v2, .ref v3, .ref v4, nV (vk ((itm u Lt pl vv).2.2)), nV (vnc ((itm u Lt pl vv).2.2)), nV (vnb ((itm u Lt pl vv).2.2)), nV (vbi ((itm u Lt pl vv).2.2)), nV (vmo ((itm u Lt pl vv).2.2))])), (v0, cN g 8 (vsg ((itm u Lt pl vv).2.2))), (v1, cN g 8 (vwo ((itm u Lt pl vv).2.2))), (v2, cN g 5 (vhu ((itm u Lt pl vv).2.2))), (v3, cN g 5 (vmi ((itm u Lt pl vv).2.2))), (v4, cN g 5 (vkn ((itm u Lt pl vv).2.2)))] := hD
      try dsimp only at hr_9
      obtain ⟨hxr_8, hr_9⟩ := hr_9
      subst hxr_8
      have hpo := hr_9
      refine r_bne 47 C dX4_firstFault_41 rfl (fun g3 => ?_) (fun g3 => ?_)
      · skip
        refine r_incN (k := 1) (n := 1) [(3, nV (i + 1)), (4, nV pl), (0, .ref rd0), (1, .ref t), (2, .ref v)] C dX4_firstFault_47 hl rfl rfl (by decide) rfl (fun ls hl => ?_)
        refine r_goto 11 C dX4_firstFault_50 rfl ?_
        exact ih_11 (i + 1) pl1_x nu1_x ((itm u Lt pl vv).2.2) _ _ _ (by first | assumption | omega) (by rw [hpo g3]; exact Nat.le_trans (itm_p g3).2 hLt) (VOK_itm hv) (by rw [hpo g3, ← hpr, show 300 - i = 300 - (i + 1) + 1 by omega, prs_go (by omega) g3]) (by omega) hP hD hS (lv_sub hl [0, 2, 3, 4] rfl)
      refine lv_iload C.1 C.2.1 dX4_firstFault_44 (lv_at hl 0 rfl) ?_
      exact ret ((pl1_x, nu1_x)) dX4_firstFault_46 hS (by have e := hpr; rw [show 300 - i = 299 - i + 1 by omega, prs_no (by omega) g3] at e; rw [← e]; exact hP) (by have e := hpr; rw [show 300 - i = 299 - i + 1 by omega, prs_no (by omega) g3] at e; rw [← e] <;> rfl)
  exact L11 (300 - 0 + 1) 0 0 nu (sg, wo, hu, mi, kn, 0, 0, 0, 2, 3) _ _ _ (by first | assumption | omega) (by first | assumption | omega) (VOK_0 hsg hwo hhu hmi hkn) (rfl) (Nat.lt_succ_self _) hP hD hS (lv_sub hl [0, 1, 2, 3] rfl)
