set_option maxHeartbeats 4000000 in
set_option maxRecDepth 100000 in
theorem c_X10_isApart (l : Launch) (g : GG) (mo0 : Nat) (mA1 : Nat) (mA3 : Nat) (mA4 : Nat) (mA5 : Nat) (mA6 : Nat) (mA7 : Nat) (mA8 : Nat) (mA9 : Nat) (mA10 : Nat) (mA11 : Nat) (mA12 : Nat) (mA15 : Nat) (mA16 : Nat) (mA17 : Nat) (mA20 : Nat) (mL : Nat) (mAt : Nat) (kz : Nat) (dn : Nat) (mAb : Nat) (mBe : Nat) (mCl : Int) (mre : Nat → Bool) (SS : Nat → Nat → Bool) (x : Nat) (y : Nat) (hre : ∀ x t, x < 72 → t < 72 → mre (72 * x + t) = SS x t) (hx : x < 72) (hy : y < 72) : ROi g l yX10_isApart cX10_isApart 5 (some .boolean) 1 [(mo0, .inr (8, [nV mL, .ref mA1, nV mAt, .ref mA3, .ref mA4, .ref mA5, .ref mA6, .ref mA7, .ref mA8, .ref mA9, .ref mA10, .ref mA11, .ref mA12, nV kz, nV dn, .ref mA15, .ref mA16, .ref mA17, mV mAb, mV mBe, .ref mA20, zV mCl])), (mA16, cO g 5184 mre)] [.ref mo0, nV x, nV y] (fun r => r = bI (¬ mtB (SS x) (SS y) 72 = true)) := by
  refine ro_startZ (by decide +kernel) (Nat.le_of_ble_eq_true rfl) ?_
  intro p e s m args below meth c Q ls C hK hP ret hl
  have C : CT p s m args meth c cX10_isApart RX10 5 := C
  have hl : lv_has ls 5 [(0, .ref mo0), (1, nV x), (2, nV y)] := hl
  refine r_iconst 1 C dX10_isApart_0 rfl ?_
  refine lv_istore_n (lv' := [(3, nV 1), (0, .ref mo0), (1, nV x), (2, nV y)]) C.1 C.2.1 dX10_isApart_1 rfl hl (by decide) rfl (fun ls hl => ?_)
  refine r_iconst 0 C dX10_isApart_2 rfl ?_
  refine lv_istore (lv' := [(4, nV 0), (3, nV 1), (0, .ref mo0), (1, nV x), (2, nV y)]) C.1 C.2.1 dX10_isApart_3 hl (by decide) rfl (fun ls hl => ?_)
  have L5 : ∀ (n_5 : Nat) (i : Nat) (zz : Nat) (ls : Array Slot) (hi : i ≤ 72) (hz : zz = if mtB (SS x) (SS y) i = true then 0 else 1) (hm : 72 - i < n_5) (hl : lv_has ls 5 [(4, nV i), (3, nV zz), (0, .ref mo0), (1, nV x), (2, nV y)]), W p l e (rD 1) s m args below meth c s.heap [] 0 0 Q (F0 m 5 ls []) := by
    intro n_5
    induction n_5 with
    | zero => intro i zz ls hi hz hm hl; exact absurd hm (Nat.not_lt_zero _)
    | succ n_5 ih_5 =>
      intro i zz ls hi hz hm hl
      refine lv_iload C.1 C.2.1 dX10_isApart_5 (lv_at hl 0 rfl) ?_
      refine r_bipush 72 C dX10_isApart_7 (by decide) ?_
      refine r_cge 58 C dX10_isApart_9 rfl ⟨rgN (by omega), rgN (by decide)⟩ (fun h_1 => ?_) (fun h_1 => ?_)
      · skip
        refine lv_iload_n C.1 C.2.1 dX10_isApart_58 rfl (lv_at hl 1 rfl) ?_
        exact ret dX10_isApart_59 (nar_01 (by rw [hz]; split <;> omega)) (by rw [show i = 72 by omega] at hz; by_cases w : mtB (SS x) (SS y) 72 = true; (rw [if_pos w] at hz; rw [hz]; exact bI_z (fun q => q w)); (rw [if_neg w] at hz; rw [hz]; exact bI_1 w))
      have hzb : zz ≤ 1 := by rw [hz]; split <;> omega
      refine lv_iload_n C.1 C.2.1 dX10_isApart_12 rfl (lv_at hl 1 rfl) ?_
      refine r_ieq 50 C dX10_isApart_13 rfl (rgN (by omega)) (fun gz => ?_) (fun gz => ?_)
      · skip
        refine r_iconst 0 C dX10_isApart_50 rfl ?_
        refine lv_istore_n (lv' := [(3, nV 0), (4, nV i), (0, .ref mo0), (1, nV x), (2, nV y)]) C.1 C.2.1 dX10_isApart_51 rfl hl (by decide) rfl (fun ls hl => ?_)
        refine r_incN (k := 1) (n := 1) [(4, nV (i + 1)), (3, nV 0), (0, .ref mo0), (1, nV x), (2, nV y)] C dX10_isApart_52 hl rfl rfl (by decide) rfl (fun ls hl => ?_)
        refine r_goto 5 C dX10_isApart_55 rfl ?_
        exact ih_5 (i + 1) 0 _ (by first | assumption | omega) (by show _ = if (mtB (SS x) (SS y) i || (SS x i && SS y i)) = true then 0 else 1; have q : mtB (SS x) (SS y) i = true := (by by_cases w : mtB (SS x) (SS y) i = true; exact w; rw [if_neg w] at hz; omega); rw [q]; rfl) (by omega) (lv_sub hl [0, 1, 2, 3, 4] rfl)
      have e1 : mre ((72 * x) + i) = SS x i := hre x i hx (by omega)
      have e2 : mre ((72 * y) + i) = SS y i := hre y i hy (by omega)
      refine lv_aload_n C.1 C.2.1 dX10_isApart_16 rfl (lv_at hl 2 rfl) ?_
      refine r_get C hK hP kw_X10 (ci := 8) rfl 0 16 (by decide) kf_X10_47 rfl rfl dX10_isApart_17 ?_
      refine r_bipush 72 C dX10_isApart_20 (by decide) ?_
      refine lv_iload_n C.1 C.2.1 dX10_isApart_22 rfl (lv_at hl 3 rfl) ?_
      refine r_mulN C dX10_isApart_23 ?_
      refine lv_iload C.1 C.2.1 dX10_isApart_24 (lv_at hl 0 rfl) ?_
      refine r_addN C dX10_isApart_26 ?_
      refine r_aldO C hK hP 1 rfl ⟨by omega, by omega⟩ dX10_isApart_27 ?_
      refine r_beq 46 C dX10_isApart_28 rfl (fun b1 => ?_) (fun b1 => ?_)
      · skip
        refine r_iconst 1 C dX10_isApart_46 rfl ?_
        refine r_goto 51 C dX10_isApart_47 rfl ?_
        refine lv_istore_n (lv' := [(3, nV 1), (4, nV i), (0, .ref mo0), (1, nV x), (2, nV y)]) C.1 C.2.1 dX10_isApart_51 rfl hl (by decide) rfl (fun ls hl => ?_)
        refine r_incN (k := 1) (n := 1) [(4, nV (i + 1)), (3, nV 1), (0, .ref mo0), (1, nV x), (2, nV y)] C dX10_isApart_52 hl rfl rfl (by decide) rfl (fun ls hl => ?_)
        refine r_goto 5 C dX10_isApart_55 rfl ?_
        exact ih_5 (i + 1) 1 _ (by first | assumption | omega) (by show _ = if (mtB (SS x) (SS y) i || (SS x i && SS y i)) = true then 0 else 1; have q : mtB (SS x) (SS y) i = false := (by cases w : mtB (SS x) (SS y) i; rfl; rw [w] at hz; simp at hz; omega); rw [q, ← e1, Bool.eq_false_iff.mpr b1]; simp) (by omega) (lv_sub hl [0, 1, 2, 3, 4] rfl)
      refine lv_aload_n C.1 C.2.1 dX10_isApart_31 rfl (lv_at hl 2 rfl) ?_
      refine r_get C hK hP kw_X10 (ci := 8) rfl 0 16 (by decide) kf_X10_47 rfl rfl dX10_isApart_32 ?_
      refine r_bipush 72 C dX10_isApart_35 (by decide) ?_
      refine lv_iload_n C.1 C.2.1 dX10_isApart_37 rfl (lv_at hl 4 rfl) ?_
      refine r_mulN C dX10_isApart_38 ?_
      refine lv_iload C.1 C.2.1 dX10_isApart_39 (lv_at hl 0 rfl) ?_
      refine r_addN C dX10_isApart_41 ?_
      refine r_aldO C hK hP 1 rfl ⟨by omega, by omega⟩ dX10_isApart_42 ?_
      refine r_bne 50 C dX10_isApart_43 rfl (fun b2 => ?_) (fun b2 => ?_)
      · skip
        refine r_iconst 0 C dX10_isApart_50 rfl ?_
        refine lv_istore_n (lv' := [(3, nV 0), (4, nV i), (0, .ref mo0), (1, nV x), (2, nV y)]) C.1 C.2.1 dX10_isApart_51 rfl hl (by decide) rfl (fun ls hl => ?_)
        refine r_incN (k := 1) (n := 1) [(4, nV (i + 1)), (3, nV 0), (0, .ref mo0), (1, nV x), (2, nV y)] C dX10_isApart_52 hl rfl rfl (by decide) rfl (fun ls hl => ?_)
        refine r_goto 5 C dX10_isApart_55 rfl ?_
        exact ih_5 (i + 1) 0 _ (by first | assumption | omega) (by show _ = if (mtB (SS x) (SS y) i || (SS x i && SS y i)) = true then 0 else 1; have q : mtB (SS x) (SS y) i = false := (by cases w : mtB (SS x) (SS y) i; rfl; rw [w] at hz; simp at hz; omega); rw [← e1, ← e2, b1, b2]; simp) (by omega) (lv_sub hl [0, 1, 2, 3, 4] rfl)
      refine r_iconst 1 C dX10_isApart_46 rfl ?_
      refine r_goto 51 C dX10_isApart_47 rfl ?_
      refine lv_istore_n (lv' := [(3, nV 1), (4, nV i), (0, .ref mo0), (1, nV x), (2, nV y)]) C.1 C.2.1 dX10_isApart_51 rfl hl (by decide) rfl (fun ls hl => ?_)
      refine r_incN (k := 1) (n := 1) [(4, nV (i + 1)), (3, nV 1), (0, .ref mo0), (1, nV x), (2, nV y)] C dX10_isApart_52 hl rfl rfl (by decide) rfl (fun ls hl => ?_)
      refine r_goto 5 C dX10_isApart_55 rfl ?_
      exact ih_5 (i + 1) 1 _ (by first | assumption | omega) (by show _ = if (mtB (SS x) (SS y) i || (SS x i && SS y i)) = true then 0 else 1; have q : mtB (SS x) (SS y) i = false := (by cases w : mtB (SS x) (SS y) i; rfl; rw [w] at hz; simp at hz; omega); rw [q, ← e2, Bool.eq_false_iff.mpr b2]; simp) (by omega) (lv_sub hl [0, 1, 2, 3, 4] rfl)
  exact L5 (72 - 0 + 1) 0 1 _ (by first | assumption | omega) (rfl) (Nat.lt_succ_self _) (lv_sub hl [0, 1, 2, 3, 4] rfl)
set_option maxHeartbeats 4000000 in
set_option maxRecDepth 100000 in
theorem c_X10_codes (l : Launch) (g : GG) (mo0 : Nat) (mA1 : Nat) (mA3 : Nat) (mA4 : Nat) (mA5 : Nat) (mA6 : Nat) (mA7 : Nat) (mA8 : Nat) (mA9 : Nat) (mA10 : Nat) (mA11 : Nat) (mA12 : Nat) (mA15 : Nat) (mA16 : Nat) (mA17 : Nat) (mA20 : Nat) (mL : Nat) (mAt : Nat) (kz : Nat) (dn : Nat) (mAb : Nat) (mBe : Nat) (mCl : Int) (mbe : Nat → Int) (x : Nat) (y : Int) (z : Int) (hx : x < 72) (hy : -1 ≤ y ∧ y < 72) (hz : -1 ≤ z ∧ z < 72) (hcl : -4 ≤ mCl ∧ mCl < 1000) : WRv g l yX10_codes cX10_codes 5 2 [(mo0, .inr (8, [nV mL, .ref mA1, nV mAt, .ref mA3, .ref mA4, .ref mA5, .ref mA6, .ref mA7, .ref mA8, .ref mA9, .ref mA10, .ref mA11, .ref mA12, nV kz, nV dn, .ref mA15, .ref mA16, .ref mA17, mV mAb, mV mBe, .ref mA20, zV mCl])), (mA17, cZ g 3 mbe)] [.ref mo0, nV x, zV y, zV z] (fun (_ : Unit) => True) (fun (_ : Unit) => [(mo0, .inr (8, [nV mL, .ref mA1, nV mAt, .ref mA3, .ref mA4, .ref mA5, .ref mA6, .ref mA7, .ref mA8, .ref mA9, .ref mA10, .ref mA11, .ref mA12, nV kz, nV dn, .ref mA15, .ref mA16, .ref mA17, mV mAb, mV mBe, .ref mA20, zV ((cst (mCl, mbe) x y z).1)])), (mA17, cZ g 3 ((cst (mCl, mbe) x y z).2))]) := by
  refine wr_startV (by decide +kernel) (Nat.le_of_ble_eq_true rfl) ?_
  intro p e s m args below meth c Q A ls C hK hA ret hP hD hS hl
  have C : CT p s m args meth c cX10_codes RX10 5 := C
  have hl : lv_has ls 5 [(0, .ref mo0), (1, nV x), (2, zV y), (3, zV z)] := hl
  refine lv_iload_n C.1 C.2.1 dX10_codes_0 rfl (lv_at hl 1 rfl) ?_
  refine ro_callS (As := [nV x]) (rest := []) C hK (c_X10_flourOf l g x (by first | assumption | omega)) (hP.sub (ws' := []) [] rfl) kc_X10_flourOf kl_X10_114 kn_X10 ks_X10_flourOf nk_X10_flourOf (rm_lt (by decide) (by decide)) hl rfl (Nat.le_of_ble_eq_true rfl) dX10_codes_1 (fun r_1 hr_2 => ?_)
  subst hr_2
  refine lv_iload_n C.1 C.2.1 dX10_codes_4 rfl (lv_at hl 2 rfl) ?_
  refine r_ige 12 C dX10_codes_5 rfl (⟨by omega, by omega⟩) (fun h_3 => ?_) (fun h_3 => ?_)
  · skip
    obtain ⟨yn, rfl⟩ : ∃ n : Nat, y = (n : Int) := ⟨y.toNat, by omega⟩
    have hl : lv_has ls 5 [(0, .ref mo0), (1, nV x), (2, nV yn), (3, zV z)] := hl
    refine lv_iload_n C.1 C.2.1 dX10_codes_12 rfl (lv_at hl 2 rfl) ?_
    refine ro_callS (As := [nV yn]) (rest := [nV (fl x)]) C hK (c_X10_flourOf l g yn (by first | assumption | omega)) (hP.sub (ws' := []) [] rfl) kc_X10_flourOf kl_X10_114 kn_X10 ks_X10_flourOf nk_X10_flourOf (rm_lt (by decide) (by decide)) hl rfl (Nat.le_of_ble_eq_true rfl) dX10_codes_13 (fun r_4 hr_5 => ?_)
    subst hr_5
    refine r_addN C dX10_codes_16 ?_
    refine lv_iload_n C.1 C.2.1 dX10_codes_17 rfl (lv_at hl 3 rfl) ?_
    refine r_ige 25 C dX10_codes_18 rfl (⟨by omega, by omega⟩) (fun h_6 => ?_) (fun h_6 => ?_)
    · skip
      obtain ⟨zn, rfl⟩ : ∃ n : Nat, z = (n : Int) := ⟨z.toNat, by omega⟩
      have hl : lv_has ls 5 [(0, .ref mo0), (1, nV x), (2, nV yn), (3, nV zn)] := hl
      refine lv_iload_n C.1 C.2.1 dX10_codes_25 rfl (lv_at hl 3 rfl) ?_
      refine ro_callS (As := [nV zn]) (rest := [nV ((fl x) + (fl yn))]) C hK (c_X10_flourOf l g zn (by first | assumption | omega)) (hP.sub (ws' := []) [] rfl) kc_X10_flourOf kl_X10_114 kn_X10 ks_X10_flourOf nk_X10_flourOf (rm_lt (by decide) (by decide)) hl rfl (Nat.le_of_ble_eq_true rfl) dX10_codes_26 (fun r_7 hr_8 => ?_)
      subst hr_8
      refine r_addN C dX10_codes_29 ?_
      refine r_topN (csm x ((yn : Nat) : Int) ((zn : Nat) : Int)) (by unfold csm; first | (rw [if_pos (by omega), if_pos (by omega)]; done) | (rw [if_neg (by omega), if_pos (by omega)]; rfl) | (rw [if_neg (by omega), if_neg (by omega)]; rfl) | (rw [if_pos (by omega), if_neg (by omega)]; rfl)) ?_
      refine r_nameN (fun su hsu => ?_)
      have hsb : su ≤ 54 := by rw [hsu]; exact csm_bd hx (by omega) (by omega)
      refine lv_istore (lv' := [(4, nV su), (0, .ref mo0), (1, nV x), (2, nV yn), (3, nV zn)]) C.1 C.2.1 dX10_codes_30 hl (by decide) rfl (fun ls hl => ?_)
      refine lv_aload_n C.1 C.2.1 dX10_codes_32 rfl (lv_at hl 1 rfl) ?_
      refine r_get C hK hP kw_X10 (ci := 8) rfl 0 21 (by decide) kf_X10_170 rfl rfl dX10_codes_33 ?_
      refine r_ilt 48 C dX10_codes_36 rfl (⟨by omega, by omega⟩) (fun h_9 => ?_) (fun h_9 => ?_)
      · skip
        refine lv_aload_n C.1 C.2.1 dX10_codes_48 rfl (lv_at hl 1 rfl) ?_
        refine lv_iload C.1 C.2.1 dX10_codes_49 (lv_at hl 0 rfl) ?_
        refine r_put (v := nV su) C hK hP hD hS kw_X10 tyX10_ok nmX10 (ci := 8) rfl 0 21 (by decide) kf_X10_170 rfl rfl rfl rfl rfl (Nat.le_of_ble_eq_true rfl) dX10_codes_51 (fun H locs hP hD hS => ?_)
        have hP : va_P g.1 vwCl [(mo0, .inr (8, [nV mL, .ref mA1, nV mAt, .ref mA3, .ref mA4, .ref mA5, .ref mA6, .ref mA7, .ref mA8, .ref mA9, .ref mA10, .ref mA11, .ref mA12, nV kz, nV dn, .ref mA15, .ref mA16, .ref mA17, mV mAb, mV mBe, .ref mA20, nV su])), (mA17, cZ g 3 mbe)] H := hP
        have hD : va_D A [(mo0, .inr (8, [nV mL, .ref mA1, nV mAt, .ref mA3, .ref mA4, .ref mA5, .ref mA6, .ref mA7, .ref mA8, .ref mA9, .ref mA10, .ref mA11, .ref mA12, nV kz, nV dn, .ref mA15, .ref mA16, .ref mA17, mV mAb, mV mBe, .ref mA20, nV su])), (mA17, cZ g 3 mbe)] := hD
        refine lv_aload_n C.1 C.2.1 dX10_codes_54 rfl (lv_at hl 1 rfl) ?_
        refine r_get C hK hP kw_X10 (ci := 8) rfl 0 17 (by decide) kf_X10_51 rfl rfl dX10_codes_55 ?_
        refine r_iconst 0 C dX10_codes_58 rfl ?_
        refine lv_iload_n C.1 C.2.1 dX10_codes_59 rfl (lv_at hl 2 rfl) ?_
        refine r_astZ C hK hP hD hS 1 rfl ⟨by omega, by omega⟩ dX10_codes_60 (fun H locs hP hD hS => ?_)
        have hP : va_P g.1 vwCl [(mo0, .inr (8, [nV mL, .ref mA1, nV mAt, .ref mA3, .ref mA4, .ref mA5, .ref mA6, .ref mA7, .ref mA8, .ref mA9, .ref mA10, .ref mA11, .ref mA12, nV kz, nV dn, .ref mA15, .ref mA16, .ref mA17, mV mAb, mV mBe, .ref mA20, nV su])), (mA17, cZ g 3 (upZ mbe 0 ((x : Nat) : Int)))] H := hP
        have hD : va_D A [(mo0, .inr (8, [nV mL, .ref mA1, nV mAt, .ref mA3, .ref mA4, .ref mA5, .ref mA6, .ref mA7, .ref mA8, .ref mA9, .ref mA10, .ref mA11, .ref mA12, nV kz, nV dn, .ref mA15, .ref mA16, .ref mA17, mV mAb, mV mBe, .ref mA20, nV su])), (mA17, cZ g 3 (upZ mbe 0 ((x : Nat) : Int)))] := hD
        refine lv_aload_n C.1 C.2.1 dX10_codes_61 rfl (lv_at hl 1 rfl) ?_
        refine r_get C hK hP kw_X10 (ci := 8) rfl 0 17 (by decide) kf_X10_51 rfl rfl dX10_codes_62 ?_
        refine r_iconst 1 C dX10_codes_65 rfl ?_
        refine lv_iload_n C.1 C.2.1 dX10_codes_66 rfl (lv_at hl 3 rfl) ?_
        refine r_astZ C hK hP hD hS 1 rfl ⟨by omega, by omega⟩ dX10_codes_67 (fun H locs hP hD hS => ?_)
        have hP : va_P g.1 vwCl [(mo0, .inr (8, [nV mL, .ref mA1, nV mAt, .ref mA3, .ref mA4, .ref mA5, .ref mA6, .ref mA7, .ref mA8, .ref mA9, .ref mA10, .ref mA11, .ref mA12, nV kz, nV dn, .ref mA15, .ref mA16, .ref mA17, mV mAb, mV mBe, .ref mA20, nV su])), (mA17, cZ g 3 (upZ (upZ mbe 0 ((x : Nat) : Int)) 1 ((yn : Nat) : Int)))] H := hP
        have hD : va_D A [(mo0, .inr (8, [nV mL, .ref mA1, nV mAt, .ref mA3, .ref mA4, .ref mA5, .ref mA6, .ref mA7, .ref mA8, .ref mA9, .ref mA10, .ref mA11, .ref mA12, nV kz, nV dn, .ref mA15, .ref mA16, .ref mA17, mV mAb, mV mBe, .ref mA20, nV su])), (mA17, cZ g 3 (upZ (upZ mbe 0 ((x : Nat) : Int)) 1 ((yn : Nat) : Int)))] := hD
        refine lv_aload_n C.1 C.2.1 dX10_codes_68 rfl (lv_at hl 1 rfl) ?_
        refine r_get C hK hP kw_X10 (ci := 8) rfl 0 17 (by decide) kf_X10_51 rfl rfl dX10_codes_69 ?_
        refine r_iconst 2 C dX10_codes_72 rfl ?_
        refine lv_iload_n C.1 C.2.1 dX10_codes_73 rfl (lv_at hl 4 rfl) ?_
        refine r_astZ C hK hP hD hS 1 rfl ⟨by omega, by omega⟩ dX10_codes_74 (fun H locs hP hD hS => ?_)
        have hP : va_P g.1 vwCl [(mo0, .inr (8, [nV mL, .ref mA1, nV mAt, .ref mA3, .ref mA4, .ref mA5, .ref mA6, .ref mA7, .ref mA8, .ref mA9, .ref mA10, .ref mA11, .ref mA12, nV kz, nV dn, .ref mA15, .ref mA16, .ref mA17, mV mAb, mV mBe, .ref mA20, nV su])), (mA17, cZ g 3 (upZ (upZ (upZ mbe 0 ((x : Nat) : Int)) 1 ((yn : Nat) : Int)) 2 ((zn : Nat) : Int)))] H := hP
        have hD : va_D A [(mo0, .inr (8, [nV mL, .ref mA1, nV mAt, .ref mA3, .ref mA4, .ref mA5, .ref mA6, .ref mA7, .ref mA8, .ref mA9, .ref mA10, .ref mA11, .ref mA12, nV kz, nV dn, .ref mA15, .ref mA16, .ref mA17, mV mAb, mV mBe, .ref mA20, nV su])), (mA17, cZ g 3 (upZ (upZ (upZ mbe 0 ((x : Nat) : Int)) 1 ((yn : Nat) : Int)) 2 ((zn : Nat) : Int)))] := hD
        exact ret (()) dX10_codes_75 hS (by have e : cst (mCl, mbe) x ((yn : Nat) : Int) ((zn : Nat) : Int) = (((su : Nat) : Int), upZ (upZ (upZ mbe 0 ((x : Nat) : Int)) 1 ((yn : Nat) : Int)) 2 ((zn : Nat) : Int)) := (by unfold cst; rw [← hsu, if_pos (by omega)]); rw [e]; exact hP) (trivial)
      refine lv_iload C.1 C.2.1 dX10_codes_39 (lv_at hl 0 rfl) ?_
      refine lv_aload_n C.1 C.2.1 dX10_codes_41 rfl (lv_at hl 1 rfl) ?_
      refine r_get C hK hP kw_X10 (ci := 8) rfl 0 21 (by decide) kf_X10_170 rfl rfl dX10_codes_42 ?_
      refine r_cge 75 C dX10_codes_45 rfl ⟨rgN (by omega), ⟨by omega, by omega⟩⟩ (fun h_10 => ?_) (fun h_10 => ?_)
      · skip
        exact ret (()) dX10_codes_75 hS (by have e : cst (mCl, mbe) x ((yn : Nat) : Int) ((zn : Nat) : Int) = (mCl, mbe) := (by unfold cst; rw [← hsu, if_neg (by show ¬ (mCl < 0 ∨ ((su : Nat) : Int) < mCl); omega)]); rw [e]; exact hP) (trivial)
      refine lv_aload_n C.1 C.2.1 dX10_codes_48 rfl (lv_at hl 1 rfl) ?_
      refine lv_iload C.1 C.2.1 dX10_codes_49 (lv_at hl 0 rfl) ?_
      refine r_put (v := nV su) C hK hP hD hS kw_X10 tyX10_ok nmX10 (ci := 8) rfl 0 21 (by decide) kf_X10_170 rfl rfl rfl rfl rfl (Nat.le_of_ble_eq_true rfl) dX10_codes_51 (fun H locs hP hD hS => ?_)
      have hP : va_P g.1 vwCl [(mo0, .inr (8, [nV mL, .ref mA1, nV mAt, .ref mA3, .ref mA4, .ref mA5, .ref mA6, .ref mA7, .ref mA8, .ref mA9, .ref mA10, .ref mA11, .ref mA12, nV kz, nV dn, .ref mA15, .ref mA16, .ref mA17, mV mAb, mV mBe, .ref mA20, nV su])), (mA17, cZ g 3 mbe)] H := hP
      have hD : va_D A [(mo0, .inr (8, [nV mL, .ref mA1, nV mAt, .ref mA3, .ref mA4, .ref mA5, .ref mA6, .ref mA7, .ref mA8, .ref mA9, .ref mA10, .ref mA11, .ref mA12, nV kz, nV dn, .ref mA15, .ref mA16, .ref mA17, mV mAb, mV mBe, .ref mA20, nV su])), (mA17, cZ g 3 mbe)] := hD
      refine lv_aload_n C.1 C.2.1 dX10_codes_54 rfl (lv_at hl 1 rfl) ?_
      refine r_get C hK hP kw_X10 (ci := 8) rfl 0 17 (by decide) kf_X10_51 rfl rfl dX10_codes_55 ?_
      refine r_iconst 0 C dX10_codes_58 rfl ?_
      refine lv_iload_n C.1 C.2.1 dX10_codes_59 rfl (lv_at hl 2 rfl) ?_
      refine r_astZ C hK hP hD hS 1 rfl ⟨by omega, by omega⟩ dX10_codes_60 (fun H locs hP hD hS => ?_)
      have hP : va_P g.1 vwCl [(mo0, .inr (8, [nV mL, .ref mA1, nV mAt, .ref mA3, .ref mA4, .ref mA5, .ref mA6, .ref mA7, .ref mA8, .ref mA9, .ref mA10, .ref mA11, .ref mA12, nV kz, nV dn, .ref mA15, .ref mA16, .ref mA17, mV mAb, mV mBe, .ref mA20, nV su])), (mA17, cZ g 3 (upZ mbe 0 ((x : Nat) : Int)))] H := hP
      have hD : va_D A [(mo0, .inr (8, [nV mL, .ref mA1, nV mAt, .ref mA3, .ref mA4, .ref mA5, .ref mA6, .ref mA7, .ref mA8, .ref mA9, .ref mA10, .ref mA11, .ref mA12, nV kz, nV dn, .ref mA15, .ref mA16, .ref mA17, mV mAb, mV mBe, .ref mA20, nV su])), (mA17, cZ g 3 (upZ mbe 0 ((x : Nat) : Int)))] := hD
      refine lv_aload_n C.1 C.2.1 dX10_codes_61 rfl (lv_at hl 1 rfl) ?_
      refine r_get C hK hP kw_X10 (ci := 8) rfl 0 17 (by decide) kf_X10_51 rfl rfl dX10_codes_62 ?_
      refine r_iconst 1 C dX10_codes_65 rfl ?_
      refine lv_iload_n C.1 C.2.1 dX10_codes_66 rfl (lv_at hl 3 rfl) ?_
      refine r_astZ C hK hP hD hS 1 rfl ⟨by omega, by omega⟩ dX10_codes_67 (fun H locs hP hD hS => ?_)
      have hP : va_P g.1 vwCl [(mo0, .inr (8, [nV mL, .ref mA1, nV mAt, .ref mA3, .ref mA4, .ref mA5, .ref mA6, .ref mA7, .ref mA8, .ref mA9, .ref mA10, .ref mA11, .ref mA12, nV kz, nV dn, .ref mA15, .ref mA16, .ref mA17, mV mAb, mV mBe, .ref mA20, nV su])), (mA17, cZ g 3 (upZ (upZ mbe 0 ((x : Nat) : Int)) 1 ((yn : Nat) : Int)))] H := hP
      have hD : va_D A [(mo0, .inr (8, [nV mL, .ref mA1, nV mAt, .ref mA3, .ref mA4, .ref mA5, .ref mA6, .ref mA7, .ref mA8, .ref mA9, .ref mA10, .ref mA11, .ref mA12, nV kz, nV dn, .ref mA15, .ref mA16, .ref mA17, mV mAb, mV mBe, .ref mA20, nV su])), (mA17, cZ g 3 (upZ (upZ mbe 0 ((x : Nat) : Int)) 1 ((yn : Nat) : Int)))] := hD
      refine lv_aload_n C.1 C.2.1 dX10_codes_68 rfl (lv_at hl 1 rfl) ?_
      refine r_get C hK hP kw_X10 (ci := 8) rfl 0 17 (by decide) kf_X10_51 rfl rfl dX10_codes_69 ?_
      refine r_iconst 2 C dX10_codes_72 rfl ?_
      refine lv_iload_n C.1 C.2.1 dX10_codes_73 rfl (lv_at hl 4 rfl) ?_
      refine r_astZ C hK hP hD hS 1 rfl ⟨by omega, by omega⟩ dX10_codes_74 (fun H locs hP hD hS => ?_)
      have hP : va_P g.1 vwCl [(mo0, .inr (8, [nV mL, .ref mA1, nV mAt, .ref mA3, .ref mA4, .ref mA5, .ref mA6, .ref mA7, .ref mA8, .ref mA9, .ref mA10, .ref mA11, .ref mA12, nV kz, nV dn, .ref mA15, .ref mA16, .ref mA17, mV mAb, mV mBe, .ref mA20, nV su])), (mA17, cZ g 3 (upZ (upZ (upZ mbe 0 ((x : Nat) : Int)) 1 ((yn : Nat) : Int)) 2 ((zn : Nat) : Int)))] H := hP
      have hD : va_D A [(mo0, .inr (8, [nV mL, .ref mA1, nV mAt, .ref mA3, .ref mA4, .ref mA5, .ref mA6, .ref mA7, .ref mA8, .ref mA9, .ref mA10, .ref mA11, .ref mA12, nV kz, nV dn, .ref mA15, .ref mA16, .ref mA17, mV mAb, mV mBe, .ref mA20, nV su])), (mA17, cZ g 3 (upZ (upZ (upZ mbe 0 ((x : Nat) : Int)) 1 ((yn : Nat) : Int)) 2 ((zn : Nat) : Int)))] := hD
      exact ret (()) dX10_codes_75 hS (by have e : cst (mCl, mbe) x ((yn : Nat) : Int) ((zn : Nat) : Int) = (((su : Nat) : Int), upZ (upZ (upZ mbe 0 ((x : Nat) : Int)) 1 ((yn : Nat) : Int)) 2 ((zn : Nat) : Int)) := (by unfold cst; rw [← hsu, if_pos (by omega)]); rw [e]; exact hP) (trivial)
    refine r_iconst 0 C dX10_codes_21 rfl ?_
    refine r_goto 29 C dX10_codes_22 rfl ?_
    refine r_addN C dX10_codes_29 ?_
    refine r_topN (csm x ((yn : Nat) : Int) z) (by unfold csm; first | (rw [if_pos (by omega), if_pos (by omega)]; done) | (rw [if_neg (by omega), if_pos (by omega)]; rfl) | (rw [if_neg (by omega), if_neg (by omega)]; rfl) | (rw [if_pos (by omega), if_neg (by omega)]; rfl)) ?_
    refine r_nameN (fun su hsu => ?_)
    have hsb : su ≤ 54 := by rw [hsu]; exact csm_bd hx (by omega) (by omega)
    refine lv_istore (lv' := [(4, nV su), (0, .ref mo0), (1, nV x), (2, nV yn), (3, zV z)]) C.1 C.2.1 dX10_codes_30 hl (by decide) rfl (fun ls hl => ?_)
    refine lv_aload_n C.1 C.2.1 dX10_codes_32 rfl (lv_at hl 1 rfl) ?_
    refine r_get C hK hP kw_X10 (ci := 8) rfl 0 21 (by decide) kf_X10_170 rfl rfl dX10_codes_33 ?_
    refine r_ilt 48 C dX10_codes_36 rfl (⟨by omega, by omega⟩) (fun h_11 => ?_) (fun h_11 => ?_)
    · skip
      refine lv_aload_n C.1 C.2.1 dX10_codes_48 rfl (lv_at hl 1 rfl) ?_
      refine lv_iload C.1 C.2.1 dX10_codes_49 (lv_at hl 0 rfl) ?_
      refine r_put (v := nV su) C hK hP hD hS kw_X10 tyX10_ok nmX10 (ci := 8) rfl 0 21 (by decide) kf_X10_170 rfl rfl rfl rfl rfl (Nat.le_of_ble_eq_true rfl) dX10_codes_51 (fun H locs hP hD hS => ?_)
      have hP : va_P g.1 vwCl [(mo0, .inr (8, [nV mL, .ref mA1, nV mAt, .ref mA3, .ref mA4, .ref mA5, .ref mA6, .ref mA7, .ref mA8, .ref mA9, .ref mA10, .ref mA11, .ref mA12, nV kz, nV dn, .ref mA15, .ref mA16, .ref mA17, mV mAb, mV mBe, .ref mA20, nV su])), (mA17, cZ g 3 mbe)] H := hP
      have hD : va_D A [(mo0, .inr (8, [nV mL, .ref mA1, nV mAt, .ref mA3, .ref mA4, .ref mA5, .ref mA6, .ref mA7, .ref mA8, .ref mA9, .ref mA10, .ref mA11, .ref mA12, nV kz, nV dn, .ref mA15, .ref mA16, .ref mA17, mV mAb, mV mBe, .ref mA20, nV su])), (mA17, cZ g 3 mbe)] := hD
      refine lv_aload_n C.1 C.2.1 dX10_codes_54 rfl (lv_at hl 1 rfl) ?_
      refine r_get C hK hP kw_X10 (ci := 8) rfl 0 17 (by decide) kf_X10_51 rfl rfl dX10_codes_55 ?_
      refine r_iconst 0 C dX10_codes_58 rfl ?_
      refine lv_iload_n C.1 C.2.1 dX10_codes_59 rfl (lv_at hl 2 rfl) ?_
      refine r_astZ C hK hP hD hS 1 rfl ⟨by omega, by omega⟩ dX10_codes_60 (fun H locs hP hD hS => ?_)
      have hP : va_P g.1 vwCl [(mo0, .inr (8, [nV mL, .ref mA1, nV mAt, .ref mA3, .ref mA4, .ref mA5, .ref mA6, .ref mA7, .ref mA8, .ref mA9, .ref mA10, .ref mA11, .ref mA12, nV kz, nV dn, .ref mA15, .ref mA16, .ref mA17, mV mAb, mV mBe, .ref mA20, nV su])), (mA17, cZ g 3 (upZ mbe 0 ((x : Nat) : Int)))] H := hP
      have hD : va_D A [(mo0, .inr (8, [nV mL, .ref mA1, nV mAt, .ref mA3, .ref mA4, .ref mA5, .ref mA6, .ref mA7, .ref mA8, .ref mA9, .ref mA10, .ref mA11, .ref mA12, nV kz, nV dn, .ref mA15, .ref mA16, .ref mA17, mV mAb, mV mBe, .ref mA20, nV su])), (mA17, cZ g 3 (upZ mbe 0 ((x : Nat) : Int)))] := hD
      refine lv_aload_n C.1 C.2.1 dX10_codes_61 rfl (lv_at hl 1 rfl) ?_
      refine r_get C hK hP kw_X10 (ci := 8) rfl 0 17 (by decide) kf_X10_51 rfl rfl dX10_codes_62 ?_
      refine r_iconst 1 C dX10_codes_65 rfl ?_
      refine lv_iload_n C.1 C.2.1 dX10_codes_66 rfl (lv_at hl 3 rfl) ?_
      refine r_astZ C hK hP hD hS 1 rfl ⟨by omega, by omega⟩ dX10_codes_67 (fun H locs hP hD hS => ?_)
      have hP : va_P g.1 vwCl [(mo0, .inr (8, [nV mL, .ref mA1, nV mAt, .ref mA3, .ref mA4, .ref mA5, .ref mA6, .ref mA7, .ref mA8, .ref mA9, .ref mA10, .ref mA11, .ref mA12, nV kz, nV dn, .ref mA15, .ref mA16, .ref mA17, mV mAb, mV mBe, .ref mA20, nV su])), (mA17, cZ g 3 (upZ (upZ mbe 0 ((x : Nat) : Int)) 1 ((yn : Nat) : Int)))] H := hP
      have hD : va_D A [(mo0, .inr (8, [nV mL, .ref mA1, nV mAt, .ref mA3, .ref mA4, .ref mA5, .ref mA6, .ref mA7, .ref mA8, .ref mA9, .ref mA10, .ref mA11, .ref mA12, nV kz, nV dn, .ref mA15, .ref mA16, .ref mA17, mV mAb, mV mBe, .ref mA20, nV su])), (mA17, cZ g 3 (upZ (upZ mbe 0 ((x : Nat) : Int)) 1 ((yn : Nat) : Int)))] := hD
      refine lv_aload_n C.1 C.2.1 dX10_codes_68 rfl (lv_at hl 1 rfl) ?_
      refine r_get C hK hP kw_X10 (ci := 8) rfl 0 17 (by decide) kf_X10_51 rfl rfl dX10_codes_69 ?_
      refine r_iconst 2 C dX10_codes_72 rfl ?_
      refine lv_iload_n C.1 C.2.1 dX10_codes_73 rfl (lv_at hl 4 rfl) ?_
      refine r_astZ C hK hP hD hS 1 rfl ⟨by omega, by omega⟩ dX10_codes_74 (fun H locs hP hD hS => ?_)
      have hP : va_P g.1 vwCl [(mo0, .inr (8, [nV mL, .ref mA1, nV mAt, .ref mA3, .ref mA4, .ref mA5, .ref mA6, .ref mA7, .ref mA8, .ref mA9, .ref mA10, .ref mA11, .ref mA12, nV kz, nV dn, .ref mA15, .ref mA16, .ref mA17, mV mAb, mV mBe, .ref mA20, nV su])), (mA17, cZ g 3 (upZ (upZ (upZ mbe 0 ((x : Nat) : Int)) 1 ((yn : Nat) : Int)) 2 z))] H := hP
      have hD : va_D A [(mo0, .inr (8, [nV mL, .ref mA1, nV mAt, .ref mA3, .ref mA4, .ref mA5, .ref mA6, .ref mA7, .ref mA8, .ref mA9, .ref mA10, .ref mA11, .ref mA12, nV kz, nV dn, .ref mA15, .ref mA16, .ref mA17, mV mAb, mV mBe, .ref mA20, nV su])), (mA17, cZ g 3 (upZ (upZ (upZ mbe 0 ((x : Nat) : Int)) 1 ((yn : Nat) : Int)) 2 z))] := hD
      exact ret (()) dX10_codes_75 hS (by have e : cst (mCl, mbe) x ((yn : Nat) : Int) z = (((su : Nat) : Int), upZ (upZ (upZ mbe 0 ((x : Nat) : Int)) 1 ((yn : Nat) : Int)) 2 z) := (by unfold cst; rw [← hsu, if_pos (by omega)]); rw [e]; exact hP) (trivial)
    refine lv_iload C.1 C.2.1 dX10_codes_39 (lv_at hl 0 rfl) ?_
    refine lv_aload_n C.1 C.2.1 dX10_codes_41 rfl (lv_at hl 1 rfl) ?_
    refine r_get C hK hP kw_X10 (ci := 8) rfl 0 21 (by decide) kf_X10_170 rfl rfl dX10_codes_42 ?_
    refine r_cge 75 C dX10_codes_45 rfl ⟨rgN (by omega), ⟨by omega, by omega⟩⟩ (fun h_12 => ?_) (fun h_12 => ?_)
    · skip
      exact ret (()) dX10_codes_75 hS (by have e : cst (mCl, mbe) x ((yn : Nat) : Int) z = (mCl, mbe) := (by unfold cst; rw [← hsu, if_neg (by show ¬ (mCl < 0 ∨ ((su : Nat) : Int) < mCl); omega)]); rw [e]; exact hP) (trivial)
    refine lv_aload_n C.1 C.2.1 dX10_codes_48 rfl (lv_at hl 1 rfl) ?_
    refine lv_iload C.1 C.2.1 dX10_codes_49 (lv_at hl 0 rfl) ?_
    refine r_put (v := nV su) C hK hP hD hS kw_X10 tyX10_ok nmX10 (ci := 8) rfl 0 21 (by decide) kf_X10_170 rfl rfl rfl rfl rfl (Nat.le_of_ble_eq_true rfl) dX10_codes_51 (fun H locs hP hD hS => ?_)
    have hP : va_P g.1 vwCl [(mo0, .inr (8, [nV mL, .ref mA1, nV mAt, .ref mA3, .ref mA4, .ref mA5, .ref mA6, .ref mA7, .ref mA8, .ref mA9, .ref mA10, .ref mA11, .ref mA12, nV kz, nV dn, .ref mA15, .ref mA16, .ref mA17, mV mAb, mV mBe, .ref mA20, nV su])), (mA17, cZ g 3 mbe)] H := hP
    have hD : va_D A [(mo0, .inr (8, [nV mL, .ref mA1, nV mAt, .ref mA3, .ref mA4, .ref mA5, .ref mA6, .ref mA7, .ref mA8, .ref mA9, .ref mA10, .ref mA11, .ref mA12, nV kz, nV dn, .ref mA15, .ref mA16, .ref mA17, mV mAb, mV mBe, .ref mA20, nV su])), (mA17, cZ g 3 mbe)] := hD
    refine lv_aload_n C.1 C.2.1 dX10_codes_54 rfl (lv_at hl 1 rfl) ?_
    refine r_get C hK hP kw_X10 (ci := 8) rfl 0 17 (by decide) kf_X10_51 rfl rfl dX10_codes_55 ?_
    refine r_iconst 0 C dX10_codes_58 rfl ?_
    refine lv_iload_n C.1 C.2.1 dX10_codes_59 rfl (lv_at hl 2 rfl) ?_
    refine r_astZ C hK hP hD hS 1 rfl ⟨by omega, by omega⟩ dX10_codes_60 (fun H locs hP hD hS => ?_)
    have hP : va_P g.1 vwCl [(mo0, .inr (8, [nV mL, .ref mA1, nV mAt, .ref mA3, .ref mA4, .ref mA5, .ref mA6, .ref mA7, .ref mA8, .ref mA9, .ref mA10, .ref mA11, .ref mA12, nV kz, nV dn, .ref mA15, .ref mA16, .ref mA17, mV mAb, mV mBe, .ref mA20, nV su])), (mA17, cZ g 3 (upZ mbe 0 ((x : Nat) : Int)))] H := hP
    have hD : va_D A [(mo0, .inr (8, [nV mL, .ref mA1, nV mAt, .ref mA3, .ref mA4, .ref mA5, .ref mA6, .ref mA7, .ref mA8, .ref mA9, .ref mA10, .ref mA11, .ref mA12, nV kz, nV dn, .ref mA15, .ref mA16, .ref mA17, mV mAb, mV mBe, .ref mA20, nV su])), (mA17, cZ g 3 (upZ mbe 0 ((x : Nat) : Int)))] := hD
    refine lv_aload_n C.1 C.2.1 dX10_codes_61 rfl (lv_at hl 1 rfl) ?_
    refine r_get C hK hP kw_X10 (ci := 8) rfl 0 17 (by decide) kf_X10_51 rfl rfl dX10_codes_62 ?_
    refine r_iconst 1 C dX10_codes_65 rfl ?_
    refine lv_iload_n C.1 C.2.1 dX10_codes_66 rfl (lv_at hl 3 rfl) ?_
    refine r_astZ C hK hP hD hS 1 rfl ⟨by omega, by omega⟩ dX10_codes_67 (fun H locs hP hD hS => ?_)
    have hP : va_P g.1 vwCl [(mo0, .inr (8, [nV mL, .ref mA1, nV mAt, .ref mA3, .ref mA4, .ref mA5, .ref mA6, .ref mA7, .ref mA8, .ref mA9, .ref mA10, .ref mA11, .ref mA12, nV kz, nV dn, .ref mA15, .ref mA16, .ref mA17, mV mAb, mV mBe, .ref mA20, nV su])), (mA17, cZ g 3 (upZ (upZ mbe 0 ((x : Nat) : Int)) 1 ((yn : Nat) : Int)))] H := hP
    have hD : va_D A [(mo0, .inr (8, [nV mL, .ref mA1, nV mAt, .ref mA3, .ref mA4, .ref mA5, .ref mA6, .ref mA7, .ref mA8, .ref mA9, .ref mA10, .ref mA11, .ref mA12, nV kz, nV dn, .ref mA15, .ref mA16, .ref mA17, mV mAb, mV mBe, .ref mA20, nV su])), (mA17, cZ g 3 (upZ (upZ mbe 0 ((x : Nat) : Int)) 1 ((yn : Nat) : Int)))] := hD
    refine lv_aload_n C.1 C.2.1 dX10_codes_68 rfl (lv_at hl 1 rfl) ?_
    refine r_get C hK hP kw_X10 (ci := 8) rfl 0 17 (by decide) kf_X10_51 rfl rfl dX10_codes_69 ?_
    refine r_iconst 2 C dX10_codes_72 rfl ?_
    refine lv_iload_n C.1 C.2.1 dX10_codes_73 rfl (lv_at hl 4 rfl) ?_
    refine r_astZ C hK hP hD hS 1 rfl ⟨by omega, by omega⟩ dX10_codes_74 (fun H locs hP hD hS => ?_)
    have hP : va_P g.1 vwCl [(mo0, .inr (8, [nV mL, .ref mA1, nV mAt, .ref mA3, .ref mA4, .ref mA5, .ref mA6, .ref mA7, .ref mA8, .ref mA9, .ref mA10, .ref mA11, .ref mA12, nV kz, nV dn, .ref mA15, .ref mA16, .ref mA17, mV mAb, mV mBe, .ref mA20, nV su])), (mA17, cZ g 3 (upZ (upZ (upZ mbe 0 ((x : Nat) : Int)) 1 ((yn : Nat) : Int)) 2 z))] H := hP
    have hD : va_D A [(mo0, .inr (8, [nV mL, .ref mA1, nV mAt, .ref mA3, .ref mA4, .ref mA5, .ref mA6, .ref mA7, .ref mA8, .ref mA9, .ref mA10, .ref mA11, .ref mA12, nV kz, nV dn, .ref mA15, .ref mA16, .ref mA17, mV mAb, mV mBe, .ref mA20, nV su])), (mA17, cZ g 3 (upZ (upZ (upZ mbe 0 ((x : Nat) : Int)) 1 ((yn : Nat) : Int)) 2 z))] := hD
    exact ret (()) dX10_codes_75 hS (by have e : cst (mCl, mbe) x ((yn : Nat) : Int) z = (((su : Nat) : Int), upZ (upZ (upZ mbe 0 ((x : Nat) : Int)) 1 ((yn : Nat) : Int)) 2 z) := (by unfold cst; rw [← hsu, if_pos (by omega)]); rw [e]; exact hP) (trivial)
  refine r_iconst 0 C dX10_codes_8 rfl ?_
  refine r_goto 16 C dX10_codes_9 rfl ?_
  refine r_addN C dX10_codes_16 ?_
  refine lv_iload_n C.1 C.2.1 dX10_codes_17 rfl (lv_at hl 3 rfl) ?_
  refine r_ige 25 C dX10_codes_18 rfl (⟨by omega, by omega⟩) (fun h_13 => ?_) (fun h_13 => ?_)
  · skip
    obtain ⟨zn, rfl⟩ : ∃ n : Nat, z = (n : Int) := ⟨z.toNat, by omega⟩
    have hl : lv_has ls 5 [(0, .ref mo0), (1, nV x), (2, zV y), (3, nV zn)] := hl
    refine lv_iload_n C.1 C.2.1 dX10_codes_25 rfl (lv_at hl 3 rfl) ?_
    refine ro_callS (As := [nV zn]) (rest := [nV ((fl x) + 0)]) C hK (c_X10_flourOf l g zn (by first | assumption | omega)) (hP.sub (ws' := []) [] rfl) kc_X10_flourOf kl_X10_114 kn_X10 ks_X10_flourOf nk_X10_flourOf (rm_lt (by decide) (by decide)) hl rfl (Nat.le_of_ble_eq_true rfl) dX10_codes_26 (fun r_14 hr_15 => ?_)
    subst hr_15
    refine r_addN C dX10_codes_29 ?_
    refine r_topN (csm x y ((zn : Nat) : Int)) (by unfold csm; first | (rw [if_pos (by omega), if_pos (by omega)]; done) | (rw [if_neg (by omega), if_pos (by omega)]; rfl) | (rw [if_neg (by omega), if_neg (by omega)]; rfl) | (rw [if_pos (by omega), if_neg (by omega)]; rfl)) ?_
    refine r_nameN (fun su hsu => ?_)
    have hsb : su ≤ 54 := by rw [hsu]; exact csm_bd hx (by omega) (by omega)
    refine lv_istore (lv' := [(4, nV su), (0, .ref mo0), (1, nV x), (2, zV y), (3, nV zn)]) C.1 C.2.1 dX10_codes_30 hl (by decide) rfl (fun ls hl => ?_)
    refine lv_aload_n C.1 C.2.1 dX10_codes_32 rfl (lv_at hl 1 rfl) ?_
    refine r_get C hK hP kw_X10 (ci := 8) rfl 0 21 (by decide) kf_X10_170 rfl rfl dX10_codes_33 ?_
    refine r_ilt 48 C dX10_codes_36 rfl (⟨by omega, by omega⟩) (fun h_16 => ?_) (fun h_16 => ?_)
    · skip
      refine lv_aload_n C.1 C.2.1 dX10_codes_48 rfl (lv_at hl 1 rfl) ?_
      refine lv_iload C.1 C.2.1 dX10_codes_49 (lv_at hl 0 rfl) ?_
      refine r_put (v := nV su) C hK hP hD hS kw_X10 tyX10_ok nmX10 (ci := 8) rfl 0 21 (by decide) kf_X10_170 rfl rfl rfl rfl rfl (Nat.le_of_ble_eq_true rfl) dX10_codes_51 (fun H locs hP hD hS => ?_)
      have hP : va_P g.1 vwCl [(mo0, .inr (8, [nV mL, .ref mA1, nV mAt, .ref mA3, .ref mA4, .ref mA5, .ref mA6, .ref mA7, .ref mA8, .ref mA9, .ref mA10, .ref mA11, .ref mA12, nV kz, nV dn, .ref mA15, .ref mA16, .ref mA17, mV mAb, mV mBe, .ref mA20, nV su])), (mA17, cZ g 3 mbe)] H := hP
      have hD : va_D A [(mo0, .inr (8, [nV mL, .ref mA1, nV mAt, .ref mA3, .ref mA4, .ref mA5, .ref mA6, .ref mA7, .ref mA8, .ref mA9, .ref mA10, .ref mA11, .ref mA12, nV kz, nV dn, .ref mA15, .ref mA16, .ref mA17, mV mAb, mV mBe, .ref mA20, nV su])), (mA17, cZ g 3 mbe)] := hD
      refine lv_aload_n C.1 C.2.1 dX10_codes_54 rfl (lv_at hl 1 rfl) ?_
      refine r_get C hK hP kw_X10 (ci := 8) rfl 0 17 (by decide) kf_X10_51 rfl rfl dX10_codes_55 ?_
      refine r_iconst 0 C dX10_codes_58 rfl ?_
      refine lv_iload_n C.1 C.2.1 dX10_codes_59 rfl (lv_at hl 2 rfl) ?_
      refine r_astZ C hK hP hD hS 1 rfl ⟨by omega, by omega⟩ dX10_codes_60 (fun H locs hP hD hS => ?_)
      have hP : va_P g.1 vwCl [(mo0, .inr (8, [nV mL, .ref mA1, nV mAt, .ref mA3, .ref mA4, .ref mA5, .ref mA6, .ref mA7, .ref mA8, .ref mA9, .ref mA10, .ref mA11, .ref mA12, nV kz, nV dn, .ref mA15, .ref mA16, .ref mA17, mV mAb, mV mBe, .ref mA20, nV su])), (mA17, cZ g 3 (upZ mbe 0 ((x : Nat) : Int)))] H := hP
      have hD : va_D A [(mo0, .inr (8, [nV mL, .ref mA1, nV mAt, .ref mA3, .ref mA4, .ref mA5, .ref mA6, .ref mA7, .ref mA8, .ref mA9, .ref mA10, .ref mA11, .ref mA12, nV kz, nV dn, .ref mA15, .ref mA16, .ref mA17, mV mAb, mV mBe, .ref mA20, nV su])), (mA17, cZ g 3 (upZ mbe 0 ((x : Nat) : Int)))] := hD
      refine lv_aload_n C.1 C.2.1 dX10_codes_61 rfl (lv_at hl 1 rfl) ?_
      refine r_get C hK hP kw_X10 (ci := 8) rfl 0 17 (by decide) kf_X10_51 rfl rfl dX10_codes_62 ?_
      refine r_iconst 1 C dX10_codes_65 rfl ?_
      refine lv_iload_n C.1 C.2.1 dX10_codes_66 rfl (lv_at hl 3 rfl) ?_
      refine r_astZ C hK hP hD hS 1 rfl ⟨by omega, by omega⟩ dX10_codes_67 (fun H locs hP hD hS => ?_)
      have hP : va_P g.1 vwCl [(mo0, .inr (8, [nV mL, .ref mA1, nV mAt, .ref mA3, .ref mA4, .ref mA5, .ref mA6, .ref mA7, .ref mA8, .ref mA9, .ref mA10, .ref mA11, .ref mA12, nV kz, nV dn, .ref mA15, .ref mA16, .ref mA17, mV mAb, mV mBe, .ref mA20, nV su])), (mA17, cZ g 3 (upZ (upZ mbe 0 ((x : Nat) : Int)) 1 y))] H := hP
      have hD : va_D A [(mo0, .inr (8, [nV mL, .ref mA1, nV mAt, .ref mA3, .ref mA4, .ref mA5, .ref mA6, .ref mA7, .ref mA8, .ref mA9, .ref mA10, .ref mA11, .ref mA12, nV kz, nV dn, .ref mA15, .ref mA16, .ref mA17, mV mAb, mV mBe, .ref mA20, nV su])), (mA17, cZ g 3 (upZ (upZ mbe 0 ((x : Nat) : Int)) 1 y))] := hD
      refine lv_aload_n C.1 C.2.1 dX10_codes_68 rfl (lv_at hl 1 rfl) ?_
      refine r_get C hK hP kw_X10 (ci := 8) rfl 0 17 (by decide) kf_X10_51 rfl rfl dX10_codes_69 ?_
      refine r_iconst 2 C dX10_codes_72 rfl ?_
      refine lv_iload_n C.1 C.2.1 dX10_codes_73 rfl (lv_at hl 4 rfl) ?_
      refine r_astZ C hK hP hD hS 1 rfl ⟨by omega, by omega⟩ dX10_codes_74 (fun H locs hP hD hS => ?_)
      have hP : va_P g.1 vwCl [(mo0, .inr (8, [nV mL, .ref mA1, nV mAt, .ref mA3, .ref mA4, .ref mA5, .ref mA6, .ref mA7, .ref mA8, .ref mA9, .ref mA10, .ref mA11, .ref mA12, nV kz, nV dn, .ref mA15, .ref mA16, .ref mA17, mV mAb, mV mBe, .ref mA20, nV su])), (mA17, cZ g 3 (upZ (upZ (upZ mbe 0 ((x : Nat) : Int)) 1 y) 2 ((zn : Nat) : Int)))] H := hP
      have hD : va_D A [(mo0, .inr (8, [nV mL, .ref mA1, nV mAt, .ref mA3, .ref mA4, .ref mA5, .ref mA6, .ref mA7, .ref mA8, .ref mA9, .ref mA10, .ref mA11, .ref mA12, nV kz, nV dn, .ref mA15, .ref mA16, .ref mA17, mV mAb, mV mBe, .ref mA20, nV su])), (mA17, cZ g 3 (upZ (upZ (upZ mbe 0 ((x : Nat) : Int)) 1 y) 2 ((zn : Nat) : Int)))] := hD
      exact ret (()) dX10_codes_75 hS (by have e : cst (mCl, mbe) x y ((zn : Nat) : Int) = (((su : Nat) : Int), upZ (upZ (upZ mbe 0 ((x : Nat) : Int)) 1 y) 2 ((zn : Nat) : Int)) := (by unfold cst; rw [← hsu, if_pos (by omega)]); rw [e]; exact hP) (trivial)
    refine lv_iload C.1 C.2.1 dX10_codes_39 (lv_at hl 0 rfl) ?_
    refine lv_aload_n C.1 C.2.1 dX10_codes_41 rfl (lv_at hl 1 rfl) ?_
    refine r_get C hK hP kw_X10 (ci := 8) rfl 0 21 (by decide) kf_X10_170 rfl rfl dX10_codes_42 ?_
    refine r_cge 75 C dX10_codes_45 rfl ⟨rgN (by omega), ⟨by omega, by omega⟩⟩ (fun h_17 => ?_) (fun h_17 => ?_)
    · skip
      exact ret (()) dX10_codes_75 hS (by have e : cst (mCl, mbe) x y ((zn : Nat) : Int) = (mCl, mbe) := (by unfold cst; rw [← hsu, if_neg (by show ¬ (mCl < 0 ∨ ((su : Nat) : Int) < mCl); omega)]); rw [e]; exact hP) (trivial)
    refine lv_aload_n C.1 C.2.1 dX10_codes_48 rfl (lv_at hl 1 rfl) ?_
    refine lv_iload C.1 C.2.1 dX10_codes_49 (lv_at hl 0 rfl) ?_
    refine r_put (v := nV su) C hK hP hD hS kw_X10 tyX10_ok nmX10 (ci := 8) rfl 0 21 (by decide) kf_X10_170 rfl rfl rfl rfl rfl (Nat.le_of_ble_eq_true rfl) dX10_codes_51 (fun H locs hP hD hS => ?_)
    have hP : va_P g.1 vwCl [(mo0, .inr (8, [nV mL, .ref mA1, nV mAt, .ref mA3, .ref mA4, .ref mA5, .ref mA6, .ref mA7, .ref mA8, .ref mA9, .ref mA10, .ref mA11, .ref mA12, nV kz, nV dn, .ref mA15, .ref mA16, .ref mA17, mV mAb, mV mBe, .ref mA20, nV su])), (mA17, cZ g 3 mbe)] H := hP
    have hD : va_D A [(mo0, .inr (8, [nV mL, .ref mA1, nV mAt, .ref mA3, .ref mA4, .ref mA5, .ref mA6, .ref mA7, .ref mA8, .ref mA9, .ref mA10, .ref mA11, .ref mA12, nV kz, nV dn, .ref mA15, .ref mA16, .ref mA17, mV mAb, mV mBe, .ref mA20, nV su])), (mA17, cZ g 3 mbe)] := hD
    refine lv_aload_n C.1 C.2.1 dX10_codes_54 rfl (lv_at hl 1 rfl) ?_
    refine r_get C hK hP kw_X10 (ci := 8) rfl 0 17 (by decide) kf_X10_51 rfl rfl dX10_codes_55 ?_
    refine r_iconst 0 C dX10_codes_58 rfl ?_
    refine lv_iload_n C.1 C.2.1 dX10_codes_59 rfl (lv_at hl 2 rfl) ?_
    refine r_astZ C hK hP hD hS 1 rfl ⟨by omega, by omega⟩ dX10_codes_60 (fun H locs hP hD hS => ?_)
    have hP : va_P g.1 vwCl [(mo0, .inr (8, [nV mL, .ref mA1, nV mAt, .ref mA3, .ref mA4, .ref mA5, .ref mA6, .ref mA7, .ref mA8, .ref mA9, .ref mA10, .ref mA11, .ref mA12, nV kz, nV dn, .ref mA15, .ref mA16, .ref mA17, mV mAb, mV mBe, .ref mA20, nV su])), (mA17, cZ g 3 (upZ mbe 0 ((x : Nat) : Int)))] H := hP
    have hD : va_D A [(mo0, .inr (8, [nV mL, .ref mA1, nV mAt, .ref mA3, .ref mA4, .ref mA5, .ref mA6, .ref mA7, .ref mA8, .ref mA9, .ref mA10, .ref mA11, .ref mA12, nV kz, nV dn, .ref mA15, .ref mA16, .ref mA17, mV mAb, mV mBe, .ref mA20, nV su])), (mA17, cZ g 3 (upZ mbe 0 ((x : Nat) : Int)))] := hD
    refine lv_aload_n C.1 C.2.1 dX10_codes_61 rfl (lv_at hl 1 rfl) ?_
    refine r_get C hK hP kw_X10 (ci := 8) rfl 0 17 (by decide) kf_X10_51 rfl rfl dX10_codes_62 ?_
    refine r_iconst 1 C dX10_codes_65 rfl ?_
    refine lv_iload_n C.1 C.2.1 dX10_codes_66 rfl (lv_at hl 3 rfl) ?_
    refine r_astZ C hK hP hD hS 1 rfl ⟨by omega, by omega⟩ dX10_codes_67 (fun H locs hP hD hS => ?_)
    have hP : va_P g.1 vwCl [(mo0, .inr (8, [nV mL, .ref mA1, nV mAt, .ref mA3, .ref mA4, .ref mA5, .ref mA6, .ref mA7, .ref mA8, .ref mA9, .ref mA10, .ref mA11, .ref mA12, nV kz, nV dn, .ref mA15, .ref mA16, .ref mA17, mV mAb, mV mBe, .ref mA20, nV su])), (mA17, cZ g 3 (upZ (upZ mbe 0 ((x : Nat) : Int)) 1 y))] H := hP
    have hD : va_D A [(mo0, .inr (8, [nV mL, .ref mA1, nV mAt, .ref mA3, .ref mA4, .ref mA5, .ref mA6, .ref mA7, .ref mA8, .ref mA9, .ref mA10, .ref mA11, .ref mA12, nV kz, nV dn, .ref mA15, .ref mA16, .ref mA17, mV mAb, mV mBe, .ref mA20, nV su])), (mA17, cZ g 3 (upZ (upZ mbe 0 ((x : Nat) : Int)) 1 y))] := hD
    refine lv_aload_n C.1 C.2.1 dX10_codes_68 rfl (lv_at hl 1 rfl) ?_
    refine r_get C hK hP kw_X10 (ci := 8) rfl 0 17 (by decide) kf_X10_51 rfl rfl dX10_codes_69 ?_
    refine r_iconst 2 C dX10_codes_72 rfl ?_
    refine lv_iload_n C.1 C.2.1 dX10_codes_73 rfl (lv_at hl 4 rfl) ?_
    refine r_astZ C hK hP hD hS 1 rfl ⟨by omega, by omega⟩ dX10_codes_74 (fun H locs hP hD hS => ?_)
    have hP : va_P g.1 vwCl [(mo0, .inr (8, [nV mL, .ref mA1, nV mAt, .ref mA3, .ref mA4, .ref mA5, .ref mA6, .ref mA7, .ref mA8, .ref mA9, .ref mA10, .ref mA11, .ref mA12, nV kz, nV dn, .ref mA15, .ref mA16, .ref mA17, mV mAb, mV mBe, .ref mA20, nV su])), (mA17, cZ g 3 (upZ (upZ (upZ mbe 0 ((x : Nat) : Int)) 1 y) 2 ((zn : Nat) : Int)))] H := hP
    have hD : va_D A [(mo0, .inr (8, [nV mL, .ref mA1, nV mAt, .ref mA3, .ref mA4, .ref mA5, .ref mA6, .ref mA7, .ref mA8, .ref mA9, .ref mA10, .ref mA11, .ref mA12, nV kz, nV dn, .ref mA15, .ref mA16, .ref mA17, mV mAb, mV mBe, .ref mA20, nV su])), (mA17, cZ g 3 (upZ (upZ (upZ mbe 0 ((x : Nat) : Int)) 1 y) 2 ((zn : Nat) : Int)))] := hD
    exact ret (()) dX10_codes_75 hS (by have e : cst (mCl, mbe) x y ((zn : Nat) : Int) = (((su : Nat) : Int), upZ (upZ (upZ mbe 0 ((x : Nat) : Int)) 1 y) 2 ((zn : Nat) : Int)) := (by unfold cst; rw [← hsu, if_pos (by omega)]); rw [e]; exact hP) (trivial)
  refine r_iconst 0 C dX10_codes_21 rfl ?_
  refine r_goto 29 C dX10_codes_22 rfl ?_
  refine r_addN C dX10_codes_29 ?_
  refine r_topN (csm x y z) (by unfold csm; first | (rw [if_pos (by omega), if_pos (by omega)]; done) | (rw [if_neg (by omega), if_pos (by omega)]; rfl) | (rw [if_neg (by omega), if_neg (by omega)]; rfl) | (rw [if_pos (by omega), if_neg (by omega)]; rfl)) ?_
  refine r_nameN (fun su hsu => ?_)
  have hsb : su ≤ 54 := by rw [hsu]; exact csm_bd hx (by omega) (by omega)
  refine lv_istore (lv' := [(4, nV su), (0, .ref mo0), (1, nV x), (2, zV y), (3, zV z)]) C.1 C.2.1 dX10_codes_30 hl (by decide) rfl (fun ls hl => ?_)
  refine lv_aload_n C.1 C.2.1 dX10_codes_32 rfl (lv_at hl 1 rfl) ?_
  refine r_get C hK hP kw_X10 (ci := 8) rfl 0 21 (by decide) kf_X10_170 rfl rfl dX10_codes_33 ?_
  refine r_ilt 48 C dX10_codes_36 rfl (⟨by omega, by omega⟩) (fun h_18 => ?_) (fun h_18 => ?_)
  · skip
    refine lv_aload_n C.1 C.2.1 dX10_codes_48 rfl (lv_at hl 1 rfl) ?_
    refine lv_iload C.1 C.2.1 dX10_codes_49 (lv_at hl 0 rfl) ?_
    refine r_put (v := nV su) C hK hP hD hS kw_X10 tyX10_ok nmX10 (ci := 8) rfl 0 21 (by decide) kf_X10_170 rfl rfl rfl rfl rfl (Nat.le_of_ble_eq_true rfl) dX10_codes_51 (fun H locs hP hD hS => ?_)
    have hP : va_P g.1 vwCl [(mo0, .inr (8, [nV mL, .ref mA1, nV mAt, .ref mA3, .ref mA4, .ref mA5, .ref mA6, .ref mA7, .ref mA8, .ref mA9, .ref mA10, .ref mA11, .ref mA12, nV kz, nV dn, .ref mA15, .ref mA16, .ref mA17, mV mAb, mV mBe, .ref mA20, nV su])), (mA17, cZ g 3 mbe)] H := hP
    have hD : va_D A [(mo0, .inr (8, [nV mL, .ref mA1, nV mAt, .ref mA3, .ref mA4, .ref mA5, .ref mA6, .ref mA7, .ref mA8, .ref mA9, .ref mA10, .ref mA11, .ref mA12, nV kz, nV dn, .ref mA15, .ref mA16, .ref mA17, mV mAb, mV mBe, .ref mA20, nV su])), (mA17, cZ g 3 mbe)] := hD
    refine lv_aload_n C.1 C.2.1 dX10_codes_54 rfl (lv_at hl 1 rfl) ?_
    refine r_get C hK hP kw_X10 (ci := 8) rfl 0 17 (by decide) kf_X10_51 rfl rfl dX10_codes_55 ?_
    refine r_iconst 0 C dX10_codes_58 rfl ?_
    refine lv_iload_n C.1 C.2.1 dX10_codes_59 rfl (lv_at hl 2 rfl) ?_
    refine r_astZ C hK hP hD hS 1 rfl ⟨by omega, by omega⟩ dX10_codes_60 (fun H locs hP hD hS => ?_)
    have hP : va_P g.1 vwCl [(mo0, .inr (8, [nV mL, .ref mA1, nV mAt, .ref mA3, .ref mA4, .ref mA5, .ref mA6, .ref mA7, .ref mA8, .ref mA9, .ref mA10, .ref mA11, .ref mA12, nV kz, nV dn, .ref mA15, .ref mA16, .ref mA17, mV mAb, mV mBe, .ref mA20, nV su])), (mA17, cZ g 3 (upZ mbe 0 ((x : Nat) : Int)))] H := hP
    have hD : va_D A [(mo0, .inr (8, [nV mL, .ref mA1, nV mAt, .ref mA3, .ref mA4, .ref mA5, .ref mA6, .ref mA7, .ref mA8, .ref mA9, .ref mA10, .ref mA11, .ref mA12, nV kz, nV dn, .ref mA15, .ref mA16, .ref mA17, mV mAb, mV mBe, .ref mA20, nV su])), (mA17, cZ g 3 (upZ mbe 0 ((x : Nat) : Int)))] := hD
    refine lv_aload_n C.1 C.2.1 dX10_codes_61 rfl (lv_at hl 1 rfl) ?_
    refine r_get C hK hP kw_X10 (ci := 8) rfl 0 17 (by decide) kf_X10_51 rfl rfl dX10_codes_62 ?_
    refine r_iconst 1 C dX10_codes_65 rfl ?_
    refine lv_iload_n C.1 C.2.1 dX10_codes_66 rfl (lv_at hl 3 rfl) ?_
    refine r_astZ C hK hP hD hS 1 rfl ⟨by omega, by omega⟩ dX10_codes_67 (fun H locs hP hD hS => ?_)
    have hP : va_P g.1 vwCl [(mo0, .inr (8, [nV mL, .ref mA1, nV mAt, .ref mA3, .ref mA4, .ref mA5, .ref mA6, .ref mA7, .ref mA8, .ref mA9, .ref mA10, .ref mA11, .ref mA12, nV kz, nV dn, .ref mA15, .ref mA16, .ref mA17, mV mAb, mV mBe, .ref mA20, nV su])), (mA17, cZ g 3 (upZ (upZ mbe 0 ((x : Nat) : Int)) 1 y))] H := hP
    have hD : va_D A [(mo0, .inr (8, [nV mL, .ref mA1, nV mAt, .ref mA3, .ref mA4, .ref mA5, .ref mA6, .ref mA7, .ref mA8, .ref mA9, .ref mA10, .ref mA11, .ref mA12, nV kz, nV dn, .ref mA15, .ref mA16, .ref mA17, mV mAb, mV mBe, .ref mA20, nV su])), (mA17, cZ g 3 (upZ (upZ mbe 0 ((x : Nat) : Int)) 1 y))] := hD
    refine lv_aload_n C.1 C.2.1 dX10_codes_68 rfl (lv_at hl 1 rfl) ?_
    refine r_get C hK hP kw_X10 (ci := 8) rfl 0 17 (by decide) kf_X10_51 rfl rfl dX10_codes_69 ?_
    refine r_iconst 2 C dX10_codes_72 rfl ?_
    refine lv_iload_n C.1 C.2.1 dX10_codes_73 rfl (lv_at hl 4 rfl) ?_
    refine r_astZ C hK hP hD hS 1 rfl ⟨by omega, by omega⟩ dX10_codes_74 (fun H locs hP hD hS => ?_)
    have hP : va_P g.1 vwCl [(mo0, .inr (8, [nV mL, .ref mA1, nV mAt, .ref mA3, .ref mA4, .ref mA5, .ref mA6, .ref mA7, .ref mA8, .ref mA9, .ref mA10, .ref mA11, .ref mA12, nV kz, nV dn, .ref mA15, .ref mA16, .ref mA17, mV mAb, mV mBe, .ref mA20, nV su])), (mA17, cZ g 3 (upZ (upZ (upZ mbe 0 ((x : Nat) : Int)) 1 y) 2 z))] H := hP
    have hD : va_D A [(mo0, .inr (8, [nV mL, .ref mA1, nV mAt, .ref mA3, .ref mA4, .ref mA5, .ref mA6, .ref mA7, .ref mA8, .ref mA9, .ref mA10, .ref mA11, .ref mA12, nV kz, nV dn, .ref mA15, .ref mA16, .ref mA17, mV mAb, mV mBe, .ref mA20, nV su])), (mA17, cZ g 3 (upZ (upZ (upZ mbe 0 ((x : Nat) : Int)) 1 y) 2 z))] := hD
    exact ret (()) dX10_codes_75 hS (by have e : cst (mCl, mbe) x y z = (((su : Nat) : Int), upZ (upZ (upZ mbe 0 ((x : Nat) : Int)) 1 y) 2 z) := (by unfold cst; rw [← hsu, if_pos (by omega)]); rw [e]; exact hP) (trivial)
  refine lv_iload C.1 C.2.1 dX10_codes_39 (lv_at hl 0 rfl) ?_
  refine lv_aload_n C.1 C.2.1 dX10_codes_41 rfl (lv_at hl 1 rfl) ?_
  refine r_get C hK hP kw_X10 (ci := 8) rfl 0 21 (by decide) kf_X10_170 rfl rfl dX10_codes_42 ?_
  refine r_cge 75 C dX10_codes_45 rfl ⟨rgN (by omega), ⟨by omega, by omega⟩⟩ (fun h_19 => ?_) (fun h_19 => ?_)
  · skip
    exact ret (()) dX10_codes_75 hS (by have e : cst (mCl, mbe) x y z = (mCl, mbe) := (by unfold cst; rw [← hsu, if_neg (by show ¬ (mCl < 0 ∨ ((su : Nat) : Int) < mCl); omega)]); rw [e]; exact hP) (trivial)
  refine lv_aload_n C.1 C.2.1 dX10_codes_48 rfl (lv_at hl 1 rfl) ?_
  refine lv_iload C.1 C.2.1 dX10_codes_49 (lv_at hl 0 rfl) ?_
  refine r_put (v := nV su) C hK hP hD hS kw_X10 tyX10_ok nmX10 (ci := 8) rfl 0 21 (by decide) kf_X10_170 rfl rfl rfl rfl rfl (Nat.le_of_ble_eq_true rfl) dX10_codes_51 (fun H locs hP hD hS => ?_)
  have hP : va_P g.1 vwCl [(mo0, .inr (8, [nV mL, .ref mA1, nV mAt, .ref mA3, .ref mA4, .ref mA5, .ref mA6, .ref mA7, .ref mA8, .ref mA9, .ref mA10, .ref mA11, .ref mA12, nV kz, nV dn, .ref mA15, .ref mA16, .ref mA17, mV mAb, mV mBe, .ref mA20, nV su])), (mA17, cZ g 3 mbe)] H := hP
  have hD : va_D A [(mo0, .inr (8, [nV mL, .ref mA1, nV mAt, .ref mA3, .ref mA4, .ref mA5, .ref mA6, .ref mA7, .ref mA8, .ref mA9, .ref mA10, .ref mA11, .ref mA12, nV kz, nV dn, .ref mA15, .ref mA16, .ref mA17, mV mAb, mV mBe, .ref mA20, nV su])), (mA17, cZ g 3 mbe)] := hD
  refine lv_aload_n C.1 C.2.1 dX10_codes_54 rfl (lv_at hl 1 rfl) ?_
  refine r_get C hK hP kw_X10 (ci := 8) rfl 0 17 (by decide) kf_X10_51 rfl rfl dX10_codes_55 ?_
  refine r_iconst 0 C dX10_codes_58 rfl ?_
  refine lv_iload_n C.1 C.2.1 dX10_codes_59 rfl (lv_at hl 2 rfl) ?_
  refine r_astZ C hK hP hD hS 1 rfl ⟨by omega, by omega⟩ dX10_codes_60 (fun H locs hP hD hS => ?_)
  have hP : va_P g.1 vwCl [(mo0, .inr (8, [nV mL, .ref mA1, nV mAt, .ref mA3, .ref mA4, .ref mA5, .ref mA6, .ref mA7, .ref mA8, .ref mA9, .ref mA10, .ref mA11, .ref mA12, nV kz, nV dn, .ref mA15, .ref mA16, .ref mA17, mV mAb, mV mBe, .ref mA20, nV su])), (mA17, cZ g 3 (upZ mbe 0 ((x : Nat) : Int)))] H := hP
  have hD : va_D A [(mo0, .inr (8, [nV mL, .ref mA1, nV mAt, .ref mA3, .ref mA4, .ref mA5, .ref mA6, .ref mA7, .ref mA8, .ref mA9, .ref mA10, .ref mA11, .ref mA12, nV kz, nV dn, .ref mA15, .ref mA16, .ref mA17, mV mAb, mV mBe, .ref mA20, nV su])), (mA17, cZ g 3 (upZ mbe 0 ((x : Nat) : Int)))] := hD
  refine lv_aload_n C.1 C.2.1 dX10_codes_61 rfl (lv_at hl 1 rfl) ?_
  refine r_get C hK hP kw_X10 (ci := 8) rfl 0 17 (by decide) kf_X10_51 rfl rfl dX10_codes_62 ?_
  refine r_iconst 1 C dX10_codes_65 rfl ?_
  refine lv_iload_n C.1 C.2.1 dX10_codes_66 rfl (lv_at hl 3 rfl) ?_
  refine r_astZ C hK hP hD hS 1 rfl ⟨by omega, by omega⟩ dX10_codes_67 (fun H locs hP hD hS => ?_)
  have hP : va_P g.1 vwCl [(mo0, .inr (8, [nV mL, .ref mA1, nV mAt, .ref mA3, .ref mA4, .ref mA5, .ref mA6, .ref mA7, .ref mA8, .ref mA9, .ref mA10, .ref mA11, .ref mA12, nV kz, nV dn, .ref mA15, .ref mA16, .ref mA17, mV mAb, mV mBe, .ref mA20, nV su])), (mA17, cZ g 3 (upZ (upZ mbe 0 ((x : Nat) : Int)) 1 y))] H := hP
  have hD : va_D A [(mo0, .inr (8, [nV mL, .ref mA1, nV mAt, .ref mA3, .ref mA4, .ref mA5, .ref mA6, .ref mA7, .ref mA8, .ref mA9, .ref mA10, .ref mA11, .ref mA12, nV kz, nV dn, .ref mA15, .ref mA16, .ref mA17, mV mAb, mV mBe, .ref mA20, nV su])), (mA17, cZ g 3 (upZ (upZ mbe 0 ((x : Nat) : Int)) 1 y))] := hD
  refine lv_aload_n C.1 C.2.1 dX10_codes_68 rfl (lv_at hl 1 rfl) ?_
  refine r_get C hK hP kw_X10 (ci := 8) rfl 0 17 (by decide) kf_X10_51 rfl rfl dX10_codes_69 ?_
  refine r_iconst 2 C dX10_codes_72 rfl ?_
  refine lv_iload_n C.1 C.2.1 dX10_codes_73 rfl (lv_at hl 4 rfl) ?_
  refine r_astZ C hK hP hD hS 1 rfl ⟨by omega, by omega⟩ dX10_codes_74 (fun H locs hP hD hS => ?_)
  have hP : va_P g.1 vwCl [(mo0, .inr (8, [nV mL, .ref mA1, nV mAt, .ref mA3, .ref mA4, .ref mA5, .ref mA6, .ref mA7, .ref mA8, .ref mA9, .ref mA10, .ref mA11, .ref mA12, nV kz, nV dn, .ref mA15, .ref mA16, .ref mA17, mV mAb, mV mBe, .ref mA20, nV su])), (mA17, cZ g 3 (upZ (upZ (upZ mbe 0 ((x : Nat) : Int)) 1 y) 2 z))] H := hP
  have hD : va_D A [(mo0, .inr (8, [nV mL, .ref mA1, nV mAt, .ref mA3, .ref mA4, .ref mA5, .ref mA6, .ref mA7, .ref mA8, .ref mA9, .ref mA10, .ref mA11, .ref mA12, nV kz, nV dn, .ref mA15, .ref mA16, .ref mA17, mV mAb, mV mBe, .ref mA20, nV su])), (mA17, cZ g 3 (upZ (upZ (upZ mbe 0 ((x : Nat) : Int)) 1 y) 2 z))] := hD
  exact ret (()) dX10_codes_75 hS (by have e : cst (mCl, mbe) x y z = (((su : Nat) : Int), upZ (upZ (upZ mbe 0 ((x : Nat) : Int)) 1 y) 2 z) := (by unfold cst; rw [← hsu, if_pos (by omega)]); rw [e]; exact hP) (trivial)
set_option maxHeartbeats 4000000 in
set_option maxRecDepth 100000 in
theorem c_X10_code_1 (l : Launch) (g : GG) (mo0 : Nat) (mA1 : Nat) (mA3 : Nat) (mA4 : Nat) (mA5 : Nat) (mA6 : Nat) (mA7 : Nat) (mA8 : Nat) (mA9 : Nat) (mA10 : Nat) (mA11 : Nat) (mA12 : Nat) (mA15 : Nat) (mA16 : Nat) (mA17 : Nat) (mA20 : Nat) (mL : Nat) (mAt : Nat) (kz : Nat) (dn : Nat) (mAb : Nat) (mBe : Nat) (mCl : Int) (mtd : Nat → Nat) (mre : Nat → Bool) (mbe : Nat → Int) (bi : Nat) (mo : Nat) (yn : Nat) (wn : Nat) (z : Int) (hb0 : mtd 0 = bi) (hb1 : mtd 1 = mo) (hbm : (1 ≤ bi ∧ bi ≤ 9) ∧ (1 ≤ mo ∧ mo ≤ 9)) (hy : yn ≤ 20) (hw : wn ≤ 3) (hz : -1 ≤ z ∧ z ≤ 0) : WRi g l yX10_code cX10_code 8 (some .int) 4 [(mo0, .inr (8, [nV mL, .ref mA1, nV mAt, .ref mA3, .ref mA4, .ref mA5, .ref mA6, .ref mA7, .ref mA8, .ref mA9, .ref mA10, .ref mA11, .ref mA12, nV kz, nV dn, .ref mA15, .ref mA16, .ref mA17, mV mAb, mV mBe, .ref mA20, zV mCl])), (mA3, cN g 4 mtd), (mA16, cO g 5184 mre), (mA17, cZ g 3 mbe)] [.ref mo0, nV 1, nV yn, nV wn, zV z] (fun r (uq_ : Int × (Nat → Bool) × (Nat → Int)) => match uq_ with | (cl1, re1, be1) => r = iI (if (mnS (fun y1 t => rc bi mo y1 wn t (yn + 1)) 1).1 < 0 ∨ z < 0 then (mnS (fun y1 t => rc bi mo y1 wn t (yn + 1)) 1).1 else (((mnS (fun y1 t => rc bi mo y1 wn t (yn + 1)) 1).2 z.toNat : Nat) : Int))) (fun (uq_ : Int × (Nat → Bool) × (Nat → Int)) => match uq_ with | (cl1, re1, be1) => [(mo0, .inr (8, [nV mL, .ref mA1, nV mAt, .ref mA3, .ref mA4, .ref mA5, .ref mA6, .ref mA7, .ref mA8, .ref mA9, .ref mA10, .ref mA11, .ref mA12, nV kz, nV dn, .ref mA15, .ref mA16, .ref mA17, mV mAb, mV mBe, .ref mA20, zV cl1])), (mA3, cN g 4 mtd), (mA16, cO g 5184 re1), (mA17, cZ g 3 be1)]) := by
  refine wr_startI (by decide +kernel) (Nat.le_of_ble_eq_true rfl) ?_
  intro p e s m args below meth c Q A ls C hK hA ret hP hD hS hl
  have C : CT p s m args meth c cX10_code RX10 8 := C
  have hl : lv_has ls 8 [(0, .ref mo0), (1, nV 1), (2, nV yn), (3, nV wn), (4, zV z)] := hl
  refine lv_iload_n C.1 C.2.1 dX10_code_0 rfl (lv_at hl 1 rfl) ?_
  refine r_i2l C dX10_code_1 (rgN (by decide)) ?_
  refine r_lconst 1 C dX10_code_2 rfl ?_
  refine r_ldc2N 3 C kv_X10_131 dX10_code_3 rfl ?_
  refine ro_callS (As := [mV 1, mV 1, mV 3]) (rest := []) C hK (c_X10_in l g ((1 : Nat) : Int) ((1 : Nat) : Int) ((3 : Nat) : Int) (by first | assumption | exact ⟨by omega, by omega⟩) (by first | assumption | exact ⟨by omega, by omega⟩) (by first | assumption | exact ⟨by omega, by omega⟩)) (hP.sub (ws' := []) [] rfl) kc_X10_in kl_X10_65 kn_X10 ks_X10_in nk_X10_in (rm_lt (by decide) (by decide)) hl rfl (Nat.le_of_ble_eq_true rfl) dX10_code_6 (fun r_1 hr_2 => ?_)
  subst hr_2
  refine r_beq 36 C dX10_code_9 rfl (fun h_3 => ?_) (fun h_3 => ?_)
  · exact absurd h_3 (by omega)
  refine lv_iload_n C.1 C.2.1 dX10_code_12 rfl (lv_at hl 2 rfl) ?_
  refine lv_iload_n C.1 C.2.1 dX10_code_13 rfl (lv_at hl 3 rfl) ?_
  refine ro_callS (As := [nV yn, nV wn]) (rest := []) C hK (c_X10_isSpan l g ((yn : Nat) : Int) ((wn : Nat) : Int) (by first | assumption | exact ⟨by omega, by omega⟩) (by first | assumption | exact ⟨by omega, by omega⟩)) (hP.sub (ws' := []) [] rfl) kc_X10_isSpan kl_X10_162 kn_X10 ks_X10_isSpan nk_X10_isSpan (rm_lt (by decide) (by decide)) hl rfl (Nat.le_of_ble_eq_true rfl) dX10_code_14 (fun r_4 hr_5 => ?_)
  subst hr_5
  refine r_beq 36 C dX10_code_17 rfl (fun h_6 => ?_) (fun h_6 => ?_)
  · exact absurd h_6 (by omega)
  refine lv_iload C.1 C.2.1 dX10_code_20 (lv_at hl 4 rfl) ?_
  refine r_i2l C dX10_code_22 (⟨by omega, by omega⟩) ?_
  refine r_ldc2 (-1) C kv_X10_173 dX10_code_23 rfl ?_
  refine lv_iload_n C.1 C.2.1 dX10_code_26 rfl (lv_at hl 1 rfl) ?_
  refine r_iconst 1 C dX10_code_27 rfl ?_
  refine r_subZ C dX10_code_28 ?_
  refine r_i2l C dX10_code_29 (⟨by omega, by omega⟩) ?_
  refine ro_callS (As := [jV z, jV (-1), jV (((1 : Nat) : Int) - ((1 : Nat) : Int))]) (rest := []) C hK (c_X10_in l g z (-1) (((1 : Nat) : Int) - ((1 : Nat) : Int)) (by first | assumption | exact ⟨by omega, by omega⟩) (by first | assumption | exact ⟨by omega, by omega⟩) (by first | assumption | exact ⟨by omega, by omega⟩)) (hP.sub (ws' := []) [] rfl) kc_X10_in kl_X10_65 kn_X10 ks_X10_in nk_X10_in (rm_lt (by decide) (by decide)) hl rfl (Nat.le_of_ble_eq_true rfl) dX10_code_30 (fun r_7 hr_8 => ?_)
  subst hr_8
  refine r_bne 38 C dX10_code_33 rfl (fun h_9 => ?_) (fun h_9 => ?_)
  rotate_left
  · exact absurd h_9 (by omega)
  refine r_iconst 0 C dX10_code_38 rfl ?_
  refine lv_istore (lv' := [(5, nV 0), (0, .ref mo0), (1, nV 1), (2, nV yn), (3, nV wn), (4, zV z)]) C.1 C.2.1 dX10_code_39 hl (by decide) rfl (fun ls hl => ?_)
  have L41 : ∀ (n_41 : Nat) (i0 : Nat) (rA : Nat → Bool) (H : Heap) (locs : List Loc) (ls : Array Slot) (hi0 : i0 ≤ 5184) (hrA : ∀ j, j < i0 → rA j = false) (hm : 5184 - i0 < n_41) (hP : va_P g.1 vwCl [(mo0, .inr (8, [nV mL, .ref mA1, nV mAt, .ref mA3, .ref mA4, .ref mA5, .ref mA6, .ref mA7, .ref mA8, .ref mA9, .ref mA10, .ref mA11, .ref mA12, nV kz, nV dn, .ref mA15, .ref mA16, .ref mA17, mV mAb, mV mBe, .ref mA20, zV mCl])), (mA3, cN g 4 mtd), (mA16, cO g 5184 rA), (mA17, cZ g 3 mbe)] H) (hD : va_D A [(mo0, .inr (8, [nV mL, .ref mA1, nV mAt, .ref mA3, .ref mA4, .ref mA5, .ref mA6, .ref mA7, .ref mA8, .ref mA9, .ref mA10, .ref mA11, .ref mA12, nV kz, nV dn, .ref mA15, .ref mA16, .ref mA17, mV mAb, mV mBe, .ref mA20, zV mCl])), (mA3, cN g 4 mtd), (mA16, cO g 5184 rA), (mA17, cZ g 3 mbe)]) (hS : va_S A s.heap H locs) (hl : lv_has ls 8 [(5, nV i0), (0, .ref mo0), (1, nV 1), (2, nV yn), (3, nV wn), (4, zV z)]), W p l e (rD 4) s m args below meth c H locs 0 0 Q (F0 m 41 ls []) := by
    intro n_41
    induction n_41 with
    | zero => intro i0 rA H locs ls hi0 hrA hm hP hD hS hl; exact absurd hm (Nat.not_lt_zero _)
    | succ n_41 ih_41 =>
      intro i0 rA H locs ls hi0 hrA hm hP hD hS hl
      refine lv_iload C.1 C.2.1 dX10_code_41 (lv_at hl 0 rfl) ?_
      refine r_sipush 5184 C dX10_code_43 (by decide) ?_
      refine r_cge 63 C dX10_code_46 rfl ⟨rgN (by omega), rgN (by decide)⟩ (fun h_10 => ?_) (fun h_10 => ?_)
      · skip
        refine r_iconst 0 C dX10_code_63 rfl ?_
        refine lv_istore (lv' := [(5, nV 0), (0, .ref mo0), (1, nV 1), (2, nV yn), (3, nV wn), (4, zV z)]) C.1 C.2.1 dX10_code_64 hl (by decide) rfl (fun ls hl => ?_)
        have L66 : ∀ (n_66 : Nat) (i1 : Nat) (rB : Nat → Bool) (H : Heap) (locs : List Loc) (ls : Array Slot) (hi1 : i1 ≤ 72) (hrB : ∀ x t, x < 72 → t < 72 → rB (72 * x + t) = if x < i1 then (fun y1 t => rc bi mo y1 wn t (yn + 1)) x t else false) (hm : 72 - i1 < n_66) (hP : va_P g.1 vwCl [(mo0, .inr (8, [nV mL, .ref mA1, nV mAt, .ref mA3, .ref mA4, .ref mA5, .ref mA6, .ref mA7, .ref mA8, .ref mA9, .ref mA10, .ref mA11, .ref mA12, nV kz, nV dn, .ref mA15, .ref mA16, .ref mA17, mV mAb, mV mBe, .ref mA20, zV mCl])), (mA3, cN g 4 mtd), (mA16, cO g 5184 rB), (mA17, cZ g 3 mbe)] H) (hD : va_D A [(mo0, .inr (8, [nV mL, .ref mA1, nV mAt, .ref mA3, .ref mA4, .ref mA5, .ref mA6, .ref mA7, .ref mA8, .ref mA9, .ref mA10, .ref mA11, .ref mA12, nV kz, nV dn, .ref mA15, .ref mA16, .ref mA17, mV mAb, mV mBe, .ref mA20, zV mCl])), (mA3, cN g 4 mtd), (mA16, cO g 5184 rB), (mA17, cZ g 3 mbe)]) (hS : va_S A s.heap H locs) (hl : lv_has ls 8 [(5, nV i1), (0, .ref mo0), (1, nV 1), (2, nV yn), (3, nV wn), (4, zV z)]), W p l e (rD 4) s m args below meth c H locs 0 0 Q (F0 m 66 ls []) := by
          intro n_66
          induction n_66 with
          | zero => intro i1 rB H locs ls hi1 hrB hm hP hD hS hl; exact absurd hm (Nat.not_lt_zero _)
          | succ n_66 ih_66 =>
            intro i1 rB H locs ls hi1 hrB hm hP hD hS hl
            refine lv_iload C.1 C.2.1 dX10_code_66 (lv_at hl 0 rfl) ?_
            refine r_bipush 72 C dX10_code_68 (by decide) ?_
            refine r_cge 137 C dX10_code_70 rfl ⟨rgN (by omega), rgN (by decide)⟩ (fun h_11 => ?_) (fun h_11 => ?_)
            · skip
              have hre : ∀ x t, x < 72 → t < 72 → rB (72 * x + t) = (fun y1 t => rc bi mo y1 wn t (yn + 1)) x t := fun x t hx ht => (hrB x t hx ht).trans (if_pos (by omega))
              refine lv_aload_n C.1 C.2.1 dX10_code_137 rfl (lv_at hl 1 rfl) ?_
              refine r_bipushZ C dX10_code_138 (by decide) ?_
              refine r_put (v := zV (-4)) C hK hP hD hS kw_X10 tyX10_ok nmX10 (ci := 8) rfl 0 21 (by decide) kf_X10_170 rfl rfl rfl rfl rfl (Nat.le_of_ble_eq_true rfl) dX10_code_140 (fun H locs hP hD hS => ?_)
              have hP : va_P g.1 vwCl [(mo0, .inr (8, [nV mL, .ref mA1, nV mAt, .ref mA3, .ref mA4, .ref mA5, .ref mA6, .ref mA7, .ref mA8, .ref mA9, .ref mA10, .ref mA11, .ref mA12, nV kz, nV dn, .ref mA15, .ref mA16, .ref mA17, mV mAb, mV mBe, .ref mA20, zV (-4)])), (mA3, cN g 4 mtd), (mA16, cO g 5184 rB), (mA17, cZ g 3 mbe)] H := hP
              have hD : va_D A [(mo0, .inr (8, [nV mL, .ref mA1, nV mAt, .ref mA3, .ref mA4, .ref mA5, .ref mA6, .ref mA7, .ref mA8, .ref mA9, .ref mA10, .ref mA11, .ref mA12, nV kz, nV dn, .ref mA15, .ref mA16, .ref mA17, mV mAb, mV mBe, .ref mA20, zV (-4)])), (mA3, cN g 4 mtd), (mA16, cO g 5184 rB), (mA17, cZ g 3 mbe)] := hD
              refine r_iconst 0 C dX10_code_143 rfl ?_
              refine lv_istore (lv' := [(5, nV 0), (0, .ref mo0), (1, nV 1), (2, nV yn), (3, nV wn), (4, zV z)]) C.1 C.2.1 dX10_code_144 hl (by decide) rfl (fun ls hl => ?_)
              have L146 : ∀ (n_146 : Nat) (i : Nat) (clA : Int) (beA : Nat → Int) (H : Heap) (locs : List Loc) (ls : Array Slot) (hi : i ≤ 72) (hM : MR 1 clA beA (mEn (fun y1 t => rc bi mo y1 wn t (yn + 1)) 0 0 0 0 c0 i ms0)) (hm : 72 - i < n_146) (hP : va_P g.1 vwCl [(mo0, .inr (8, [nV mL, .ref mA1, nV mAt, .ref mA3, .ref mA4, .ref mA5, .ref mA6, .ref mA7, .ref mA8, .ref mA9, .ref mA10, .ref mA11, .ref mA12, nV kz, nV dn, .ref mA15, .ref mA16, .ref mA17, mV mAb, mV mBe, .ref mA20, zV clA])), (mA3, cN g 4 mtd), (mA16, cO g 5184 rB), (mA17, cZ g 3 beA)] H) (hD : va_D A [(mo0, .inr (8, [nV mL, .ref mA1, nV mAt, .ref mA3, .ref mA4, .ref mA5, .ref mA6, .ref mA7, .ref mA8, .ref mA9, .ref mA10, .ref mA11, .ref mA12, nV kz, nV dn, .ref mA15, .ref mA16, .ref mA17, mV mAb, mV mBe, .ref mA20, zV clA])), (mA3, cN g 4 mtd), (mA16, cO g 5184 rB), (mA17, cZ g 3 beA)]) (hS : va_S A s.heap H locs) (hl : lv_has ls 8 [(5, nV i), (0, .ref mo0), (1, nV 1), (2, nV yn), (3, nV wn), (4, zV z)]), W p l e (rD 4) s m args below meth c H locs 0 0 Q (F0 m 146 ls []) := by
                intro n_146
                induction n_146 with
                | zero => intro i clA beA H locs ls hi hM hm hP hD hS hl; exact absurd hm (Nat.not_lt_zero _)
                | succ n_146 ih_146 =>
                  intro i clA beA H locs ls hi hM hm hP hD hS hl
                  refine lv_iload C.1 C.2.1 dX10_code_146 (lv_at hl 0 rfl) ?_
                  refine r_bipush 72 C dX10_code_148 (by decide) ?_
                  refine r_cge 277 C dX10_code_150 rfl ⟨rgN (by omega), rgN (by decide)⟩ (fun h_12 => ?_) (fun h_12 => ?_)
                  · skip
                    rw [show i = 72 by omega] at hM
                    have hM2 : MR 1 clA beA (mnS (fun y1 t => rc bi mo y1 wn t (yn + 1)) 1) := hM
                    obtain ⟨k1, k2, k3⟩ := hM2
                    refine lv_aload_n C.1 C.2.1 dX10_code_277 rfl (lv_at hl 1 rfl) ?_
                    refine r_get C hK hP kw_X10 (ci := 8) rfl 0 21 (by decide) kf_X10_170 rfl rfl dX10_code_278 ?_
                    refine r_ilt 289 C dX10_code_281 rfl (⟨by omega, by omega⟩) (fun g1 => ?_) (fun g1 => ?_)
                    · skip
                      refine lv_aload_n C.1 C.2.1 dX10_code_289 rfl (lv_at hl 1 rfl) ?_
                      refine r_get C hK hP kw_X10 (ci := 8) rfl 0 21 (by decide) kf_X10_170 rfl rfl dX10_code_290 ?_
                      refine r_goto 303 C dX10_code_293 rfl ?_
                      exact ret ((clA, rB, beA)) dX10_code_303 hS hP (by rw [if_pos (by omega), ← k1])
                    refine lv_iload C.1 C.2.1 dX10_code_284 (lv_at hl 5 rfl) ?_
                    refine r_ige 296 C dX10_code_286 rfl (⟨by omega, by omega⟩) (fun g2 => ?_) (fun g2 => ?_)
                    · skip
                      obtain ⟨zn, rfl⟩ : ∃ n : Nat, z = (n : Int) := ⟨z.toNat, by omega⟩
                      have hl : lv_has ls 8 [(5, nV i), (0, .ref mo0), (1, nV 1), (2, nV yn), (3, nV wn), (4, nV zn)] := hl
                      refine lv_aload_n C.1 C.2.1 dX10_code_296 rfl (lv_at hl 1 rfl) ?_
                      refine r_get C hK hP kw_X10 (ci := 8) rfl 0 17 (by decide) kf_X10_51 rfl rfl dX10_code_297 ?_
                      refine lv_iload C.1 C.2.1 dX10_code_300 (lv_at hl 5 rfl) ?_
                      refine r_aldZ C hK hP 3 rfl ⟨by omega, by omega⟩ dX10_code_302 ?_
                      exact ret ((clA, rB, beA)) dX10_code_303 hS hP (by rw [if_neg (by omega)]; exact iI_cast (k2 (by omega) zn (by omega)))
                    refine lv_aload_n C.1 C.2.1 dX10_code_289 rfl (lv_at hl 1 rfl) ?_
                    refine r_get C hK hP kw_X10 (ci := 8) rfl 0 21 (by decide) kf_X10_170 rfl rfl dX10_code_290 ?_
                    refine r_goto 303 C dX10_code_293 rfl ?_
                    exact ret ((clA, rB, beA)) dX10_code_303 hS hP (by rw [if_pos (by omega), ← k1])
                  refine lv_iload_n C.1 C.2.1 dX10_code_153 rfl (lv_at hl 2 rfl) ?_
                  refine r_iconst 1 C dX10_code_154 rfl ?_
                  refine r_cne 166 C dX10_code_155 rfl ⟨rgN (by decide), rgN (by decide)⟩ (fun h_13 => ?_) (fun h_13 => ?_)
                  · exact absurd h_13 (by omega)
                  refine lv_aload_n C.1 C.2.1 dX10_code_158 rfl (lv_at hl 1 rfl) ?_
                  refine lv_iload C.1 C.2.1 dX10_code_159 (lv_at hl 0 rfl) ?_
                  refine r_iconstZ C dX10_code_161 ?_
                  refine r_iconstZ C dX10_code_162 ?_
                  refine wr_callVV (As := [nV i, zV (-1), zV (-1)]) (rest := []) C hK (c_X10_codes l g mo0 mA1 mA3 mA4 mA5 mA6 mA7 mA8 mA9 mA10 mA11 mA12 mA15 mA16 mA17 mA20 mL mAt kz dn mAb mBe clA beA i (-1) (-1) (by first | assumption | omega) (by first | assumption | omega) (by first | assumption | omega) (hM.2.2)) [0, 3] rfl (fun _ => rfl) (by decide) hP hD hS hA (ci := 8) (q0 := 0) rfl rfl kc_X10_codes kl_X10_175 kn_X10 ki_X10_codes ke_X10_codes nk_X10_codes (rm_lt (by decide) (by decide)) hl rfl (Nat.le_of_ble_eq_true rfl) dX10_code_163 (fun u_16 H locs hr_15 hP hD hS => ?_)
                  have hP : va_P g.1 vwCl [(mo0, .inr (8, [nV mL, .ref mA1, nV mAt, .ref mA3, .ref mA4, .ref mA5, .ref mA6, .ref mA7, .ref mA8, .ref mA9, .ref mA10, .ref mA11, .ref mA12, nV kz, nV dn, .ref mA15, .ref mA16, .ref mA17, mV mAb, mV mBe, .ref mA20, zV ((cst (clA, beA) i (-1) (-1)).1)])), (mA3, cN g 4 mtd), (mA16, cO g 5184 rB), (mA17, cZ g 3 ((cst (clA, beA) i (-1) (-1)).2))] H := hP
                  have hD : va_D A [(mo0, .inr (8, [nV mL, .ref mA1, nV mAt, .ref mA3, .ref mA4, .ref mA5, .ref mA6, .ref mA7, .ref mA8, .ref mA9, .ref mA10, .ref mA11, .ref mA12, nV kz, nV dn, .ref mA15, .ref mA16, .ref mA17, mV mAb, mV mBe, .ref mA20, zV ((cst (clA, beA) i (-1) (-1)).1)])), (mA3, cN g 4 mtd), (mA16, cO g 5184 rB), (mA17, cZ g 3 ((cst (clA, beA) i (-1) (-1)).2))] := hD
                  refine lv_iload C.1 C.2.1 dX10_code_166 (lv_at hl 0 rfl) ?_
                  refine r_iconst 1 C dX10_code_168 rfl ?_
                  refine r_addN C dX10_code_169 ?_
                  refine lv_istore (lv' := [(6, nV (i + 1)), (5, nV i), (0, .ref mo0), (1, nV 1), (2, nV yn), (3, nV wn), (4, zV z)]) C.1 C.2.1 dX10_code_170 hl (by decide) rfl (fun ls hl => ?_)
                  refine lv_iload C.1 C.2.1 dX10_code_172 (lv_at hl 0 rfl) ?_
                  refine r_bipush 72 C dX10_code_174 (by decide) ?_
                  refine r_cge 271 C dX10_code_176 rfl ⟨rgN (by omega), rgN (by decide)⟩ (fun h_17 => ?_) (fun h_17 => ?_)
                  · skip
                    refine r_incN (k := 1) (n := 1) [(5, nV (i + 1)), (6, nV (i + 1)), (0, .ref mo0), (1, nV 1), (2, nV yn), (3, nV wn), (4, zV z)] C dX10_code_271 hl rfl rfl (by decide) rfl (fun ls hl => ?_)
                    refine r_goto 146 C dX10_code_274 rfl ?_
                    exact ih_146 (i + 1) ((cst (clA, beA) i (-1) (-1)).1) ((cst (clA, beA) i (-1) (-1)).2) _ _ _ (by first | assumption | omega) (by rw [mEn_x0]; exact MR_c hM csm_1 (by have := fl_bd i (by omega); omega) bc_1) (by omega) hP hD hS (lv_sub hl [0, 2, 3, 4, 5, 6] rfl)
                  refine lv_iload_n C.1 C.2.1 dX10_code_179 rfl (lv_at hl 3 rfl) ?_
                  refine r_iconst 1 C dX10_code_180 rfl ?_
                  refine r_cle 271 C dX10_code_181 rfl ⟨rgN (by decide), rgN (by decide)⟩ (fun h_18 => ?_) (fun h_18 => ?_)
                  rotate_left
                  · exact absurd h_18 (by omega)
                  refine r_incN (k := 1) (n := 1) [(5, nV (i + 1)), (6, nV (i + 1)), (0, .ref mo0), (1, nV 1), (2, nV yn), (3, nV wn), (4, zV z)] C dX10_code_271 hl rfl rfl (by decide) rfl (fun ls hl => ?_)
                  refine r_goto 146 C dX10_code_274 rfl ?_
                  exact ih_146 (i + 1) ((cst (clA, beA) i (-1) (-1)).1) ((cst (clA, beA) i (-1) (-1)).2) _ _ _ (by first | assumption | omega) (by rw [mEn_x0]; exact MR_c hM csm_1 (by have := fl_bd i (by omega); omega) bc_1) (by omega) hP hD hS (lv_sub hl [0, 2, 3, 4, 5, 6] rfl)
              exact L146 (72 - 0 + 1) 0 (-4) mbe _ _ _ (by first | assumption | omega) (⟨rfl, fun q => absurd q (by decide), by decide, by decide⟩) (Nat.lt_succ_self _) hP hD hS (lv_sub hl [0, 1, 2, 3, 4, 5] rfl)
            refine r_iconst 0 C dX10_code_73 rfl ?_
            refine lv_istore (lv' := [(6, nV 0), (5, nV i1), (0, .ref mo0), (1, nV 1), (2, nV yn), (3, nV wn), (4, zV z)]) C.1 C.2.1 dX10_code_74 hl (by decide) rfl (fun ls hl => ?_)
            have L76 : ∀ (n_76 : Nat) (i2 : Nat) (rC : Nat → Bool) (H : Heap) (locs : List Loc) (ls : Array Slot) (hi2 : i2 ≤ 84) (hrC : ∀ x t, x < 72 → t < 72 → rC (72 * x + t) = if x < i1 then (fun y1 t => rc bi mo y1 wn t (yn + 1)) x t else if x = i1 then rq bi mo i1 yn wn t i2 else false) (hm : 84 - i2 < n_76) (hP : va_P g.1 vwCl [(mo0, .inr (8, [nV mL, .ref mA1, nV mAt, .ref mA3, .ref mA4, .ref mA5, .ref mA6, .ref mA7, .ref mA8, .ref mA9, .ref mA10, .ref mA11, .ref mA12, nV kz, nV dn, .ref mA15, .ref mA16, .ref mA17, mV mAb, mV mBe, .ref mA20, zV mCl])), (mA3, cN g 4 mtd), (mA16, cO g 5184 rC), (mA17, cZ g 3 mbe)] H) (hD : va_D A [(mo0, .inr (8, [nV mL, .ref mA1, nV mAt, .ref mA3, .ref mA4, .ref mA5, .ref mA6, .ref mA7, .ref mA8, .ref mA9, .ref mA10, .ref mA11, .ref mA12, nV kz, nV dn, .ref mA15, .ref mA16, .ref mA17, mV mAb, mV mBe, .ref mA20, zV mCl])), (mA3, cN g 4 mtd), (mA16, cO g 5184 rC), (mA17, cZ g 3 mbe)]) (hS : va_S A s.heap H locs) (hl : lv_has ls 8 [(6, nV i2), (5, nV i1), (0, .ref mo0), (1, nV 1), (2, nV yn), (3, nV wn), (4, zV z)]), W p l e (rD 4) s m args below meth c H locs 0 0 Q (F0 m 76 ls []) := by
              intro n_76
              induction n_76 with
              | zero => intro i2 rC H locs ls hi2 hrC hm hP hD hS hl; exact absurd hm (Nat.not_lt_zero _)
              | succ n_76 ih_76 =>
                intro i2 rC H locs ls hi2 hrC hm hP hD hS hl
                refine lv_iload C.1 C.2.1 dX10_code_76 (lv_at hl 0 rfl) ?_
                refine r_bipush 84 C dX10_code_78 (by decide) ?_
                refine r_cge 131 C dX10_code_80 rfl ⟨rgN (by omega), rgN (by decide)⟩ (fun h_19 => ?_) (fun h_19 => ?_)
                · skip
                  refine r_incN (k := 1) (n := 1) [(5, nV (i1 + 1)), (6, nV i2), (0, .ref mo0), (1, nV 1), (2, nV yn), (3, nV wn), (4, zV z)] C dX10_code_131 hl rfl rfl (by decide) rfl (fun ls hl => ?_)
                  refine r_goto 66 C dX10_code_134 rfl ?_
                  exact ih_66 (i1 + 1) rC _ _ _ (by first | assumption | omega) (fun x t hx ht => by rw [hrC x t hx ht]; by_cases q : x < i1; (rw [if_pos q, if_pos (by omega)]); (rw [if_neg q]; by_cases q2 : x = i1; (rw [if_pos q2, if_pos (by omega), show i2 = 84 by omega, rq_rc (by omega) (by omega), q2]); (rw [if_neg q2, if_neg (by omega)]))) (by omega) hP hD hS (lv_sub hl [0, 2, 3, 4, 5, 6] rfl)
                refine lv_iload C.1 C.2.1 dX10_code_83 (lv_at hl 0 rfl) ?_
                refine r_iconst 4 C dX10_code_85 rfl ?_
                refine r_divN C dX10_code_86 (by omega) (by decide) ?_
                refine lv_iload_n C.1 C.2.1 dX10_code_87 rfl (lv_at hl 4 rfl) ?_
                refine r_cgt 125 C dX10_code_88 rfl ⟨rgN (by omega), rgN (by omega)⟩ (fun h_20 => ?_) (fun h_20 => ?_)
                · skip
                  refine r_incN (k := 0) (n := 1) [(6, nV (i2 + 1)), (5, nV i1), (0, .ref mo0), (1, nV 1), (2, nV yn), (3, nV wn), (4, zV z)] C dX10_code_125 hl rfl rfl (by decide) rfl (fun ls hl => ?_)
                  refine r_goto 76 C dX10_code_128 rfl ?_
                  exact ih_76 (i2 + 1) rC _ _ _ (by first | assumption | omega) (fun x t hx ht => by have hu : rq bi mo i1 yn wn t (i2 + 1) = rq bi mo i1 yn wn t i2 := (by show (_ || (decide (i2 / 4 ≤ yn ∧ i2 % 4 ≤ wn) && _)) = _; rw [decide_eq_false (show ¬ (i2 / 4 ≤ yn ∧ i2 % 4 ≤ wn) by omega), Bool.false_and, Bool.or_false]); rw [hrC x t hx ht, hu]) (by omega) hP hD hS (lv_sub hl [0, 1, 2, 3, 4, 5, 6] rfl)
                refine lv_iload C.1 C.2.1 dX10_code_91 (lv_at hl 0 rfl) ?_
                refine r_iconst 4 C dX10_code_93 rfl ?_
                refine r_remN C dX10_code_94 (by omega) (by decide) ?_
                refine lv_iload_n C.1 C.2.1 dX10_code_95 rfl (lv_at hl 5 rfl) ?_
                refine r_cgt 125 C dX10_code_96 rfl ⟨rgN (by omega), rgN (by omega)⟩ (fun h_21 => ?_) (fun h_21 => ?_)
                · skip
                  refine r_incN (k := 0) (n := 1) [(6, nV (i2 + 1)), (5, nV i1), (0, .ref mo0), (1, nV 1), (2, nV yn), (3, nV wn), (4, zV z)] C dX10_code_125 hl rfl rfl (by decide) rfl (fun ls hl => ?_)
                  refine r_goto 76 C dX10_code_128 rfl ?_
                  exact ih_76 (i2 + 1) rC _ _ _ (by first | assumption | omega) (fun x t hx ht => by have hu : rq bi mo i1 yn wn t (i2 + 1) = rq bi mo i1 yn wn t i2 := (by show (_ || (decide (i2 / 4 ≤ yn ∧ i2 % 4 ≤ wn) && _)) = _; rw [decide_eq_false (show ¬ (i2 / 4 ≤ yn ∧ i2 % 4 ≤ wn) by omega), Bool.false_and, Bool.or_false]); rw [hrC x t hx ht, hu]) (by omega) hP hD hS (lv_sub hl [0, 1, 2, 3, 4, 5, 6] rfl)
                refine lv_aload_n C.1 C.2.1 dX10_code_99 rfl (lv_at hl 2 rfl) ?_
                refine r_get C hK hP kw_X10 (ci := 8) rfl 0 16 (by decide) kf_X10_47 rfl rfl dX10_code_100 ?_
                refine r_bipush 72 C dX10_code_103 (by decide) ?_
                refine lv_iload C.1 C.2.1 dX10_code_105 (lv_at hl 1 rfl) ?_
                refine r_mulN C dX10_code_107 ?_
                refine lv_aload_n C.1 C.2.1 dX10_code_108 rfl (lv_at hl 2 rfl) ?_
                refine lv_iload C.1 C.2.1 dX10_code_109 (lv_at hl 1 rfl) ?_
                refine lv_iload C.1 C.2.1 dX10_code_111 (lv_at hl 0 rfl) ?_
                refine r_iconst 4 C dX10_code_113 rfl ?_
                refine r_divN C dX10_code_114 (by omega) (by decide) ?_
                refine lv_iload C.1 C.2.1 dX10_code_115 (lv_at hl 0 rfl) ?_
                refine r_iconst 4 C dX10_code_117 rfl ?_
                refine r_remN C dX10_code_118 (by omega) (by decide) ?_
                refine ro_callV (As := [nV i1, nV (i2 / 4), nV (i2 % 4)]) (rest := [nV (72 * i1), .ref mA16]) C hK (c_X10_become l g mo0 mA1 mA3 mA4 mA5 mA6 mA7 mA8 mA9 mA10 mA11 mA12 mA15 mA16 mA17 mA20 mL mAt kz dn mAb mBe mCl mtd bi mo i1 (i2 / 4) (i2 % 4) (by first | assumption | omega) (by first | assumption | omega) (by first | assumption | omega) (by first | assumption | omega) (by first | assumption | omega) (by first | assumption | omega)) (hP.sub (ws' := [(mo0, .inr (8, [nV mL, .ref mA1, nV mAt, .ref mA3, .ref mA4, .ref mA5, .ref mA6, .ref mA7, .ref mA8, .ref mA9, .ref mA10, .ref mA11, .ref mA12, nV kz, nV dn, .ref mA15, .ref mA16, .ref mA17, mV mAb, mV mBe, .ref mA20, zV mCl])), (mA3, cN g 4 mtd)]) [0, 1] rfl) (ci := 8) (q0 := 0) rfl rfl kc_X10_become kl_X10_127 kn_X10 ki_X10_become ke_X10_become nk_X10_become (rm_lt (by decide) (by decide)) hl rfl (Nat.le_of_ble_eq_true rfl) dX10_code_119 (fun r_22 hr_23 => ?_)
                subst hr_23
                have hf_24 := tn_bd (bi) (mo) (i1) ((i2 / 4)) ((i2 % 4)) (by omega)
                refine r_addN C dX10_code_122 ?_
                refine r_iconst 1 C dX10_code_123 rfl ?_
                refine r_top (v' := bV (true = true)) (congrArg Value.int (bI_1 rfl)) ?_
                refine r_astO (b := true) C hK hP hD hS 2 rfl ⟨by omega, by omega⟩ dX10_code_124 (fun H locs hP hD hS => ?_)
                have hP : va_P g.1 vwCl [(mo0, .inr (8, [nV mL, .ref mA1, nV mAt, .ref mA3, .ref mA4, .ref mA5, .ref mA6, .ref mA7, .ref mA8, .ref mA9, .ref mA10, .ref mA11, .ref mA12, nV kz, nV dn, .ref mA15, .ref mA16, .ref mA17, mV mAb, mV mBe, .ref mA20, zV mCl])), (mA3, cN g 4 mtd), (mA16, cO g 5184 (va_up rC ((72 * i1) + (tn bi mo i1 (i2 / 4) (i2 % 4))) true)), (mA17, cZ g 3 mbe)] H := hP
                have hD : va_D A [(mo0, .inr (8, [nV mL, .ref mA1, nV mAt, .ref mA3, .ref mA4, .ref mA5, .ref mA6, .ref mA7, .ref mA8, .ref mA9, .ref mA10, .ref mA11, .ref mA12, nV kz, nV dn, .ref mA15, .ref mA16, .ref mA17, mV mAb, mV mBe, .ref mA20, zV mCl])), (mA3, cN g 4 mtd), (mA16, cO g 5184 (va_up rC ((72 * i1) + (tn bi mo i1 (i2 / 4) (i2 % 4))) true)), (mA17, cZ g 3 mbe)] := hD
                refine r_incN (k := 0) (n := 1) [(6, nV (i2 + 1)), (5, nV i1), (0, .ref mo0), (1, nV 1), (2, nV yn), (3, nV wn), (4, zV z)] C dX10_code_125 hl rfl rfl (by decide) rfl (fun ls hl => ?_)
                refine r_goto 76 C dX10_code_128 rfl ?_
                exact ih_76 (i2 + 1) (va_up rC ((72 * i1) + (tn bi mo i1 (i2 / 4) (i2 % 4))) true) _ _ _ (by first | assumption | omega) (fun x t hx ht => by have hu : rq bi mo i1 yn wn t (i2 + 1) = (rq bi mo i1 yn wn t i2 || decide (tn bi mo i1 (i2 / 4) (i2 % 4) = t)) := (by show (_ || (decide (i2 / 4 ≤ yn ∧ i2 % 4 ≤ wn) && _)) = _; rw [decide_eq_true (show i2 / 4 ≤ yn ∧ i2 % 4 ≤ wn by omega), Bool.true_and]); by_cases q : 72 * x + t = 72 * i1 + tn bi mo i1 (i2 / 4) (i2 % 4); (rw [q, va_up_s, if_neg (by omega), if_pos (by omega), hu, decide_eq_true (show tn bi mo i1 (i2 / 4) (i2 % 4) = t by omega), Bool.or_true]); (rw [va_up_n q, hrC x t hx ht]; by_cases q3 : x = i1; (rw [if_neg (by omega), if_pos q3, if_neg (by omega), if_pos q3, hu, decide_eq_false (show ¬ tn bi mo i1 (i2 / 4) (i2 % 4) = t by intro q4; apply q; rw [q3, q4]), Bool.or_false]); (rw [if_neg q3, if_neg q3]))) (by omega) hP hD hS (lv_sub hl [0, 1, 2, 3, 4, 5, 6] rfl)
            exact L76 (84 - 0 + 1) 0 rB _ _ _ (by first | assumption | omega) (fun x t hx ht => by rw [hrB x t hx ht]; by_cases q : x < i1; (rw [if_pos q, if_pos q]); (rw [if_neg q, if_neg q]; split <;> rfl)) (Nat.lt_succ_self _) hP hD hS (lv_sub hl [0, 1, 2, 3, 4, 5, 6] rfl)
        exact L66 (72 - 0 + 1) 0 rA _ _ _ (by first | assumption | omega) (fun x t hx ht => by rw [if_neg (by omega)]; exact hrA _ (by omega)) (Nat.lt_succ_self _) hP hD hS (lv_sub hl [0, 1, 2, 3, 4, 5] rfl)
      refine lv_aload_n C.1 C.2.1 dX10_code_49 rfl (lv_at hl 1 rfl) ?_
      refine r_get C hK hP kw_X10 (ci := 8) rfl 0 16 (by decide) kf_X10_47 rfl rfl dX10_code_50 ?_
      refine lv_iload C.1 C.2.1 dX10_code_53 (lv_at hl 0 rfl) ?_
      refine r_iconst 0 C dX10_code_55 rfl ?_
      refine r_top (v' := bV (false = true)) (congrArg Value.int (bI_z (by decide))) ?_
      refine r_astO (b := false) C hK hP hD hS 2 rfl ⟨by omega, by omega⟩ dX10_code_56 (fun H locs hP hD hS => ?_)
      have hP : va_P g.1 vwCl [(mo0, .inr (8, [nV mL, .ref mA1, nV mAt, .ref mA3, .ref mA4, .ref mA5, .ref mA6, .ref mA7, .ref mA8, .ref mA9, .ref mA10, .ref mA11, .ref mA12, nV kz, nV dn, .ref mA15, .ref mA16, .ref mA17, mV mAb, mV mBe, .ref mA20, zV mCl])), (mA3, cN g 4 mtd), (mA16, cO g 5184 (va_up rA i0 false)), (mA17, cZ g 3 mbe)] H := hP
      have hD : va_D A [(mo0, .inr (8, [nV mL, .ref mA1, nV mAt, .ref mA3, .ref mA4, .ref mA5, .ref mA6, .ref mA7, .ref mA8, .ref mA9, .ref mA10, .ref mA11, .ref mA12, nV kz, nV dn, .ref mA15, .ref mA16, .ref mA17, mV mAb, mV mBe, .ref mA20, zV mCl])), (mA3, cN g 4 mtd), (mA16, cO g 5184 (va_up rA i0 false)), (mA17, cZ g 3 mbe)] := hD
      refine r_incN (k := 0) (n := 1) [(5, nV (i0 + 1)), (0, .ref mo0), (1, nV 1), (2, nV yn), (3, nV wn), (4, zV z)] C dX10_code_57 hl rfl rfl (by decide) rfl (fun ls hl => ?_)
      refine r_goto 41 C dX10_code_60 rfl ?_
      exact ih_41 (i0 + 1) (va_up rA i0 false) _ _ _ (by first | assumption | omega) (fun j hj => by by_cases q : j = i0; (rw [q, va_up_s]); (rw [va_up_n q]; exact hrA j (by omega))) (by omega) hP hD hS (lv_sub hl [0, 1, 2, 3, 4, 5] rfl)
  exact L41 (5184 - 0 + 1) 0 mre _ _ _ (by first | assumption | omega) (fun j hj => by omega) (Nat.lt_succ_self _) hP hD hS (lv_sub hl [0, 1, 2, 3, 4, 5] rfl)
set_option maxHeartbeats 4000000 in
set_option maxRecDepth 100000 in
theorem c_X10_code_2 (l : Launch) (g : GG) (mo0 : Nat) (mA1 : Nat) (mA3 : Nat) (mA4 : Nat) (mA5 : Nat) (mA6 : Nat) (mA7 : Nat) (mA8 : Nat) (mA9 : Nat) (mA10 : Nat) (mA11 : Nat) (mA12 : Nat) (mA15 : Nat) (mA16 : Nat) (mA17 : Nat) (mA20 : Nat) (mL : Nat) (mAt : Nat) (kz : Nat) (dn : Nat) (mAb : Nat) (mBe : Nat) (mCl : Int) (mtd : Nat → Nat) (mre : Nat → Bool) (mbe : Nat → Int) (bi : Nat) (mo : Nat) (yn : Nat) (wn : Nat) (z : Int) (hb0 : mtd 0 = bi) (hb1 : mtd 1 = mo) (hbm : (1 ≤ bi ∧ bi ≤ 9) ∧ (1 ≤ mo ∧ mo ≤ 9)) (hy : yn ≤ 20) (hw : wn ≤ 3) (hz : -1 ≤ z ∧ z ≤ 1) : WRi g l yX10_code cX10_code 8 (some .int) 4 [(mo0, .inr (8, [nV mL, .ref mA1, nV mAt, .ref mA3, .ref mA4, .ref mA5, .ref mA6, .ref mA7, .ref mA8, .ref mA9, .ref mA10, .ref mA11, .ref mA12, nV kz, nV dn, .ref mA15, .ref mA16, .ref mA17, mV mAb, mV mBe, .ref mA20, zV mCl])), (mA3, cN g 4 mtd), (mA16, cO g 5184 mre), (mA17, cZ g 3 mbe)] [.ref mo0, nV 2, nV yn, nV wn, zV z] (fun r (uq_ : Int × (Nat → Bool) × (Nat → Int)) => match uq_ with | (cl1, re1, be1) => r = iI (if (mnS (fun y1 t => rc bi mo y1 wn t (yn + 1)) 2).1 < 0 ∨ z < 0 then (mnS (fun y1 t => rc bi mo y1 wn t (yn + 1)) 2).1 else (((mnS (fun y1 t => rc bi mo y1 wn t (yn + 1)) 2).2 z.toNat : Nat) : Int))) (fun (uq_ : Int × (Nat → Bool) × (Nat → Int)) => match uq_ with | (cl1, re1, be1) => [(mo0, .inr (8, [nV mL, .ref mA1, nV mAt, .ref mA3, .ref mA4, .ref mA5, .ref mA6, .ref mA7, .ref mA8, .ref mA9, .ref mA10, .ref mA11, .ref mA12, nV kz, nV dn, .ref mA15, .ref mA16, .ref mA17, mV mAb, mV mBe, .ref mA20, zV cl1])), (mA3, cN g 4 mtd), (mA16, cO g 5184 re1), (mA17, cZ g 3 be1)]) := by
  refine wr_startI (by decide +kernel) (Nat.le_of_ble_eq_true rfl) ?_
  intro p e s m args below meth c Q A ls C hK hA ret hP hD hS hl
  have C : CT p s m args meth c cX10_code RX10 8 := C
  have hl : lv_has ls 8 [(0, .ref mo0), (1, nV 2), (2, nV yn), (3, nV wn), (4, zV z)] := hl
  refine lv_iload_n C.1 C.2.1 dX10_code_0 rfl (lv_at hl 1 rfl) ?_
  refine r_i2l C dX10_code_1 (rgN (by decide)) ?_
  refine r_lconst 1 C dX10_code_2 rfl ?_
  refine r_ldc2N 3 C kv_X10_131 dX10_code_3 rfl ?_
  refine ro_callS (As := [mV 2, mV 1, mV 3]) (rest := []) C hK (c_X10_in l g ((2 : Nat) : Int) ((1 : Nat) : Int) ((3 : Nat) : Int) (by first | assumption | exact ⟨by omega, by omega⟩) (by first | assumption | exact ⟨by omega, by omega⟩) (by first | assumption | exact ⟨by omega, by omega⟩)) (hP.sub (ws' := []) [] rfl) kc_X10_in kl_X10_65 kn_X10 ks_X10_in nk_X10_in (rm_lt (by decide) (by decide)) hl rfl (Nat.le_of_ble_eq_true rfl) dX10_code_6 (fun r_1 hr_2 => ?_)
  subst hr_2
  refine r_beq 36 C dX10_code_9 rfl (fun h_3 => ?_) (fun h_3 => ?_)
  · exact absurd h_3 (by omega)
  refine lv_iload_n C.1 C.2.1 dX10_code_12 rfl (lv_at hl 2 rfl) ?_
  refine lv_iload_n C.1 C.2.1 dX10_code_13 rfl (lv_at hl 3 rfl) ?_
  refine ro_callS (As := [nV yn, nV wn]) (rest := []) C hK (c_X10_isSpan l g ((yn : Nat) : Int) ((wn : Nat) : Int) (by first | assumption | exact ⟨by omega, by omega⟩) (by first | assumption | exact ⟨by omega, by omega⟩)) (hP.sub (ws' := []) [] rfl) kc_X10_isSpan kl_X10_162 kn_X10 ks_X10_isSpan nk_X10_isSpan (rm_lt (by decide) (by decide)) hl rfl (Nat.le_of_ble_eq_true rfl) dX10_code_14 (fun r_4 hr_5 => ?_)
  subst hr_5
  refine r_beq 36 C dX10_code_17 rfl (fun h_6 => ?_) (fun h_6 => ?_)
  · exact absurd h_6 (by omega)
  refine lv_iload C.1 C.2.1 dX10_code_20 (lv_at hl 4 rfl) ?_
  refine r_i2l C dX10_code_22 (⟨by omega, by omega⟩) ?_
  refine r_ldc2 (-1) C kv_X10_173 dX10_code_23 rfl ?_
  refine lv_iload_n C.1 C.2.1 dX10_code_26 rfl (lv_at hl 1 rfl) ?_
  refine r_iconst 1 C dX10_code_27 rfl ?_
  refine r_subZ C dX10_code_28 ?_
  refine r_i2l C dX10_code_29 (⟨by omega, by omega⟩) ?_
  refine ro_callS (As := [jV z, jV (-1), jV (((2 : Nat) : Int) - ((1 : Nat) : Int))]) (rest := []) C hK (c_X10_in l g z (-1) (((2 : Nat) : Int) - ((1 : Nat) : Int)) (by first | assumption | exact ⟨by omega, by omega⟩) (by first | assumption | exact ⟨by omega, by omega⟩) (by first | assumption | exact ⟨by omega, by omega⟩)) (hP.sub (ws' := []) [] rfl) kc_X10_in kl_X10_65 kn_X10 ks_X10_in nk_X10_in (rm_lt (by decide) (by decide)) hl rfl (Nat.le_of_ble_eq_true rfl) dX10_code_30 (fun r_7 hr_8 => ?_)
  subst hr_8
  refine r_bne 38 C dX10_code_33 rfl (fun h_9 => ?_) (fun h_9 => ?_)
  rotate_left
  · exact absurd h_9 (by omega)
  refine r_iconst 0 C dX10_code_38 rfl ?_
  refine lv_istore (lv' := [(5, nV 0), (0, .ref mo0), (1, nV 2), (2, nV yn), (3, nV wn), (4, zV z)]) C.1 C.2.1 dX10_code_39 hl (by decide) rfl (fun ls hl => ?_)
  have L41 : ∀ (n_41 : Nat) (i0 : Nat) (rA : Nat → Bool) (H : Heap) (locs : List Loc) (ls : Array Slot) (hi0 : i0 ≤ 5184) (hrA : ∀ j, j < i0 → rA j = false) (hm : 5184 - i0 < n_41) (hP : va_P g.1 vwCl [(mo0, .inr (8, [nV mL, .ref mA1, nV mAt, .ref mA3, .ref mA4, .ref mA5, .ref mA6, .ref mA7, .ref mA8, .ref mA9, .ref mA10, .ref mA11, .ref mA12, nV kz, nV dn, .ref mA15, .ref mA16, .ref mA17, mV mAb, mV mBe, .ref mA20, zV mCl])), (mA3, cN g 4 mtd), (mA16, cO g 5184 rA), (mA17, cZ g 3 mbe)] H) (hD : va_D A [(mo0, .inr (8, [nV mL, .ref mA1, nV mAt, .ref mA3, .ref mA4, .ref mA5, .ref mA6, .ref mA7, .ref mA8, .ref mA9, .ref mA10, .ref mA11, .ref mA12, nV kz, nV dn, .ref mA15, .ref mA16, .ref mA17, mV mAb, mV mBe, .ref mA20, zV mCl])), (mA3, cN g 4 mtd), (mA16, cO g 5184 rA), (mA17, cZ g 3 mbe)]) (hS : va_S A s.heap H locs) (hl : lv_has ls 8 [(5, nV i0), (0, .ref mo0), (1, nV 2), (2, nV yn), (3, nV wn), (4, zV z)]), W p l e (rD 4) s m args below meth c H locs 0 0 Q (F0 m 41 ls []) := by
    intro n_41
    induction n_41 with
    | zero => intro i0 rA H locs ls hi0 hrA hm hP hD hS hl; exact absurd hm (Nat.not_lt_zero _)
    | succ n_41 ih_41 =>
      intro i0 rA H locs ls hi0 hrA hm hP hD hS hl
      refine lv_iload C.1 C.2.1 dX10_code_41 (lv_at hl 0 rfl) ?_
      refine r_sipush 5184 C dX10_code_43 (by decide) ?_
      refine r_cge 63 C dX10_code_46 rfl ⟨rgN (by omega), rgN (by decide)⟩ (fun h_10 => ?_) (fun h_10 => ?_)
      · skip
        refine r_iconst 0 C dX10_code_63 rfl ?_
        refine lv_istore (lv' := [(5, nV 0), (0, .ref mo0), (1, nV 2), (2, nV yn), (3, nV wn), (4, zV z)]) C.1 C.2.1 dX10_code_64 hl (by decide) rfl (fun ls hl => ?_)
        have L66 : ∀ (n_66 : Nat) (i1 : Nat) (rB : Nat → Bool) (H : Heap) (locs : List Loc) (ls : Array Slot) (hi1 : i1 ≤ 72) (hrB : ∀ x t, x < 72 → t < 72 → rB (72 * x + t) = if x < i1 then (fun y1 t => rc bi mo y1 wn t (yn + 1)) x t else false) (hm : 72 - i1 < n_66) (hP : va_P g.1 vwCl [(mo0, .inr (8, [nV mL, .ref mA1, nV mAt, .ref mA3, .ref mA4, .ref mA5, .ref mA6, .ref mA7, .ref mA8, .ref mA9, .ref mA10, .ref mA11, .ref mA12, nV kz, nV dn, .ref mA15, .ref mA16, .ref mA17, mV mAb, mV mBe, .ref mA20, zV mCl])), (mA3, cN g 4 mtd), (mA16, cO g 5184 rB), (mA17, cZ g 3 mbe)] H) (hD : va_D A [(mo0, .inr (8, [nV mL, .ref mA1, nV mAt, .ref mA3, .ref mA4, .ref mA5, .ref mA6, .ref mA7, .ref mA8, .ref mA9, .ref mA10, .ref mA11, .ref mA12, nV kz, nV dn, .ref mA15, .ref mA16, .ref mA17, mV mAb, mV mBe, .ref mA20, zV mCl])), (mA3, cN g 4 mtd), (mA16, cO g 5184 rB), (mA17, cZ g 3 mbe)]) (hS : va_S A s.heap H locs) (hl : lv_has ls 8 [(5, nV i1), (0, .ref mo0), (1, nV 2), (2, nV yn), (3, nV wn), (4, zV z)]), W p l e (rD 4) s m args below meth c H locs 0 0 Q (F0 m 66 ls []) := by
          intro n_66
          induction n_66 with
          | zero => intro i1 rB H locs ls hi1 hrB hm hP hD hS hl; exact absurd hm (Nat.not_lt_zero _)
          | succ n_66 ih_66 =>
            intro i1 rB H locs ls hi1 hrB hm hP hD hS hl
            refine lv_iload C.1 C.2.1 dX10_code_66 (lv_at hl 0 rfl) ?_
            refine r_bipush 72 C dX10_code_68 (by decide) ?_
            refine r_cge 137 C dX10_code_70 rfl ⟨rgN (by omega), rgN (by decide)⟩ (fun h_11 => ?_) (fun h_11 => ?_)
            · skip
              have hre : ∀ x t, x < 72 → t < 72 → rB (72 * x + t) = (fun y1 t => rc bi mo y1 wn t (yn + 1)) x t := fun x t hx ht => (hrB x t hx ht).trans (if_pos (by omega))
              refine lv_aload_n C.1 C.2.1 dX10_code_137 rfl (lv_at hl 1 rfl) ?_
              refine r_bipushZ C dX10_code_138 (by decide) ?_
              refine r_put (v := zV (-4)) C hK hP hD hS kw_X10 tyX10_ok nmX10 (ci := 8) rfl 0 21 (by decide) kf_X10_170 rfl rfl rfl rfl rfl (Nat.le_of_ble_eq_true rfl) dX10_code_140 (fun H locs hP hD hS => ?_)
              have hP : va_P g.1 vwCl [(mo0, .inr (8, [nV mL, .ref mA1, nV mAt, .ref mA3, .ref mA4, .ref mA5, .ref mA6, .ref mA7, .ref mA8, .ref mA9, .ref mA10, .ref mA11, .ref mA12, nV kz, nV dn, .ref mA15, .ref mA16, .ref mA17, mV mAb, mV mBe, .ref mA20, zV (-4)])), (mA3, cN g 4 mtd), (mA16, cO g 5184 rB), (mA17, cZ g 3 mbe)] H := hP
              have hD : va_D A [(mo0, .inr (8, [nV mL, .ref mA1, nV mAt, .ref mA3, .ref mA4, .ref mA5, .ref mA6, .ref mA7, .ref mA8, .ref mA9, .ref mA10, .ref mA11, .ref mA12, nV kz, nV dn, .ref mA15, .ref mA16, .ref mA17, mV mAb, mV mBe, .ref mA20, zV (-4)])), (mA3, cN g 4 mtd), (mA16, cO g 5184 rB), (mA17, cZ g 3 mbe)] := hD
              refine r_iconst 0 C dX10_code_143 rfl ?_
              refine lv_istore (lv' := [(5, nV 0), (0, .ref mo0), (1, nV 2), (2, nV yn), (3, nV wn), (4, zV z)]) C.1 C.2.1 dX10_code_144 hl (by decide) rfl (fun ls hl => ?_)
              have L146 : ∀ (n_146 : Nat) (i : Nat) (clA : Int) (beA : Nat → Int) (H : Heap) (locs : List Loc) (ls : Array Slot) (hi : i ≤ 72) (hM : MR 2 clA beA (mEn (fun y1 t => rc bi mo y1 wn t (yn + 1)) 1 0 0 0 c0 i ms0)) (hm : 72 - i < n_146) (hP : va_P g.1 vwCl [(mo0, .inr (8, [nV mL, .ref mA1, nV mAt, .ref mA3, .ref mA4, .ref mA5, .ref mA6, .ref mA7, .ref mA8, .ref mA9, .ref mA10, .ref mA11, .ref mA12, nV kz, nV dn, .ref mA15, .ref mA16, .ref mA17, mV mAb, mV mBe, .ref mA20, zV clA])), (mA3, cN g 4 mtd), (mA16, cO g 5184 rB), (mA17, cZ g 3 beA)] H) (hD : va_D A [(mo0, .inr (8, [nV mL, .ref mA1, nV mAt, .ref mA3, .ref mA4, .ref mA5, .ref mA6, .ref mA7, .ref mA8, .ref mA9, .ref mA10, .ref mA11, .ref mA12, nV kz, nV dn, .ref mA15, .ref mA16, .ref mA17, mV mAb, mV mBe, .ref mA20, zV clA])), (mA3, cN g 4 mtd), (mA16, cO g 5184 rB), (mA17, cZ g 3 beA)]) (hS : va_S A s.heap H locs) (hl : lv_has ls 8 [(5, nV i), (0, .ref mo0), (1, nV 2), (2, nV yn), (3, nV wn), (4, zV z)]), W p l e (rD 4) s m args below meth c H locs 0 0 Q (F0 m 146 ls []) := by
                intro n_146
                induction n_146 with
                | zero => intro i clA beA H locs ls hi hM hm hP hD hS hl; exact absurd hm (Nat.not_lt_zero _)
                | succ n_146 ih_146 =>
                  intro i clA beA H locs ls hi hM hm hP hD hS hl
                  refine lv_iload C.1 C.2.1 dX10_code_146 (lv_at hl 0 rfl) ?_
                  refine r_bipush 72 C dX10_code_148 (by decide) ?_
                  refine r_cge 277 C dX10_code_150 rfl ⟨rgN (by omega), rgN (by decide)⟩ (fun h_12 => ?_) (fun h_12 => ?_)
                  · skip
                    rw [show i = 72 by omega] at hM
                    have hM2 : MR 2 clA beA (mnS (fun y1 t => rc bi mo y1 wn t (yn + 1)) 2) := hM
                    obtain ⟨k1, k2, k3⟩ := hM2
                    refine lv_aload_n C.1 C.2.1 dX10_code_277 rfl (lv_at hl 1 rfl) ?_
                    refine r_get C hK hP kw_X10 (ci := 8) rfl 0 21 (by decide) kf_X10_170 rfl rfl dX10_code_278 ?_
                    refine r_ilt 289 C dX10_code_281 rfl (⟨by omega, by omega⟩) (fun g1 => ?_) (fun g1 => ?_)
                    · skip
                      refine lv_aload_n C.1 C.2.1 dX10_code_289 rfl (lv_at hl 1 rfl) ?_
                      refine r_get C hK hP kw_X10 (ci := 8) rfl 0 21 (by decide) kf_X10_170 rfl rfl dX10_code_290 ?_
                      refine r_goto 303 C dX10_code_293 rfl ?_
                      exact ret ((clA, rB, beA)) dX10_code_303 hS hP (by rw [if_pos (by omega), ← k1])
                    refine lv_iload C.1 C.2.1 dX10_code_284 (lv_at hl 5 rfl) ?_
                    refine r_ige 296 C dX10_code_286 rfl (⟨by omega, by omega⟩) (fun g2 => ?_) (fun g2 => ?_)
                    · skip
                      obtain ⟨zn, rfl⟩ : ∃ n : Nat, z = (n : Int) := ⟨z.toNat, by omega⟩
                      have hl : lv_has ls 8 [(5, nV i), (0, .ref mo0), (1, nV 2), (2, nV yn), (3, nV wn), (4, nV zn)] := hl
                      refine lv_aload_n C.1 C.2.1 dX10_code_296 rfl (lv_at hl 1 rfl) ?_
                      refine r_get C hK hP kw_X10 (ci := 8) rfl 0 17 (by decide) kf_X10_51 rfl rfl dX10_code_297 ?_
                      refine lv_iload C.1 C.2.1 dX10_code_300 (lv_at hl 5 rfl) ?_
                      refine r_aldZ C hK hP 3 rfl ⟨by omega, by omega⟩ dX10_code_302 ?_
                      exact ret ((clA, rB, beA)) dX10_code_303 hS hP (by rw [if_neg (by omega)]; exact iI_cast (k2 (by omega) zn (by omega)))
                    refine lv_aload_n C.1 C.2.1 dX10_code_289 rfl (lv_at hl 1 rfl) ?_
                    refine r_get C hK hP kw_X10 (ci := 8) rfl 0 21 (by decide) kf_X10_170 rfl rfl dX10_code_290 ?_
                    refine r_goto 303 C dX10_code_293 rfl ?_
                    exact ret ((clA, rB, beA)) dX10_code_303 hS hP (by rw [if_pos (by omega), ← k1])
                  refine lv_iload_n C.1 C.2.1 dX10_code_153 rfl (lv_at hl 2 rfl) ?_
                  refine r_iconst 1 C dX10_code_154 rfl ?_
                  refine r_cne 166 C dX10_code_155 rfl ⟨rgN (by decide), rgN (by decide)⟩ (fun h_13 => ?_) (fun h_13 => ?_)
                  rotate_left
                  · exact absurd h_13 (by omega)
                  refine lv_iload C.1 C.2.1 dX10_code_166 (lv_at hl 0 rfl) ?_
                  refine r_iconst 1 C dX10_code_168 rfl ?_
                  refine r_addN C dX10_code_169 ?_
                  refine lv_istore (lv' := [(6, nV (i + 1)), (5, nV i), (0, .ref mo0), (1, nV 2), (2, nV yn), (3, nV wn), (4, zV z)]) C.1 C.2.1 dX10_code_170 hl (by decide) rfl (fun ls hl => ?_)
                  have L172 : ∀ (n_172 : Nat) (j : Nat) (clB : Int) (beB : Nat → Int) (H : Heap) (locs : List Loc) (ls : Array Slot) (hj : i + 1 + j ≤ 72) (hN : MR 2 clB beB (mEn (fun y1 t => rc bi mo y1 wn t (yn + 1)) 0 1 (i + 1) (fl i) (upN c0 0 i) j (mEn (fun y1 t => rc bi mo y1 wn t (yn + 1)) 1 0 0 0 c0 i ms0))) (hm : 72 - (i + 1 + j) < n_172) (hP : va_P g.1 vwCl [(mo0, .inr (8, [nV mL, .ref mA1, nV mAt, .ref mA3, .ref mA4, .ref mA5, .ref mA6, .ref mA7, .ref mA8, .ref mA9, .ref mA10, .ref mA11, .ref mA12, nV kz, nV dn, .ref mA15, .ref mA16, .ref mA17, mV mAb, mV mBe, .ref mA20, zV clB])), (mA3, cN g 4 mtd), (mA16, cO g 5184 rB), (mA17, cZ g 3 beB)] H) (hD : va_D A [(mo0, .inr (8, [nV mL, .ref mA1, nV mAt, .ref mA3, .ref mA4, .ref mA5, .ref mA6, .ref mA7, .ref mA8, .ref mA9, .ref mA10, .ref mA11, .ref mA12, nV kz, nV dn, .ref mA15, .ref mA16, .ref mA17, mV mAb, mV mBe, .ref mA20, zV clB])), (mA3, cN g 4 mtd), (mA16, cO g 5184 rB), (mA17, cZ g 3 beB)]) (hS : va_S A s.heap H locs) (hl : lv_has ls 8 [(6, nV (i + 1 + j)), (5, nV i), (0, .ref mo0), (1, nV 2), (2, nV yn), (3, nV wn), (4, zV z)]), W p l e (rD 4) s m args below meth c H locs 0 0 Q (F0 m 172 ls []) := by
                    intro n_172
                    induction n_172 with
                    | zero => intro j clB beB H locs ls hj hN hm hP hD hS hl; exact absurd hm (Nat.not_lt_zero _)
                    | succ n_172 ih_172 =>
                      intro j clB beB H locs ls hj hN hm hP hD hS hl
                      refine lv_iload C.1 C.2.1 dX10_code_172 (lv_at hl 0 rfl) ?_
                      refine r_bipush 72 C dX10_code_174 (by decide) ?_
                      refine r_cge 271 C dX10_code_176 rfl ⟨rgN (by omega), rgN (by decide)⟩ (fun h_14 => ?_) (fun h_14 => ?_)
                      · skip
                        refine r_incN (k := 1) (n := 1) [(5, nV (i + 1)), (6, nV (i + 1 + j)), (0, .ref mo0), (1, nV 2), (2, nV yn), (3, nV wn), (4, zV z)] C dX10_code_271 hl rfl rfl (by decide) rfl (fun ls hl => ?_)
                        refine r_goto 146 C dX10_code_274 rfl ?_
                        exact ih_146 (i + 1) clB beB _ _ _ (by first | assumption | omega) (by rw [mEn_x, show 72 - (i + 1) = j by omega]; exact hN) (by omega) hP hD hS (lv_sub hl [0, 2, 3, 4, 5, 6] rfl)
                      refine lv_iload_n C.1 C.2.1 dX10_code_179 rfl (lv_at hl 3 rfl) ?_
                      refine r_iconst 1 C dX10_code_180 rfl ?_
                      refine r_cle 271 C dX10_code_181 rfl ⟨rgN (by decide), rgN (by decide)⟩ (fun h_15 => ?_) (fun h_15 => ?_)
                      · exact absurd h_15 (by omega)
                      refine lv_aload_n C.1 C.2.1 dX10_code_184 rfl (lv_at hl 2 rfl) ?_
                      refine lv_iload C.1 C.2.1 dX10_code_185 (lv_at hl 1 rfl) ?_
                      refine lv_iload C.1 C.2.1 dX10_code_187 (lv_at hl 0 rfl) ?_
                      refine ro_callV (As := [nV i, nV (i + 1 + j)]) (rest := []) C hK (c_X10_isApart l g mo0 mA1 mA3 mA4 mA5 mA6 mA7 mA8 mA9 mA10 mA11 mA12 mA15 mA16 mA17 mA20 mL mAt kz dn mAb mBe clB rB (fun y1 t => rc bi mo y1 wn t (yn + 1)) i (i + 1 + j) (hre) (by first | assumption | omega) (by first | assumption | omega)) (hP.sub (ws' := [(mo0, .inr (8, [nV mL, .ref mA1, nV mAt, .ref mA3, .ref mA4, .ref mA5, .ref mA6, .ref mA7, .ref mA8, .ref mA9, .ref mA10, .ref mA11, .ref mA12, nV kz, nV dn, .ref mA15, .ref mA16, .ref mA17, mV mAb, mV mBe, .ref mA20, zV clB])), (mA16, cO g 5184 rB)]) [0, 2] rfl) (ci := 8) (q0 := 0) rfl rfl kc_X10_isApart kl_X10_179 kn_X10 ki_X10_isApart ke_X10_isApart nk_X10_isApart (rm_lt (by decide) (by decide)) hl rfl (Nat.le_of_ble_eq_true rfl) dX10_code_189 (fun r_16 hr_17 => ?_)
                      subst hr_17
                      refine r_beq 265 C dX10_code_192 rfl (fun ga => ?_) (fun ga => ?_)
                      · skip
                        refine r_incN (k := 0) (n := 1) [(6, nV (i + 1 + j + 1)), (5, nV i), (0, .ref mo0), (1, nV 2), (2, nV yn), (3, nV wn), (4, zV z)] C dX10_code_265 hl rfl rfl (by decide) rfl (fun ls hl => ?_)
                        refine r_goto 172 C dX10_code_268 rfl ?_
                        exact ih_172 (j + 1) clB beB _ _ _ (by first | assumption | omega) (by rw [mEn_no (fun q => ga (ap_1.mp q))]; exact hN) (by omega) hP hD hS (lv_sub hl [0, 1, 2, 3, 4, 5, 6] rfl)
                      refine lv_iload_n C.1 C.2.1 dX10_code_195 rfl (lv_at hl 3 rfl) ?_
                      refine r_iconst 2 C dX10_code_196 rfl ?_
                      refine r_cne 209 C dX10_code_197 rfl ⟨rgN (by decide), rgN (by decide)⟩ (fun h_18 => ?_) (fun h_18 => ?_)
                      · exact absurd h_18 (by omega)
                      refine lv_aload_n C.1 C.2.1 dX10_code_200 rfl (lv_at hl 2 rfl) ?_
                      refine lv_iload C.1 C.2.1 dX10_code_201 (lv_at hl 1 rfl) ?_
                      refine lv_iload C.1 C.2.1 dX10_code_203 (lv_at hl 0 rfl) ?_
                      refine r_iconstZ C dX10_code_205 ?_
                      refine wr_callVV (As := [nV i, nV (i + 1 + j), zV (-1)]) (rest := []) C hK (c_X10_codes l g mo0 mA1 mA3 mA4 mA5 mA6 mA7 mA8 mA9 mA10 mA11 mA12 mA15 mA16 mA17 mA20 mL mAt kz dn mAb mBe clB beB i ((i + 1 + j : Nat) : Int) (-1) (by first | assumption | omega) (by first | assumption | omega) (by first | assumption | omega) (hN.2.2)) [0, 3] rfl (fun _ => rfl) (by decide) hP hD hS hA (ci := 8) (q0 := 0) rfl rfl kc_X10_codes kl_X10_175 kn_X10 ki_X10_codes ke_X10_codes nk_X10_codes (rm_lt (by decide) (by decide)) hl rfl (Nat.le_of_ble_eq_true rfl) dX10_code_206 (fun u_21 H locs hr_20 hP hD hS => ?_)
                      have hP : va_P g.1 vwCl [(mo0, .inr (8, [nV mL, .ref mA1, nV mAt, .ref mA3, .ref mA4, .ref mA5, .ref mA6, .ref mA7, .ref mA8, .ref mA9, .ref mA10, .ref mA11, .ref mA12, nV kz, nV dn, .ref mA15, .ref mA16, .ref mA17, mV mAb, mV mBe, .ref mA20, zV ((cst (clB, beB) i ((i + 1 + j : Nat) : Int) (-1)).1)])), (mA3, cN g 4 mtd), (mA16, cO g 5184 rB), (mA17, cZ g 3 ((cst (clB, beB) i ((i + 1 + j : Nat) : Int) (-1)).2))] H := hP
                      have hD : va_D A [(mo0, .inr (8, [nV mL, .ref mA1, nV mAt, .ref mA3, .ref mA4, .ref mA5, .ref mA6, .ref mA7, .ref mA8, .ref mA9, .ref mA10, .ref mA11, .ref mA12, nV kz, nV dn, .ref mA15, .ref mA16, .ref mA17, mV mAb, mV mBe, .ref mA20, zV ((cst (clB, beB) i ((i + 1 + j : Nat) : Int) (-1)).1)])), (mA3, cN g 4 mtd), (mA16, cO g 5184 rB), (mA17, cZ g 3 ((cst (clB, beB) i ((i + 1 + j : Nat) : Int) (-1)).2))] := hD
                      refine lv_iload C.1 C.2.1 dX10_code_209 (lv_at hl 0 rfl) ?_
                      refine r_iconst 1 C dX10_code_211 rfl ?_
                      refine r_addN C dX10_code_212 ?_
                      refine lv_istore (lv' := [(7, nV ((i + 1 + j) + 1)), (6, nV (i + 1 + j)), (5, nV i), (0, .ref mo0), (1, nV 2), (2, nV yn), (3, nV wn), (4, zV z)]) C.1 C.2.1 dX10_code_213 hl (by decide) rfl (fun ls hl => ?_)
                      refine lv_iload C.1 C.2.1 dX10_code_215 (lv_at hl 0 rfl) ?_
                      refine r_bipush 72 C dX10_code_217 (by decide) ?_
                      refine r_cge 265 C dX10_code_219 rfl ⟨rgN (by omega), rgN (by decide)⟩ (fun h_22 => ?_) (fun h_22 => ?_)
                      · skip
                        refine r_incN (k := 1) (n := 1) [(6, nV (i + 1 + j + 1)), (7, nV ((i + 1 + j) + 1)), (5, nV i), (0, .ref mo0), (1, nV 2), (2, nV yn), (3, nV wn), (4, zV z)] C dX10_code_265 hl rfl rfl (by decide) rfl (fun ls hl => ?_)
                        refine r_goto 172 C dX10_code_268 rfl ?_
                        exact ih_172 (j + 1) ((cst (clB, beB) i ((i + 1 + j : Nat) : Int) (-1)).1) ((cst (clB, beB) i ((i + 1 + j : Nat) : Int) (-1)).2) _ _ _ (by first | assumption | omega) (by rw [mEn_go (ap_1.mpr ga)]; exact MR_c hN csm_2 (by have h1 := fl_bd i (by omega); have h2 := fl_bd (i + 1 + j) (by omega); omega) bc_2) (by omega) hP hD hS (lv_sub hl [0, 2, 3, 4, 5, 6, 7] rfl)
                      refine lv_iload_n C.1 C.2.1 dX10_code_222 rfl (lv_at hl 4 rfl) ?_
                      refine r_iconst 2 C dX10_code_223 rfl ?_
                      refine r_cle 265 C dX10_code_224 rfl ⟨rgN (by decide), rgN (by decide)⟩ (fun h_23 => ?_) (fun h_23 => ?_)
                      rotate_left
                      · exact absurd h_23 (by omega)
                      refine r_incN (k := 1) (n := 1) [(6, nV (i + 1 + j + 1)), (7, nV ((i + 1 + j) + 1)), (5, nV i), (0, .ref mo0), (1, nV 2), (2, nV yn), (3, nV wn), (4, zV z)] C dX10_code_265 hl rfl rfl (by decide) rfl (fun ls hl => ?_)
                      refine r_goto 172 C dX10_code_268 rfl ?_
                      exact ih_172 (j + 1) ((cst (clB, beB) i ((i + 1 + j : Nat) : Int) (-1)).1) ((cst (clB, beB) i ((i + 1 + j : Nat) : Int) (-1)).2) _ _ _ (by first | assumption | omega) (by rw [mEn_go (ap_1.mpr ga)]; exact MR_c hN csm_2 (by have h1 := fl_bd i (by omega); have h2 := fl_bd (i + 1 + j) (by omega); omega) bc_2) (by omega) hP hD hS (lv_sub hl [0, 2, 3, 4, 5, 6, 7] rfl)
                  exact L172 (72 - (i + 1 + 0) + 1) 0 clA beA _ _ _ (by first | assumption | omega) (hM) (Nat.lt_succ_self _) hP hD hS (lv_sub hl [0, 1, 2, 3, 4, 5, 6] rfl)
              exact L146 (72 - 0 + 1) 0 (-4) mbe _ _ _ (by first | assumption | omega) (⟨rfl, fun q => absurd q (by decide), by decide, by decide⟩) (Nat.lt_succ_self _) hP hD hS (lv_sub hl [0, 1, 2, 3, 4, 5] rfl)
            refine r_iconst 0 C dX10_code_73 rfl ?_
            refine lv_istore (lv' := [(6, nV 0), (5, nV i1), (0, .ref mo0), (1, nV 2), (2, nV yn), (3, nV wn), (4, zV z)]) C.1 C.2.1 dX10_code_74 hl (by decide) rfl (fun ls hl => ?_)
            have L76 : ∀ (n_76 : Nat) (i2 : Nat) (rC : Nat → Bool) (H : Heap) (locs : List Loc) (ls : Array Slot) (hi2 : i2 ≤ 84) (hrC : ∀ x t, x < 72 → t < 72 → rC (72 * x + t) = if x < i1 then (fun y1 t => rc bi mo y1 wn t (yn + 1)) x t else if x = i1 then rq bi mo i1 yn wn t i2 else false) (hm : 84 - i2 < n_76) (hP : va_P g.1 vwCl [(mo0, .inr (8, [nV mL, .ref mA1, nV mAt, .ref mA3, .ref mA4, .ref mA5, .ref mA6, .ref mA7, .ref mA8, .ref mA9, .ref mA10, .ref mA11, .ref mA12, nV kz, nV dn, .ref mA15, .ref mA16, .ref mA17, mV mAb, mV mBe, .ref mA20, zV mCl])), (mA3, cN g 4 mtd), (mA16, cO g 5184 rC), (mA17, cZ g 3 mbe)] H) (hD : va_D A [(mo0, .inr (8, [nV mL, .ref mA1, nV mAt, .ref mA3, .ref mA4, .ref mA5, .ref mA6, .ref mA7, .ref mA8, .ref mA9, .ref mA10, .ref mA11, .ref mA12, nV kz, nV dn, .ref mA15, .ref mA16, .ref mA17, mV mAb, mV mBe, .ref mA20, zV mCl])), (mA3, cN g 4 mtd), (mA16, cO g 5184 rC), (mA17, cZ g 3 mbe)]) (hS : va_S A s.heap H locs) (hl : lv_has ls 8 [(6, nV i2), (5, nV i1), (0, .ref mo0), (1, nV 2), (2, nV yn), (3, nV wn), (4, zV z)]), W p l e (rD 4) s m args below meth c H locs 0 0 Q (F0 m 76 ls []) := by
              intro n_76
              induction n_76 with
              | zero => intro i2 rC H locs ls hi2 hrC hm hP hD hS hl; exact absurd hm (Nat.not_lt_zero _)
              | succ n_76 ih_76 =>
                intro i2 rC H locs ls hi2 hrC hm hP hD hS hl
                refine lv_iload C.1 C.2.1 dX10_code_76 (lv_at hl 0 rfl) ?_
                refine r_bipush 84 C dX10_code_78 (by decide) ?_
                refine r_cge 131 C dX10_code_80 rfl ⟨rgN (by omega), rgN (by decide)⟩ (fun h_24 => ?_) (fun h_24 => ?_)
                · skip
                  refine r_incN (k := 1) (n := 1) [(5, nV (i1 + 1)), (6, nV i2), (0, .ref mo0), (1, nV 2), (2, nV yn), (3, nV wn), (4, zV z)] C dX10_code_131 hl rfl rfl (by decide) rfl (fun ls hl => ?_)
                  refine r_goto 66 C dX10_code_134 rfl ?_
                  exact ih_66 (i1 + 1) rC _ _ _ (by first | assumption | omega) (fun x t hx ht => by rw [hrC x t hx ht]; by_cases q : x < i1; (rw [if_pos q, if_pos (by omega)]); (rw [if_neg q]; by_cases q2 : x = i1; (rw [if_pos q2, if_pos (by omega), show i2 = 84 by omega, rq_rc (by omega) (by omega), q2]); (rw [if_neg q2, if_neg (by omega)]))) (by omega) hP hD hS (lv_sub hl [0, 2, 3, 4, 5, 6] rfl)
                refine lv_iload C.1 C.2.1 dX10_code_83 (lv_at hl 0 rfl) ?_
                refine r_iconst 4 C dX10_code_85 rfl ?_
                refine r_divN C dX10_code_86 (by omega) (by decide) ?_
                refine lv_iload_n C.1 C.2.1 dX10_code_87 rfl (lv_at hl 4 rfl) ?_
                refine r_cgt 125 C dX10_code_88 rfl ⟨rgN (by omega), rgN (by omega)⟩ (fun h_25 => ?_) (fun h_25 => ?_)
                · skip
                  refine r_incN (k := 0) (n := 1) [(6, nV (i2 + 1)), (5, nV i1), (0, .ref mo0), (1, nV 2), (2, nV yn), (3, nV wn), (4, zV z)] C dX10_code_125 hl rfl rfl (by decide) rfl (fun ls hl => ?_)
                  refine r_goto 76 C dX10_code_128 rfl ?_
                  exact ih_76 (i2 + 1) rC _ _ _ (by first | assumption | omega) (fun x t hx ht => by have hu : rq bi mo i1 yn wn t (i2 + 1) = rq bi mo i1 yn wn t i2 := (by show (_ || (decide (i2 / 4 ≤ yn ∧ i2 % 4 ≤ wn) && _)) = _; rw [decide_eq_false (show ¬ (i2 / 4 ≤ yn ∧ i2 % 4 ≤ wn) by omega), Bool.false_and, Bool.or_false]); rw [hrC x t hx ht, hu]) (by omega) hP hD hS (lv_sub hl [0, 1, 2, 3, 4, 5, 6] rfl)
                refine lv_iload C.1 C.2.1 dX10_code_91 (lv_at hl 0 rfl) ?_
                refine r_iconst 4 C dX10_code_93 rfl ?_
                refine r_remN C dX10_code_94 (by omega) (by decide) ?_
                refine lv_iload_n C.1 C.2.1 dX10_code_95 rfl (lv_at hl 5 rfl) ?_
                refine r_cgt 125 C dX10_code_96 rfl ⟨rgN (by omega), rgN (by omega)⟩ (fun h_26 => ?_) (fun h_26 => ?_)
                · skip
                  refine r_incN (k := 0) (n := 1) [(6, nV (i2 + 1)), (5, nV i1), (0, .ref mo0), (1, nV 2), (2, nV yn), (3, nV wn), (4, zV z)] C dX10_code_125 hl rfl rfl (by decide) rfl (fun ls hl => ?_)
                  refine r_goto 76 C dX10_code_128 rfl ?_
                  exact ih_76 (i2 + 1) rC _ _ _ (by first | assumption | omega) (fun x t hx ht => by have hu : rq bi mo i1 yn wn t (i2 + 1) = rq bi mo i1 yn wn t i2 := (by show (_ || (decide (i2 / 4 ≤ yn ∧ i2 % 4 ≤ wn) && _)) = _; rw [decide_eq_false (show ¬ (i2 / 4 ≤ yn ∧ i2 % 4 ≤ wn) by omega), Bool.false_and, Bool.or_false]); rw [hrC x t hx ht, hu]) (by omega) hP hD hS (lv_sub hl [0, 1, 2, 3, 4, 5, 6] rfl)
                refine lv_aload_n C.1 C.2.1 dX10_code_99 rfl (lv_at hl 2 rfl) ?_
                refine r_get C hK hP kw_X10 (ci := 8) rfl 0 16 (by decide) kf_X10_47 rfl rfl dX10_code_100 ?_
                refine r_bipush 72 C dX10_code_103 (by decide) ?_
                refine lv_iload C.1 C.2.1 dX10_code_105 (lv_at hl 1 rfl) ?_
                refine r_mulN C dX10_code_107 ?_
                refine lv_aload_n C.1 C.2.1 dX10_code_108 rfl (lv_at hl 2 rfl) ?_
                refine lv_iload C.1 C.2.1 dX10_code_109 (lv_at hl 1 rfl) ?_
                refine lv_iload C.1 C.2.1 dX10_code_111 (lv_at hl 0 rfl) ?_
                refine r_iconst 4 C dX10_code_113 rfl ?_
                refine r_divN C dX10_code_114 (by omega) (by decide) ?_
                refine lv_iload C.1 C.2.1 dX10_code_115 (lv_at hl 0 rfl) ?_
                refine r_iconst 4 C dX10_code_117 rfl ?_
                refine r_remN C dX10_code_118 (by omega) (by decide) ?_
                refine ro_callV (As := [nV i1, nV (i2 / 4), nV (i2 % 4)]) (rest := [nV (72 * i1), .ref mA16]) C hK (c_X10_become l g mo0 mA1 mA3 mA4 mA5 mA6 mA7 mA8 mA9 mA10 mA11 mA12 mA15 mA16 mA17 mA20 mL mAt kz dn mAb mBe mCl mtd bi mo i1 (i2 / 4) (i2 % 4) (by first | assumption | omega) (by first | assumption | omega) (by first | assumption | omega) (by first | assumption | omega) (by first | assumption | omega) (by first | assumption | omega)) (hP.sub (ws' := [(mo0, .inr (8, [nV mL, .ref mA1, nV mAt, .ref mA3, .ref mA4, .ref mA5, .ref mA6, .ref mA7, .ref mA8, .ref mA9, .ref mA10, .ref mA11, .ref mA12, nV kz, nV dn, .ref mA15, .ref mA16, .ref mA17, mV mAb, mV mBe, .ref mA20, zV mCl])), (mA3, cN g 4 mtd)]) [0, 1] rfl) (ci := 8) (q0 := 0) rfl rfl kc_X10_become kl_X10_127 kn_X10 ki_X10_become ke_X10_become nk_X10_become (rm_lt (by decide) (by decide)) hl rfl (Nat.le_of_ble_eq_true rfl) dX10_code_119 (fun r_27 hr_28 => ?_)
                subst hr_28
                have hf_29 := tn_bd (bi) (mo) (i1) ((i2 / 4)) ((i2 % 4)) (by omega)
                refine r_addN C dX10_code_122 ?_
                refine r_iconst 1 C dX10_code_123 rfl ?_
                refine r_top (v' := bV (true = true)) (congrArg Value.int (bI_1 rfl)) ?_
                refine r_astO (b := true) C hK hP hD hS 2 rfl ⟨by omega, by omega⟩ dX10_code_124 (fun H locs hP hD hS => ?_)
                have hP : va_P g.1 vwCl [(mo0, .inr (8, [nV mL, .ref mA1, nV mAt, .ref mA3, .ref mA4, .ref mA5, .ref mA6, .ref mA7, .ref mA8, .ref mA9, .ref mA10, .ref mA11, .ref mA12, nV kz, nV dn, .ref mA15, .ref mA16, .ref mA17, mV mAb, mV mBe, .ref mA20, zV mCl])), (mA3, cN g 4 mtd), (mA16, cO g 5184 (va_up rC ((72 * i1) + (tn bi mo i1 (i2 / 4) (i2 % 4))) true)), (mA17, cZ g 3 mbe)] H := hP
                have hD : va_D A [(mo0, .inr (8, [nV mL, .ref mA1, nV mAt, .ref mA3, .ref mA4, .ref mA5, .ref mA6, .ref mA7, .ref mA8, .ref mA9, .ref mA10, .ref mA11, .ref mA12, nV kz, nV dn, .ref mA15, .ref mA16, .ref mA17, mV mAb, mV mBe, .ref mA20, zV mCl])), (mA3, cN g 4 mtd), (mA16, cO g 5184 (va_up rC ((72 * i1) + (tn bi mo i1 (i2 / 4) (i2 % 4))) true)), (mA17, cZ g 3 mbe)] := hD
                refine r_incN (k := 0) (n := 1) [(6, nV (i2 + 1)), (5, nV i1), (0, .ref mo0), (1, nV 2), (2, nV yn), (3, nV wn), (4, zV z)] C dX10_code_125 hl rfl rfl (by decide) rfl (fun ls hl => ?_)
                refine r_goto 76 C dX10_code_128 rfl ?_
                exact ih_76 (i2 + 1) (va_up rC ((72 * i1) + (tn bi mo i1 (i2 / 4) (i2 % 4))) true) _ _ _ (by first | assumption | omega) (fun x t hx ht => by have hu : rq bi mo i1 yn wn t (i2 + 1) = (rq bi mo i1 yn wn t i2 || decide (tn bi mo i1 (i2 / 4) (i2 % 4) = t)) := (by show (_ || (decide (i2 / 4 ≤ yn ∧ i2 % 4 ≤ wn) && _)) = _; rw [decide_eq_true (show i2 / 4 ≤ yn ∧ i2 % 4 ≤ wn by omega), Bool.true_and]); by_cases q : 72 * x + t = 72 * i1 + tn bi mo i1 (i2 / 4) (i2 % 4); (rw [q, va_up_s, if_neg (by omega), if_pos (by omega), hu, decide_eq_true (show tn bi mo i1 (i2 / 4) (i2 % 4) = t by omega), Bool.or_true]); (rw [va_up_n q, hrC x t hx ht]; by_cases q3 : x = i1; (rw [if_neg (by omega), if_pos q3, if_neg (by omega), if_pos q3, hu, decide_eq_false (show ¬ tn bi mo i1 (i2 / 4) (i2 % 4) = t by intro q4; apply q; rw [q3, q4]), Bool.or_false]); (rw [if_neg q3, if_neg q3]))) (by omega) hP hD hS (lv_sub hl [0, 1, 2, 3, 4, 5, 6] rfl)
            exact L76 (84 - 0 + 1) 0 rB _ _ _ (by first | assumption | omega) (fun x t hx ht => by rw [hrB x t hx ht]; by_cases q : x < i1; (rw [if_pos q, if_pos q]); (rw [if_neg q, if_neg q]; split <;> rfl)) (Nat.lt_succ_self _) hP hD hS (lv_sub hl [0, 1, 2, 3, 4, 5, 6] rfl)
        exact L66 (72 - 0 + 1) 0 rA _ _ _ (by first | assumption | omega) (fun x t hx ht => by rw [if_neg (by omega)]; exact hrA _ (by omega)) (Nat.lt_succ_self _) hP hD hS (lv_sub hl [0, 1, 2, 3, 4, 5] rfl)
      refine lv_aload_n C.1 C.2.1 dX10_code_49 rfl (lv_at hl 1 rfl) ?_
      refine r_get C hK hP kw_X10 (ci := 8) rfl 0 16 (by decide) kf_X10_47 rfl rfl dX10_code_50 ?_
      refine lv_iload C.1 C.2.1 dX10_code_53 (lv_at hl 0 rfl) ?_
      refine r_iconst 0 C dX10_code_55 rfl ?_
      refine r_top (v' := bV (false = true)) (congrArg Value.int (bI_z (by decide))) ?_
      refine r_astO (b := false) C hK hP hD hS 2 rfl ⟨by omega, by omega⟩ dX10_code_56 (fun H locs hP hD hS => ?_)
      have hP : va_P g.1 vwCl [(mo0, .inr (8, [nV mL, .ref mA1, nV mAt, .ref mA3, .ref mA4, .ref mA5, .ref mA6, .ref mA7, .ref mA8, .ref mA9, .ref mA10, .ref mA11, .ref mA12, nV kz, nV dn, .ref mA15, .ref mA16, .ref mA17, mV mAb, mV mBe, .ref mA20, zV mCl])), (mA3, cN g 4 mtd), (mA16, cO g 5184 (va_up rA i0 false)), (mA17, cZ g 3 mbe)] H := hP
      have hD : va_D A [(mo0, .inr (8, [nV mL, .ref mA1, nV mAt, .ref mA3, .ref mA4, .ref mA5, .ref mA6, .ref mA7, .ref mA8, .ref mA9, .ref mA10, .ref mA11, .ref mA12, nV kz, nV dn, .ref mA15, .ref mA16, .ref mA17, mV mAb, mV mBe, .ref mA20, zV mCl])), (mA3, cN g 4 mtd), (mA16, cO g 5184 (va_up rA i0 false)), (mA17, cZ g 3 mbe)] := hD
      refine r_incN (k := 0) (n := 1) [(5, nV (i0 + 1)), (0, .ref mo0), (1, nV 2), (2, nV yn), (3, nV wn), (4, zV z)] C dX10_code_57 hl rfl rfl (by decide) rfl (fun ls hl => ?_)
      refine r_goto 41 C dX10_code_60 rfl ?_
      exact ih_41 (i0 + 1) (va_up rA i0 false) _ _ _ (by first | assumption | omega) (fun j hj => by by_cases q : j = i0; (rw [q, va_up_s]); (rw [va_up_n q]; exact hrA j (by omega))) (by omega) hP hD hS (lv_sub hl [0, 1, 2, 3, 4, 5] rfl)
  exact L41 (5184 - 0 + 1) 0 mre _ _ _ (by first | assumption | omega) (fun j hj => by omega) (Nat.lt_succ_self _) hP hD hS (lv_sub hl [0, 1, 2, 3, 4, 5] rfl)
set_option maxHeartbeats 4000000 in
set_option maxRecDepth 100000 in
theorem c_X10_code_3 (l : Launch) (g : GG) (mo0 : Nat) (mA1 : Nat) (mA3 : Nat) (mA4 : Nat) (mA5 : Nat) (mA6 : Nat) (mA7 : Nat) (mA8 : Nat) (mA9 : Nat) (mA10 : Nat) (mA11 : Nat) (mA12 : Nat) (mA15 : Nat) (mA16 : Nat) (mA17 : Nat) (mA20 : Nat) (mL : Nat) (mAt : Nat) (kz : Nat) (dn : Nat) (mAb : Nat) (mBe : Nat) (mCl : Int) (mtd : Nat → Nat) (mre : Nat → Bool) (mbe : Nat → Int) (bi : Nat) (mo : Nat) (yn : Nat) (wn : Nat) (z : Int) (hb0 : mtd 0 = bi) (hb1 : mtd 1 = mo) (hbm : (1 ≤ bi ∧ bi ≤ 9) ∧ (1 ≤ mo ∧ mo ≤ 9)) (hy : yn ≤ 20) (hw : wn ≤ 3) (hz : -1 ≤ z ∧ z ≤ 2) : WRi g l yX10_code cX10_code 8 (some .int) 4 [(mo0, .inr (8, [nV mL, .ref mA1, nV mAt, .ref mA3, .ref mA4, .ref mA5, .ref mA6, .ref mA7, .ref mA8, .ref mA9, .ref mA10, .ref mA11, .ref mA12, nV kz, nV dn, .ref mA15, .ref mA16, .ref mA17, mV mAb, mV mBe, .ref mA20, zV mCl])), (mA3, cN g 4 mtd), (mA16, cO g 5184 mre), (mA17, cZ g 3 mbe)] [.ref mo0, nV 3, nV yn, nV wn, zV z] (fun r (uq_ : Int × (Nat → Bool) × (Nat → Int)) => match uq_ with | (cl1, re1, be1) => r = iI (if (mnS (fun y1 t => rc bi mo y1 wn t (yn + 1)) 3).1 < 0 ∨ z < 0 then (mnS (fun y1 t => rc bi mo y1 wn t (yn + 1)) 3).1 else (((mnS (fun y1 t => rc bi mo y1 wn t (yn + 1)) 3).2 z.toNat : Nat) : Int))) (fun (uq_ : Int × (Nat → Bool) × (Nat → Int)) => match uq_ with | (cl1, re1, be1) => [(mo0, .inr (8, [nV mL, .ref mA1, nV mAt, .ref mA3, .ref mA4, .ref mA5, .ref mA6, .ref mA7, .ref mA8, .ref mA9, .ref mA10, .ref mA11, .ref mA12, nV kz, nV dn, .ref mA15, .ref mA16, .ref mA17, mV mAb, mV mBe, .ref mA20, zV cl1])), (mA3, cN g 4 mtd), (mA16, cO g 5184 re1), (mA17, cZ g 3 be1)]) := by
  refine wr_startI (by decide +kernel) (Nat.le_of_ble_eq_true rfl) ?_
  intro p e s m args below meth c Q A ls C hK hA ret hP hD hS hl
  have C : CT p s m args meth c cX10_code RX10 8 := C
  have hl : lv_has ls 8 [(0, .ref mo0), (1, nV 3), (2, nV yn), (3, nV wn), (4, zV z)] := hl
  refine lv_iload_n C.1 C.2.1 dX10_code_0 rfl (lv_at hl 1 rfl) ?_
  refine r_i2l C dX10_code_1 (rgN (by decide)) ?_
  refine r_lconst 1 C dX10_code_2 rfl ?_
  refine r_ldc2N 3 C kv_X10_131 dX10_code_3 rfl ?_
  refine ro_callS (As := [mV 3, mV 1, mV 3]) (rest := []) C hK (c_X10_in l g ((3 : Nat) : Int) ((1 : Nat) : Int) ((3 : Nat) : Int) (by first | assumption | exact ⟨by omega, by omega⟩) (by first | assumption | exact ⟨by omega, by omega⟩) (by first | assumption | exact ⟨by omega, by omega⟩)) (hP.sub (ws' := []) [] rfl) kc_X10_in kl_X10_65 kn_X10 ks_X10_in nk_X10_in (rm_lt (by decide) (by decide)) hl rfl (Nat.le_of_ble_eq_true rfl) dX10_code_6 (fun r_1 hr_2 => ?_)
  subst hr_2
  refine r_beq 36 C dX10_code_9 rfl (fun h_3 => ?_) (fun h_3 => ?_)
  · exact absurd h_3 (by omega)
  refine lv_iload_n C.1 C.2.1 dX10_code_12 rfl (lv_at hl 2 rfl) ?_
  refine lv_iload_n C.1 C.2.1 dX10_code_13 rfl (lv_at hl 3 rfl) ?_
  refine ro_callS (As := [nV yn, nV wn]) (rest := []) C hK (c_X10_isSpan l g ((yn : Nat) : Int) ((wn : Nat) : Int) (by first | assumption | exact ⟨by omega, by omega⟩) (by first | assumption | exact ⟨by omega, by omega⟩)) (hP.sub (ws' := []) [] rfl) kc_X10_isSpan kl_X10_162 kn_X10 ks_X10_isSpan nk_X10_isSpan (rm_lt (by decide) (by decide)) hl rfl (Nat.le_of_ble_eq_true rfl) dX10_code_14 (fun r_4 hr_5 => ?_)
  subst hr_5
  refine r_beq 36 C dX10_code_17 rfl (fun h_6 => ?_) (fun h_6 => ?_)
  · exact absurd h_6 (by omega)
  refine lv_iload C.1 C.2.1 dX10_code_20 (lv_at hl 4 rfl) ?_
  refine r_i2l C dX10_code_22 (⟨by omega, by omega⟩) ?_
  refine r_ldc2 (-1) C kv_X10_173 dX10_code_23 rfl ?_
  refine lv_iload_n C.1 C.2.1 dX10_code_26 rfl (lv_at hl 1 rfl) ?_
  refine r_iconst 1 C dX10_code_27 rfl ?_
  refine r_subZ C dX10_code_28 ?_
  refine r_i2l C dX10_code_29 (⟨by omega, by omega⟩) ?_
  refine ro_callS (As := [jV z, jV (-1), jV (((3 : Nat) : Int) - ((1 : Nat) : Int))]) (rest := []) C hK (c_X10_in l g z (-1) (((3 : Nat) : Int) - ((1 : Nat) : Int)) (by first | assumption | exact ⟨by omega, by omega⟩) (by first | assumption | exact ⟨by omega, by omega⟩) (by first | assumption | exact ⟨by omega, by omega⟩)) (hP.sub (ws' := []) [] rfl) kc_X10_in kl_X10_65 kn_X10 ks_X10_in nk_X10_in (rm_lt (by decide) (by decide)) hl rfl (Nat.le_of_ble_eq_true rfl) dX10_code_30 (fun r_7 hr_8 => ?_)
  subst hr_8
  refine r_bne 38 C dX10_code_33 rfl (fun h_9 => ?_) (fun h_9 => ?_)
  rotate_left
  · exact absurd h_9 (by omega)
  refine r_iconst 0 C dX10_code_38 rfl ?_
  refine lv_istore (lv' := [(5, nV 0), (0, .ref mo0), (1, nV 3), (2, nV yn), (3, nV wn), (4, zV z)]) C.1 C.2.1 dX10_code_39 hl (by decide) rfl (fun ls hl => ?_)
  have L41 : ∀ (n_41 : Nat) (i0 : Nat) (rA : Nat → Bool) (H : Heap) (locs : List Loc) (ls : Array Slot) (hi0 : i0 ≤ 5184) (hrA : ∀ j, j < i0 → rA j = false) (hm : 5184 - i0 < n_41) (hP : va_P g.1 vwCl [(mo0, .inr (8, [nV mL, .ref mA1, nV mAt, .ref mA3, .ref mA4, .ref mA5, .ref mA6, .ref mA7, .ref mA8, .ref mA9, .ref mA10, .ref mA11, .ref mA12, nV kz, nV dn, .ref mA15, .ref mA16, .ref mA17, mV mAb, mV mBe, .ref mA20, zV mCl])), (mA3, cN g 4 mtd), (mA16, cO g 5184 rA), (mA17, cZ g 3 mbe)] H) (hD : va_D A [(mo0, .inr (8, [nV mL, .ref mA1, nV mAt, .ref mA3, .ref mA4, .ref mA5, .ref mA6, .ref mA7, .ref mA8, .ref mA9, .ref mA10, .ref mA11, .ref mA12, nV kz, nV dn, .ref mA15, .ref mA16, .ref mA17, mV mAb, mV mBe, .ref mA20, zV mCl])), (mA3, cN g 4 mtd), (mA16, cO g 5184 rA), (mA17, cZ g 3 mbe)]) (hS : va_S A s.heap H locs) (hl : lv_has ls 8 [(5, nV i0), (0, .ref mo0), (1, nV 3), (2, nV yn), (3, nV wn), (4, zV z)]), W p l e (rD 4) s m args below meth c H locs 0 0 Q (F0 m 41 ls []) := by
    intro n_41
    induction n_41 with
    | zero => intro i0 rA H locs ls hi0 hrA hm hP hD hS hl; exact absurd hm (Nat.not_lt_zero _)
    | succ n_41 ih_41 =>
      intro i0 rA H locs ls hi0 hrA hm hP hD hS hl
      refine lv_iload C.1 C.2.1 dX10_code_41 (lv_at hl 0 rfl) ?_
      refine r_sipush 5184 C dX10_code_43 (by decide) ?_
      refine r_cge 63 C dX10_code_46 rfl ⟨rgN (by omega), rgN (by decide)⟩ (fun h_10 => ?_) (fun h_10 => ?_)
      · skip
        refine r_iconst 0 C dX10_code_63 rfl ?_
        refine lv_istore (lv' := [(5, nV 0), (0, .ref mo0), (1, nV 3), (2, nV yn), (3, nV wn), (4, zV z)]) C.1 C.2.1 dX10_code_64 hl (by decide) rfl (fun ls hl => ?_)
        have L66 : ∀ (n_66 : Nat) (i1 : Nat) (rB : Nat → Bool) (H : Heap) (locs : List Loc) (ls : Array Slot) (hi1 : i1 ≤ 72) (hrB : ∀ x t, x < 72 → t < 72 → rB (72 * x + t) = if x < i1 then (fun y1 t => rc bi mo y1 wn t (yn + 1)) x t else false) (hm : 72 - i1 < n_66) (hP : va_P g.1 vwCl [(mo0, .inr (8, [nV mL, .ref mA1, nV mAt, .ref mA3, .ref mA4, .ref mA5, .ref mA6, .ref mA7, .ref mA8, .ref mA9, .ref mA10, .ref mA11, .ref mA12, nV kz, nV dn, .ref mA15, .ref mA16, .ref mA17, mV mAb, mV mBe, .ref mA20, zV mCl])), (mA3, cN g 4 mtd), (mA16, cO g 5184 rB), (mA17, cZ g 3 mbe)] H) (hD : va_D A [(mo0, .inr (8, [nV mL, .ref mA1, nV mAt, .ref mA3, .ref mA4, .ref mA5, .ref mA6, .ref mA7, .ref mA8, .ref mA9, .ref mA10, .ref mA11, .ref mA12, nV kz, nV dn, .ref mA15, .ref mA16, .ref mA17, mV mAb, mV mBe, .ref mA20, zV mCl])), (mA3, cN g 4 mtd), (mA16, cO g 5184 rB), (mA17, cZ g 3 mbe)]) (hS : va_S A s.heap H locs) (hl : lv_has ls 8 [(5, nV i1), (0, .ref mo0), (1, nV 3), (2, nV yn), (3, nV wn), (4, zV z)]), W p l e (rD 4) s m args below meth c H locs 0 0 Q (F0 m 66 ls []) := by
          intro n_66
          induction n_66 with
          | zero => intro i1 rB H locs ls hi1 hrB hm hP hD hS hl; exact absurd hm (Nat.not_lt_zero _)
          | succ n_66 ih_66 =>
            intro i1 rB H locs ls hi1 hrB hm hP hD hS hl
            refine lv_iload C.1 C.2.1 dX10_code_66 (lv_at hl 0 rfl) ?_
            refine r_bipush 72 C dX10_code_68 (by decide) ?_
            refine r_cge 137 C dX10_code_70 rfl ⟨rgN (by omega), rgN (by decide)⟩ (fun h_11 => ?_) (fun h_11 => ?_)
            · skip
              have hre : ∀ x t, x < 72 → t < 72 → rB (72 * x + t) = (fun y1 t => rc bi mo y1 wn t (yn + 1)) x t := fun x t hx ht => (hrB x t hx ht).trans (if_pos (by omega))
              refine lv_aload_n C.1 C.2.1 dX10_code_137 rfl (lv_at hl 1 rfl) ?_
              refine r_bipushZ C dX10_code_138 (by decide) ?_
              refine r_put (v := zV (-4)) C hK hP hD hS kw_X10 tyX10_ok nmX10 (ci := 8) rfl 0 21 (by decide) kf_X10_170 rfl rfl rfl rfl rfl (Nat.le_of_ble_eq_true rfl) dX10_code_140 (fun H locs hP hD hS => ?_)
              have hP : va_P g.1 vwCl [(mo0, .inr (8, [nV mL, .ref mA1, nV mAt, .ref mA3, .ref mA4, .ref mA5, .ref mA6, .ref mA7, .ref mA8, .ref mA9, .ref mA10, .ref mA11, .ref mA12, nV kz, nV dn, .ref mA15, .ref mA16, .ref mA17, mV mAb, mV mBe, .ref mA20, zV (-4)])), (mA3, cN g 4 mtd), (mA16, cO g 5184 rB), (mA17, cZ g 3 mbe)] H := hP
              have hD : va_D A [(mo0, .inr (8, [nV mL, .ref mA1, nV mAt, .ref mA3, .ref mA4, .ref mA5, .ref mA6, .ref mA7, .ref mA8, .ref mA9, .ref mA10, .ref mA11, .ref mA12, nV kz, nV dn, .ref mA15, .ref mA16, .ref mA17, mV mAb, mV mBe, .ref mA20, zV (-4)])), (mA3, cN g 4 mtd), (mA16, cO g 5184 rB), (mA17, cZ g 3 mbe)] := hD
              refine r_iconst 0 C dX10_code_143 rfl ?_
              refine lv_istore (lv' := [(5, nV 0), (0, .ref mo0), (1, nV 3), (2, nV yn), (3, nV wn), (4, zV z)]) C.1 C.2.1 dX10_code_144 hl (by decide) rfl (fun ls hl => ?_)
              have L146 : ∀ (n_146 : Nat) (i : Nat) (clA : Int) (beA : Nat → Int) (H : Heap) (locs : List Loc) (ls : Array Slot) (hi : i ≤ 72) (hM : MR 3 clA beA (mEn (fun y1 t => rc bi mo y1 wn t (yn + 1)) 2 0 0 0 c0 i ms0)) (hm : 72 - i < n_146) (hP : va_P g.1 vwCl [(mo0, .inr (8, [nV mL, .ref mA1, nV mAt, .ref mA3, .ref mA4, .ref mA5, .ref mA6, .ref mA7, .ref mA8, .ref mA9, .ref mA10, .ref mA11, .ref mA12, nV kz, nV dn, .ref mA15, .ref mA16, .ref mA17, mV mAb, mV mBe, .ref mA20, zV clA])), (mA3, cN g 4 mtd), (mA16, cO g 5184 rB), (mA17, cZ g 3 beA)] H) (hD : va_D A [(mo0, .inr (8, [nV mL, .ref mA1, nV mAt, .ref mA3, .ref mA4, .ref mA5, .ref mA6, .ref mA7, .ref mA8, .ref mA9, .ref mA10, .ref mA11, .ref mA12, nV kz, nV dn, .ref mA15, .ref mA16, .ref mA17, mV mAb, mV mBe, .ref mA20, zV clA])), (mA3, cN g 4 mtd), (mA16, cO g 5184 rB), (mA17, cZ g 3 beA)]) (hS : va_S A s.heap H locs) (hl : lv_has ls 8 [(5, nV i), (0, .ref mo0), (1, nV 3), (2, nV yn), (3, nV wn), (4, zV z)]), W p l e (rD 4) s m args below meth c H locs 0 0 Q (F0 m 146 ls []) := by
                intro n_146
                induction n_146 with
                | zero => intro i clA beA H locs ls hi hM hm hP hD hS hl; exact absurd hm (Nat.not_lt_zero _)
                | succ n_146 ih_146 =>
                  intro i clA beA H locs ls hi hM hm hP hD hS hl
                  refine lv_iload C.1 C.2.1 dX10_code_146 (lv_at hl 0 rfl) ?_
                  refine r_bipush 72 C dX10_code_148 (by decide) ?_
                  refine r_cge 277 C dX10_code_150 rfl ⟨rgN (by omega), rgN (by decide)⟩ (fun h_12 => ?_) (fun h_12 => ?_)
                  · skip
                    rw [show i = 72 by omega] at hM
                    have hM2 : MR 3 clA beA (mnS (fun y1 t => rc bi mo y1 wn t (yn + 1)) 3) := hM
                    obtain ⟨k1, k2, k3⟩ := hM2
                    refine lv_aload_n C.1 C.2.1 dX10_code_277 rfl (lv_at hl 1 rfl) ?_
                    refine r_get C hK hP kw_X10 (ci := 8) rfl 0 21 (by decide) kf_X10_170 rfl rfl dX10_code_278 ?_
                    refine r_ilt 289 C dX10_code_281 rfl (⟨by omega, by omega⟩) (fun g1 => ?_) (fun g1 => ?_)
                    · skip
                      refine lv_aload_n C.1 C.2.1 dX10_code_289 rfl (lv_at hl 1 rfl) ?_
                      refine r_get C hK hP kw_X10 (ci := 8) rfl 0 21 (by decide) kf_X10_170 rfl rfl dX10_code_290 ?_
                      refine r_goto 303 C dX10_code_293 rfl ?_
                      exact ret ((clA, rB, beA)) dX10_code_303 hS hP (by rw [if_pos (by omega), ← k1])
                    refine lv_iload C.1 C.2.1 dX10_code_284 (lv_at hl 5 rfl) ?_
                    refine r_ige 296 C dX10_code_286 rfl (⟨by omega, by omega⟩) (fun g2 => ?_) (fun g2 => ?_)
                    · skip
                      obtain ⟨zn, rfl⟩ : ∃ n : Nat, z = (n : Int) := ⟨z.toNat, by omega⟩
                      have hl : lv_has ls 8 [(5, nV i), (0, .ref mo0), (1, nV 3), (2, nV yn), (3, nV wn), (4, nV zn)] := hl
                      refine lv_aload_n C.1 C.2.1 dX10_code_296 rfl (lv_at hl 1 rfl) ?_
                      refine r_get C hK hP kw_X10 (ci := 8) rfl 0 17 (by decide) kf_X10_51 rfl rfl dX10_code_297 ?_
                      refine lv_iload C.1 C.2.1 dX10_code_300 (lv_at hl 5 rfl) ?_
                      refine r_aldZ C hK hP 3 rfl ⟨by omega, by omega⟩ dX10_code_302 ?_
                      exact ret ((clA, rB, beA)) dX10_code_303 hS hP (by rw [if_neg (by omega)]; exact iI_cast (k2 (by omega) zn (by omega)))
                    refine lv_aload_n C.1 C.2.1 dX10_code_289 rfl (lv_at hl 1 rfl) ?_
                    refine r_get C hK hP kw_X10 (ci := 8) rfl 0 21 (by decide) kf_X10_170 rfl rfl dX10_code_290 ?_
                    refine r_goto 303 C dX10_code_293 rfl ?_
                    exact ret ((clA, rB, beA)) dX10_code_303 hS hP (by rw [if_pos (by omega), ← k1])
                  refine lv_iload_n C.1 C.2.1 dX10_code_153 rfl (lv_at hl 2 rfl) ?_
                  refine r_iconst 1 C dX10_code_154 rfl ?_
                  refine r_cne 166 C dX10_code_155 rfl ⟨rgN (by decide), rgN (by decide)⟩ (fun h_13 => ?_) (fun h_13 => ?_)
                  rotate_left
                  · exact absurd h_13 (by omega)
                  refine lv_iload C.1 C.2.1 dX10_code_166 (lv_at hl 0 rfl) ?_
                  refine r_iconst 1 C dX10_code_168 rfl ?_
                  refine r_addN C dX10_code_169 ?_
                  refine lv_istore (lv' := [(6, nV (i + 1)), (5, nV i), (0, .ref mo0), (1, nV 3), (2, nV yn), (3, nV wn), (4, zV z)]) C.1 C.2.1 dX10_code_170 hl (by decide) rfl (fun ls hl => ?_)
                  have L172 : ∀ (n_172 : Nat) (j : Nat) (clB : Int) (beB : Nat → Int) (H : Heap) (locs : List Loc) (ls : Array Slot) (hj : i + 1 + j ≤ 72) (hN : MR 3 clB beB (mEn (fun y1 t => rc bi mo y1 wn t (yn + 1)) 1 1 (i + 1) (fl i) (upN c0 0 i) j (mEn (fun y1 t => rc bi mo y1 wn t (yn + 1)) 2 0 0 0 c0 i ms0))) (hm : 72 - (i + 1 + j) < n_172) (hP : va_P g.1 vwCl [(mo0, .inr (8, [nV mL, .ref mA1, nV mAt, .ref mA3, .ref mA4, .ref mA5, .ref mA6, .ref mA7, .ref mA8, .ref mA9, .ref mA10, .ref mA11, .ref mA12, nV kz, nV dn, .ref mA15, .ref mA16, .ref mA17, mV mAb, mV mBe, .ref mA20, zV clB])), (mA3, cN g 4 mtd), (mA16, cO g 5184 rB), (mA17, cZ g 3 beB)] H) (hD : va_D A [(mo0, .inr (8, [nV mL, .ref mA1, nV mAt, .ref mA3, .ref mA4, .ref mA5, .ref mA6, .ref mA7, .ref mA8, .ref mA9, .ref mA10, .ref mA11, .ref mA12, nV kz, nV dn, .ref mA15, .ref mA16, .ref mA17, mV mAb, mV mBe, .ref mA20, zV clB])), (mA3, cN g 4 mtd), (mA16, cO g 5184 rB), (mA17, cZ g 3 beB)]) (hS : va_S A s.heap H locs) (hl : lv_has ls 8 [(6, nV (i + 1 + j)), (5, nV i), (0, .ref mo0), (1, nV 3), (2, nV yn), (3, nV wn), (4, zV z)]), W p l e (rD 4) s m args below meth c H locs 0 0 Q (F0 m 172 ls []) := by
                    intro n_172
                    induction n_172 with
                    | zero => intro j clB beB H locs ls hj hN hm hP hD hS hl; exact absurd hm (Nat.not_lt_zero _)
                    | succ n_172 ih_172 =>
                      intro j clB beB H locs ls hj hN hm hP hD hS hl
                      refine lv_iload C.1 C.2.1 dX10_code_172 (lv_at hl 0 rfl) ?_
                      refine r_bipush 72 C dX10_code_174 (by decide) ?_
                      refine r_cge 271 C dX10_code_176 rfl ⟨rgN (by omega), rgN (by decide)⟩ (fun h_14 => ?_) (fun h_14 => ?_)
                      · skip
                        refine r_incN (k := 1) (n := 1) [(5, nV (i + 1)), (6, nV (i + 1 + j)), (0, .ref mo0), (1, nV 3), (2, nV yn), (3, nV wn), (4, zV z)] C dX10_code_271 hl rfl rfl (by decide) rfl (fun ls hl => ?_)
                        refine r_goto 146 C dX10_code_274 rfl ?_
                        exact ih_146 (i + 1) clB beB _ _ _ (by first | assumption | omega) (by rw [mEn_x, show 72 - (i + 1) = j by omega]; exact hN) (by omega) hP hD hS (lv_sub hl [0, 2, 3, 4, 5, 6] rfl)
                      refine lv_iload_n C.1 C.2.1 dX10_code_179 rfl (lv_at hl 3 rfl) ?_
                      refine r_iconst 1 C dX10_code_180 rfl ?_
                      refine r_cle 271 C dX10_code_181 rfl ⟨rgN (by decide), rgN (by decide)⟩ (fun h_15 => ?_) (fun h_15 => ?_)
                      · exact absurd h_15 (by omega)
                      refine lv_aload_n C.1 C.2.1 dX10_code_184 rfl (lv_at hl 2 rfl) ?_
                      refine lv_iload C.1 C.2.1 dX10_code_185 (lv_at hl 1 rfl) ?_
                      refine lv_iload C.1 C.2.1 dX10_code_187 (lv_at hl 0 rfl) ?_
                      refine ro_callV (As := [nV i, nV (i + 1 + j)]) (rest := []) C hK (c_X10_isApart l g mo0 mA1 mA3 mA4 mA5 mA6 mA7 mA8 mA9 mA10 mA11 mA12 mA15 mA16 mA17 mA20 mL mAt kz dn mAb mBe clB rB (fun y1 t => rc bi mo y1 wn t (yn + 1)) i (i + 1 + j) (hre) (by first | assumption | omega) (by first | assumption | omega)) (hP.sub (ws' := [(mo0, .inr (8, [nV mL, .ref mA1, nV mAt, .ref mA3, .ref mA4, .ref mA5, .ref mA6, .ref mA7, .ref mA8, .ref mA9, .ref mA10, .ref mA11, .ref mA12, nV kz, nV dn, .ref mA15, .ref mA16, .ref mA17, mV mAb, mV mBe, .ref mA20, zV clB])), (mA16, cO g 5184 rB)]) [0, 2] rfl) (ci := 8) (q0 := 0) rfl rfl kc_X10_isApart kl_X10_179 kn_X10 ki_X10_isApart ke_X10_isApart nk_X10_isApart (rm_lt (by decide) (by decide)) hl rfl (Nat.le_of_ble_eq_true rfl) dX10_code_189 (fun r_16 hr_17 => ?_)
                      subst hr_17
                      refine r_beq 265 C dX10_code_192 rfl (fun ga => ?_) (fun ga => ?_)
                      · skip
                        refine r_incN (k := 0) (n := 1) [(6, nV (i + 1 + j + 1)), (5, nV i), (0, .ref mo0), (1, nV 3), (2, nV yn), (3, nV wn), (4, zV z)] C dX10_code_265 hl rfl rfl (by decide) rfl (fun ls hl => ?_)
                        refine r_goto 172 C dX10_code_268 rfl ?_
                        exact ih_172 (j + 1) clB beB _ _ _ (by first | assumption | omega) (by rw [mEn_no (fun q => ga (ap_1.mp q))]; exact hN) (by omega) hP hD hS (lv_sub hl [0, 1, 2, 3, 4, 5, 6] rfl)
                      refine lv_iload_n C.1 C.2.1 dX10_code_195 rfl (lv_at hl 3 rfl) ?_
                      refine r_iconst 2 C dX10_code_196 rfl ?_
                      refine r_cne 209 C dX10_code_197 rfl ⟨rgN (by decide), rgN (by decide)⟩ (fun h_18 => ?_) (fun h_18 => ?_)
                      rotate_left
                      · exact absurd h_18 (by omega)
                      refine lv_iload C.1 C.2.1 dX10_code_209 (lv_at hl 0 rfl) ?_
                      refine r_iconst 1 C dX10_code_211 rfl ?_
                      refine r_addN C dX10_code_212 ?_
                      refine lv_istore (lv' := [(7, nV ((i + 1 + j) + 1)), (6, nV (i + 1 + j)), (5, nV i), (0, .ref mo0), (1, nV 3), (2, nV yn), (3, nV wn), (4, zV z)]) C.1 C.2.1 dX10_code_213 hl (by decide) rfl (fun ls hl => ?_)
                      have L215 : ∀ (n_215 : Nat) (h : Nat) (clC : Int) (beC : Nat → Int) (H : Heap) (locs : List Loc) (ls : Array Slot) (hh : i + 1 + j + 1 + h ≤ 72) (hO : MR 3 clC beC (mEn (fun y1 t => rc bi mo y1 wn t (yn + 1)) 0 2 (i + 1 + j + 1) (fl i + fl (i + 1 + j)) (upN (upN c0 0 i) 1 (i + 1 + j)) h (mEn (fun y1 t => rc bi mo y1 wn t (yn + 1)) 1 1 (i + 1) (fl i) (upN c0 0 i) j (mEn (fun y1 t => rc bi mo y1 wn t (yn + 1)) 2 0 0 0 c0 i ms0)))) (hm : 72 - (i + 1 + j + 1 + h) < n_215) (hP : va_P g.1 vwCl [(mo0, .inr (8, [nV mL, .ref mA1, nV mAt, .ref mA3, .ref mA4, .ref mA5, .ref mA6, .ref mA7, .ref mA8, .ref mA9, .ref mA10, .ref mA11, .ref mA12, nV kz, nV dn, .ref mA15, .ref mA16, .ref mA17, mV mAb, mV mBe, .ref mA20, zV clC])), (mA3, cN g 4 mtd), (mA16, cO g 5184 rB), (mA17, cZ g 3 beC)] H) (hD : va_D A [(mo0, .inr (8, [nV mL, .ref mA1, nV mAt, .ref mA3, .ref mA4, .ref mA5, .ref mA6, .ref mA7, .ref mA8, .ref mA9, .ref mA10, .ref mA11, .ref mA12, nV kz, nV dn, .ref mA15, .ref mA16, .ref mA17, mV mAb, mV mBe, .ref mA20, zV clC])), (mA3, cN g 4 mtd), (mA16, cO g 5184 rB), (mA17, cZ g 3 beC)]) (hS : va_S A s.heap H locs) (hl : lv_has ls 8 [(7, nV (i + 1 + j + 1 + h)), (6, nV (i + 1 + j)), (5, nV i), (0, .ref mo0), (1, nV 3), (2, nV yn), (3, nV wn), (4, zV z)]), W p l e (rD 4) s m args below meth c H locs 0 0 Q (F0 m 215 ls []) := by
                        intro n_215
                        induction n_215 with
                        | zero => intro h clC beC H locs ls hh hO hm hP hD hS hl; exact absurd hm (Nat.not_lt_zero _)
                        | succ n_215 ih_215 =>
                          intro h clC beC H locs ls hh hO hm hP hD hS hl
                          refine lv_iload C.1 C.2.1 dX10_code_215 (lv_at hl 0 rfl) ?_
                          refine r_bipush 72 C dX10_code_217 (by decide) ?_
                          refine r_cge 265 C dX10_code_219 rfl ⟨rgN (by omega), rgN (by decide)⟩ (fun h_19 => ?_) (fun h_19 => ?_)
                          · skip
                            refine r_incN (k := 1) (n := 1) [(6, nV (i + 1 + j + 1)), (7, nV (i + 1 + j + 1 + h)), (5, nV i), (0, .ref mo0), (1, nV 3), (2, nV yn), (3, nV wn), (4, zV z)] C dX10_code_265 hl rfl rfl (by decide) rfl (fun ls hl => ?_)
                            refine r_goto 172 C dX10_code_268 rfl ?_
                            exact ih_172 (j + 1) clC beC _ _ _ (by first | assumption | omega) (by rw [mEn_go (ap_1.mpr ga)]; show MR 3 _ _ (mEn _ 0 2 (i + 1 + j + 1) _ _ (72 - (i + 1 + j + 1)) _); rw [show 72 - (i + 1 + j + 1) = h by omega]; exact hO) (by omega) hP hD hS (lv_sub hl [0, 2, 3, 4, 5, 6, 7] rfl)
                          refine lv_iload_n C.1 C.2.1 dX10_code_222 rfl (lv_at hl 4 rfl) ?_
                          refine r_iconst 2 C dX10_code_223 rfl ?_
                          refine r_cle 265 C dX10_code_224 rfl ⟨rgN (by decide), rgN (by decide)⟩ (fun h_20 => ?_) (fun h_20 => ?_)
                          · exact absurd h_20 (by omega)
                          refine lv_aload_n C.1 C.2.1 dX10_code_227 rfl (lv_at hl 3 rfl) ?_
                          refine lv_iload C.1 C.2.1 dX10_code_228 (lv_at hl 2 rfl) ?_
                          refine lv_iload C.1 C.2.1 dX10_code_230 (lv_at hl 0 rfl) ?_
                          refine ro_callV (As := [nV i, nV (i + 1 + j + 1 + h)]) (rest := []) C hK (c_X10_isApart l g mo0 mA1 mA3 mA4 mA5 mA6 mA7 mA8 mA9 mA10 mA11 mA12 mA15 mA16 mA17 mA20 mL mAt kz dn mAb mBe clC rB (fun y1 t => rc bi mo y1 wn t (yn + 1)) i (i + 1 + j + 1 + h) (hre) (by first | assumption | omega) (by first | assumption | omega)) (hP.sub (ws' := [(mo0, .inr (8, [nV mL, .ref mA1, nV mAt, .ref mA3, .ref mA4, .ref mA5, .ref mA6, .ref mA7, .ref mA8, .ref mA9, .ref mA10, .ref mA11, .ref mA12, nV kz, nV dn, .ref mA15, .ref mA16, .ref mA17, mV mAb, mV mBe, .ref mA20, zV clC])), (mA16, cO g 5184 rB)]) [0, 2] rfl) (ci := 8) (q0 := 0) rfl rfl kc_X10_isApart kl_X10_179 kn_X10 ki_X10_isApart ke_X10_isApart nk_X10_isApart (rm_lt (by decide) (by decide)) hl rfl (Nat.le_of_ble_eq_true rfl) dX10_code_232 (fun r_21 hr_22 => ?_)
                          subst hr_22
                          refine r_beq 259 C dX10_code_235 rfl (fun gb1 => ?_) (fun gb1 => ?_)
                          · skip
                            refine r_incN (k := 0) (n := 1) [(7, nV (i + 1 + j + 1 + h + 1)), (6, nV (i + 1 + j)), (5, nV i), (0, .ref mo0), (1, nV 3), (2, nV yn), (3, nV wn), (4, zV z)] C dX10_code_259 hl rfl rfl (by decide) rfl (fun ls hl => ?_)
                            refine r_goto 215 C dX10_code_262 rfl ?_
                            exact ih_215 (h + 1) clC beC _ _ _ (by first | assumption | omega) (by rw [mEn_no (fun q => gb1 (ap_2.mp q).1)]; exact hO) (by omega) hP hD hS (lv_sub hl [0, 1, 2, 3, 4, 5, 6, 7] rfl)
                          refine lv_aload_n C.1 C.2.1 dX10_code_238 rfl (lv_at hl 3 rfl) ?_
                          refine lv_iload C.1 C.2.1 dX10_code_239 (lv_at hl 1 rfl) ?_
                          refine lv_iload C.1 C.2.1 dX10_code_241 (lv_at hl 0 rfl) ?_
                          refine ro_callV (As := [nV (i + 1 + j), nV (i + 1 + j + 1 + h)]) (rest := []) C hK (c_X10_isApart l g mo0 mA1 mA3 mA4 mA5 mA6 mA7 mA8 mA9 mA10 mA11 mA12 mA15 mA16 mA17 mA20 mL mAt kz dn mAb mBe clC rB (fun y1 t => rc bi mo y1 wn t (yn + 1)) (i + 1 + j) (i + 1 + j + 1 + h) (hre) (by first | assumption | omega) (by first | assumption | omega)) (hP.sub (ws' := [(mo0, .inr (8, [nV mL, .ref mA1, nV mAt, .ref mA3, .ref mA4, .ref mA5, .ref mA6, .ref mA7, .ref mA8, .ref mA9, .ref mA10, .ref mA11, .ref mA12, nV kz, nV dn, .ref mA15, .ref mA16, .ref mA17, mV mAb, mV mBe, .ref mA20, zV clC])), (mA16, cO g 5184 rB)]) [0, 2] rfl) (ci := 8) (q0 := 0) rfl rfl kc_X10_isApart kl_X10_179 kn_X10 ki_X10_isApart ke_X10_isApart nk_X10_isApart (rm_lt (by decide) (by decide)) hl rfl (Nat.le_of_ble_eq_true rfl) dX10_code_243 (fun r_23 hr_24 => ?_)
                          subst hr_24
                          refine r_beq 259 C dX10_code_246 rfl (fun gb2 => ?_) (fun gb2 => ?_)
                          · skip
                            refine r_incN (k := 0) (n := 1) [(7, nV (i + 1 + j + 1 + h + 1)), (6, nV (i + 1 + j)), (5, nV i), (0, .ref mo0), (1, nV 3), (2, nV yn), (3, nV wn), (4, zV z)] C dX10_code_259 hl rfl rfl (by decide) rfl (fun ls hl => ?_)
                            refine r_goto 215 C dX10_code_262 rfl ?_
                            exact ih_215 (h + 1) clC beC _ _ _ (by first | assumption | omega) (by rw [mEn_no (fun q => gb2 (ap_2.mp q).2)]; exact hO) (by omega) hP hD hS (lv_sub hl [0, 1, 2, 3, 4, 5, 6, 7] rfl)
                          refine lv_aload_n C.1 C.2.1 dX10_code_249 rfl (lv_at hl 3 rfl) ?_
                          refine lv_iload C.1 C.2.1 dX10_code_250 (lv_at hl 2 rfl) ?_
                          refine lv_iload C.1 C.2.1 dX10_code_252 (lv_at hl 1 rfl) ?_
                          refine lv_iload C.1 C.2.1 dX10_code_254 (lv_at hl 0 rfl) ?_
                          refine wr_callVV (As := [nV i, nV (i + 1 + j), nV (i + 1 + j + 1 + h)]) (rest := []) C hK (c_X10_codes l g mo0 mA1 mA3 mA4 mA5 mA6 mA7 mA8 mA9 mA10 mA11 mA12 mA15 mA16 mA17 mA20 mL mAt kz dn mAb mBe clC beC i ((i + 1 + j : Nat) : Int) ((i + 1 + j + 1 + h : Nat) : Int) (by first | assumption | omega) (by first | assumption | omega) (by first | assumption | omega) (hO.2.2)) [0, 3] rfl (fun _ => rfl) (by decide) hP hD hS hA (ci := 8) (q0 := 0) rfl rfl kc_X10_codes kl_X10_175 kn_X10 ki_X10_codes ke_X10_codes nk_X10_codes (rm_lt (by decide) (by decide)) hl rfl (Nat.le_of_ble_eq_true rfl) dX10_code_256 (fun u_27 H locs hr_26 hP hD hS => ?_)
                          have hP : va_P g.1 vwCl [(mo0, .inr (8, [nV mL, .ref mA1, nV mAt, .ref mA3, .ref mA4, .ref mA5, .ref mA6, .ref mA7, .ref mA8, .ref mA9, .ref mA10, .ref mA11, .ref mA12, nV kz, nV dn, .ref mA15, .ref mA16, .ref mA17, mV mAb, mV mBe, .ref mA20, zV ((cst (clC, beC) i ((i + 1 + j : Nat) : Int) ((i + 1 + j + 1 + h : Nat) : Int)).1)])), (mA3, cN g 4 mtd), (mA16, cO g 5184 rB), (mA17, cZ g 3 ((cst (clC, beC) i ((i + 1 + j : Nat) : Int) ((i + 1 + j + 1 + h : Nat) : Int)).2))] H := hP
                          have hD : va_D A [(mo0, .inr (8, [nV mL, .ref mA1, nV mAt, .ref mA3, .ref mA4, .ref mA5, .ref mA6, .ref mA7, .ref mA8, .ref mA9, .ref mA10, .ref mA11, .ref mA12, nV kz, nV dn, .ref mA15, .ref mA16, .ref mA17, mV mAb, mV mBe, .ref mA20, zV ((cst (clC, beC) i ((i + 1 + j : Nat) : Int) ((i + 1 + j + 1 + h : Nat) : Int)).1)])), (mA3, cN g 4 mtd), (mA16, cO g 5184 rB), (mA17, cZ g 3 ((cst (clC, beC) i ((i + 1 + j : Nat) : Int) ((i + 1 + j + 1 + h : Nat) : Int)).2))] := hD
                          refine r_incN (k := 0) (n := 1) [(7, nV (i + 1 + j + 1 + h + 1)), (6, nV (i + 1 + j)), (5, nV i), (0, .ref mo0), (1, nV 3), (2, nV yn), (3, nV wn), (4, zV z)] C dX10_code_259 hl rfl rfl (by decide) rfl (fun ls hl => ?_)
                          refine r_goto 215 C dX10_code_262 rfl ?_
                          exact ih_215 (h + 1) ((cst (clC, beC) i ((i + 1 + j : Nat) : Int) ((i + 1 + j + 1 + h : Nat) : Int)).1) ((cst (clC, beC) i ((i + 1 + j : Nat) : Int) ((i + 1 + j + 1 + h : Nat) : Int)).2) _ _ _ (by first | assumption | omega) (by rw [mEn_go (ap_2.mpr ⟨gb1, gb2⟩)]; exact MR_c hO csm_3 (by have h1 := fl_bd i (by omega); have h2 := fl_bd (i + 1 + j) (by omega); have h3 := fl_bd (i + 1 + j + 1 + h) (by omega); omega) bc_3) (by omega) hP hD hS (lv_sub hl [0, 1, 2, 3, 4, 5, 6, 7] rfl)
                      exact L215 (72 - (i + 1 + j + 1 + 0) + 1) 0 clB beB _ _ _ (by first | assumption | omega) (hN) (Nat.lt_succ_self _) hP hD hS (lv_sub hl [0, 1, 2, 3, 4, 5, 6, 7] rfl)
                  exact L172 (72 - (i + 1 + 0) + 1) 0 clA beA _ _ _ (by first | assumption | omega) (hM) (Nat.lt_succ_self _) hP hD hS (lv_sub hl [0, 1, 2, 3, 4, 5, 6] rfl)
              exact L146 (72 - 0 + 1) 0 (-4) mbe _ _ _ (by first | assumption | omega) (⟨rfl, fun q => absurd q (by decide), by decide, by decide⟩) (Nat.lt_succ_self _) hP hD hS (lv_sub hl [0, 1, 2, 3, 4, 5] rfl)
            refine r_iconst 0 C dX10_code_73 rfl ?_
            refine lv_istore (lv' := [(6, nV 0), (5, nV i1), (0, .ref mo0), (1, nV 3), (2, nV yn), (3, nV wn), (4, zV z)]) C.1 C.2.1 dX10_code_74 hl (by decide) rfl (fun ls hl => ?_)
            have L76 : ∀ (n_76 : Nat) (i2 : Nat) (rC : Nat → Bool) (H : Heap) (locs : List Loc) (ls : Array Slot) (hi2 : i2 ≤ 84) (hrC : ∀ x t, x < 72 → t < 72 → rC (72 * x + t) = if x < i1 then (fun y1 t => rc bi mo y1 wn t (yn + 1)) x t else if x = i1 then rq bi mo i1 yn wn t i2 else false) (hm : 84 - i2 < n_76) (hP : va_P g.1 vwCl [(mo0, .inr (8, [nV mL, .ref mA1, nV mAt, .ref mA3, .ref mA4, .ref mA5, .ref mA6, .ref mA7, .ref mA8, .ref mA9, .ref mA10, .ref mA11, .ref mA12, nV kz, nV dn, .ref mA15, .ref mA16, .ref mA17, mV mAb, mV mBe, .ref mA20, zV mCl])), (mA3, cN g 4 mtd), (mA16, cO g 5184 rC), (mA17, cZ g 3 mbe)] H) (hD : va_D A [(mo0, .inr (8, [nV mL, .ref mA1, nV mAt, .ref mA3, .ref mA4, .ref mA5, .ref mA6, .ref mA7, .ref mA8, .ref mA9, .ref mA10, .ref mA11, .ref mA12, nV kz, nV dn, .ref mA15, .ref mA16, .ref mA17, mV mAb, mV mBe, .ref mA20, zV mCl])), (mA3, cN g 4 mtd), (mA16, cO g 5184 rC), (mA17, cZ g 3 mbe)]) (hS : va_S A s.heap H locs) (hl : lv_has ls 8 [(6, nV i2), (5, nV i1), (0, .ref mo0), (1, nV 3), (2, nV yn), (3, nV wn), (4, zV z)]), W p l e (rD 4) s m args below meth c H locs 0 0 Q (F0 m 76 ls []) := by
              intro n_76
              induction n_76 with
              | zero => intro i2 rC H locs ls hi2 hrC hm hP hD hS hl; exact absurd hm (Nat.not_lt_zero _)
              | succ n_76 ih_76 =>
                intro i2 rC H locs ls hi2 hrC hm hP hD hS hl
                refine lv_iload C.1 C.2.1 dX10_code_76 (lv_at hl 0 rfl) ?_
                refine r_bipush 84 C dX10_code_78 (by decide) ?_
                refine r_cge 131 C dX10_code_80 rfl ⟨rgN (by omega), rgN (by decide)⟩ (fun h_28 => ?_) (fun h_28 => ?_)
                · skip
                  refine r_incN (k := 1) (n := 1) [(5, nV (i1 + 1)), (6, nV i2), (0, .ref mo0), (1, nV 3), (2, nV yn), (3, nV wn), (4, zV z)] C dX10_code_131 hl rfl rfl (by decide) rfl (fun ls hl => ?_)
                  refine r_goto 66 C dX10_code_134 rfl ?_
                  exact ih_66 (i1 + 1) rC _ _ _ (by first | assumption | omega) (fun x t hx ht => by rw [hrC x t hx ht]; by_cases q : x < i1; (rw [if_pos q, if_pos (by omega)]); (rw [if_neg q]; by_cases q2 : x = i1; (rw [if_pos q2, if_pos (by omega), show i2 = 84 by omega, rq_rc (by omega) (by omega), q2]); (rw [if_neg q2, if_neg (by omega)]))) (by omega) hP hD hS (lv_sub hl [0, 2, 3, 4, 5, 6] rfl)
                refine lv_iload C.1 C.2.1 dX10_code_83 (lv_at hl 0 rfl) ?_
                refine r_iconst 4 C dX10_code_85 rfl ?_
                refine r_divN C dX10_code_86 (by omega) (by decide) ?_
                refine lv_iload_n C.1 C.2.1 dX10_code_87 rfl (lv_at hl 4 rfl) ?_
                refine r_cgt 125 C dX10_code_88 rfl ⟨rgN (by omega), rgN (by omega)⟩ (fun h_29 => ?_) (fun h_29 => ?_)
                · skip
                  refine r_incN (k := 0) (n := 1) [(6, nV (i2 + 1)), (5, nV i1), (0, .ref mo0), (1, nV 3), (2, nV yn), (3, nV wn), (4, zV z)] C dX10_code_125 hl rfl rfl (by decide) rfl (fun ls hl => ?_)
                  refine r_goto 76 C dX10_code_128 rfl ?_
                  exact ih_76 (i2 + 1) rC _ _ _ (by first | assumption | omega) (fun x t hx ht => by have hu : rq bi mo i1 yn wn t (i2 + 1) = rq bi mo i1 yn wn t i2 := (by show (_ || (decide (i2 / 4 ≤ yn ∧ i2 % 4 ≤ wn) && _)) = _; rw [decide_eq_false (show ¬ (i2 / 4 ≤ yn ∧ i2 % 4 ≤ wn) by omega), Bool.false_and, Bool.or_false]); rw [hrC x t hx ht, hu]) (by omega) hP hD hS (lv_sub hl [0, 1, 2, 3, 4, 5, 6] rfl)
                refine lv_iload C.1 C.2.1 dX10_code_91 (lv_at hl 0 rfl) ?_
                refine r_iconst 4 C dX10_code_93 rfl ?_
                refine r_remN C dX10_code_94 (by omega) (by decide) ?_
                refine lv_iload_n C.1 C.2.1 dX10_code_95 rfl (lv_at hl 5 rfl) ?_
                refine r_cgt 125 C dX10_code_96 rfl ⟨rgN (by omega), rgN (by omega)⟩ (fun h_30 => ?_) (fun h_30 => ?_)
                · skip
                  refine r_incN (k := 0) (n := 1) [(6, nV (i2 + 1)), (5, nV i1), (0, .ref mo0), (1, nV 3), (2, nV yn), (3, nV wn), (4, zV z)] C dX10_code_125 hl rfl rfl (by decide) rfl (fun ls hl => ?_)
                  refine r_goto 76 C dX10_code_128 rfl ?_
                  exact ih_76 (i2 + 1) rC _ _ _ (by first | assumption | omega) (fun x t hx ht => by have hu : rq bi mo i1 yn wn t (i2 + 1) = rq bi mo i1 yn wn t i2 := (by show (_ || (decide (i2 / 4 ≤ yn ∧ i2 % 4 ≤ wn) && _)) = _; rw [decide_eq_false (show ¬ (i2 / 4 ≤ yn ∧ i2 % 4 ≤ wn) by omega), Bool.false_and, Bool.or_false]); rw [hrC x t hx ht, hu]) (by omega) hP hD hS (lv_sub hl [0, 1, 2, 3, 4, 5, 6] rfl)
                refine lv_aload_n C.1 C.2.1 dX10_code_99 rfl (lv_at hl 2 rfl) ?_
                refine r_get C hK hP kw_X10 (ci := 8) rfl 0 16 (by decide) kf_X10_47 rfl rfl dX10_code_100 ?_
                refine r_bipush 72 C dX10_code_103 (by decide) ?_
                refine lv_iload C.1 C.2.1 dX10_code_105 (lv_at hl 1 rfl) ?_
                refine r_mulN C dX10_code_107 ?_
                refine lv_aload_n C.1 C.2.1 dX10_code_108 rfl (lv_at hl 2 rfl) ?_
                refine lv_iload C.1 C.2.1 dX10_code_109 (lv_at hl 1 rfl) ?_
                refine lv_iload C.1 C.2.1 dX10_code_111 (lv_at hl 0 rfl) ?_
                refine r_iconst 4 C dX10_code_113 rfl ?_
                refine r_divN C dX10_code_114 (by omega) (by decide) ?_
                refine lv_iload C.1 C.2.1 dX10_code_115 (lv_at hl 0 rfl) ?_
                refine r_iconst 4 C dX10_code_117 rfl ?_
                refine r_remN C dX10_code_118 (by omega) (by decide) ?_
                refine ro_callV (As := [nV i1, nV (i2 / 4), nV (i2 % 4)]) (rest := [nV (72 * i1), .ref mA16]) C hK (c_X10_become l g mo0 mA1 mA3 mA4 mA5 mA6 mA7 mA8 mA9 mA10 mA11 mA12 mA15 mA16 mA17 mA20 mL mAt kz dn mAb mBe mCl mtd bi mo i1 (i2 / 4) (i2 % 4) (by first | assumption | omega) (by first | assumption | omega) (by first | assumption | omega) (by first | assumption | omega) (by first | assumption | omega) (by first | assumption | omega)) (hP.sub (ws' := [(mo0, .inr (8, [nV mL, .ref mA1, nV mAt, .ref mA3, .ref mA4, .ref mA5, .ref mA6, .ref mA7, .ref mA8, .ref mA9, .ref mA10, .ref mA11, .ref mA12, nV kz, nV dn, .ref mA15, .ref mA16, .ref mA17, mV mAb, mV mBe, .ref mA20, zV mCl])), (mA3, cN g 4 mtd)]) [0, 1] rfl) (ci := 8) (q0 := 0) rfl rfl kc_X10_become kl_X10_127 kn_X10 ki_X10_become ke_X10_become nk_X10_become (rm_lt (by decide) (by decide)) hl rfl (Nat.le_of_ble_eq_true rfl) dX10_code_119 (fun r_31 hr_32 => ?_)
                subst hr_32
                have hf_33 := tn_bd (bi) (mo) (i1) ((i2 / 4)) ((i2 % 4)) (by omega)
                refine r_addN C dX10_code_122 ?_
                refine r_iconst 1 C dX10_code_123 rfl ?_
                refine r_top (v' := bV (true = true)) (congrArg Value.int (bI_1 rfl)) ?_
                refine r_astO (b := true) C hK hP hD hS 2 rfl ⟨by omega, by omega⟩ dX10_code_124 (fun H locs hP hD hS => ?_)
                have hP : va_P g.1 vwCl [(mo0, .inr (8, [nV mL, .ref mA1, nV mAt, .ref mA3, .ref mA4, .ref mA5, .ref mA6, .ref mA7, .ref mA8, .ref mA9, .ref mA10, .ref mA11, .ref mA12, nV kz, nV dn, .ref mA15, .ref mA16, .ref mA17, mV mAb, mV mBe, .ref mA20, zV mCl])), (mA3, cN g 4 mtd), (mA16, cO g 5184 (va_up rC ((72 * i1) + (tn bi mo i1 (i2 / 4) (i2 % 4))) true)), (mA17, cZ g 3 mbe)] H := hP
                have hD : va_D A [(mo0, .inr (8, [nV mL, .ref mA1, nV mAt, .ref mA3, .ref mA4, .ref mA5, .ref mA6, .ref mA7, .ref mA8, .ref mA9, .ref mA10, .ref mA11, .ref mA12, nV kz, nV dn, .ref mA15, .ref mA16, .ref mA17, mV mAb, mV mBe, .ref mA20, zV mCl])), (mA3, cN g 4 mtd), (mA16, cO g 5184 (va_up rC ((72 * i1) + (tn bi mo i1 (i2 / 4) (i2 % 4))) true)), (mA17, cZ g 3 mbe)] := hD
                refine r_incN (k := 0) (n := 1) [(6, nV (i2 + 1)), (5, nV i1), (0, .ref mo0), (1, nV 3), (2, nV yn), (3, nV wn), (4, zV z)] C dX10_code_125 hl rfl rfl (by decide) rfl (fun ls hl => ?_)
                refine r_goto 76 C dX10_code_128 rfl ?_
                exact ih_76 (i2 + 1) (va_up rC ((72 * i1) + (tn bi mo i1 (i2 / 4) (i2 % 4))) true) _ _ _ (by first | assumption | omega) (fun x t hx ht => by have hu : rq bi mo i1 yn wn t (i2 + 1) = (rq bi mo i1 yn wn t i2 || decide (tn bi mo i1 (i2 / 4) (i2 % 4) = t)) := (by show (_ || (decide (i2 / 4 ≤ yn ∧ i2 % 4 ≤ wn) && _)) = _; rw [decide_eq_true (show i2 / 4 ≤ yn ∧ i2 % 4 ≤ wn by omega), Bool.true_and]); by_cases q : 72 * x + t = 72 * i1 + tn bi mo i1 (i2 / 4) (i2 % 4); (rw [q, va_up_s, if_neg (by omega), if_pos (by omega), hu, decide_eq_true (show tn bi mo i1 (i2 / 4) (i2 % 4) = t by omega), Bool.or_true]); (rw [va_up_n q, hrC x t hx ht]; by_cases q3 : x = i1; (rw [if_neg (by omega), if_pos q3, if_neg (by omega), if_pos q3, hu, decide_eq_false (show ¬ tn bi mo i1 (i2 / 4) (i2 % 4) = t by intro q4; apply q; rw [q3, q4]), Bool.or_false]); (rw [if_neg q3, if_neg q3]))) (by omega) hP hD hS (lv_sub hl [0, 1, 2, 3, 4, 5, 6] rfl)
            exact L76 (84 - 0 + 1) 0 rB _ _ _ (by first | assumption | omega) (fun x t hx ht => by rw [hrB x t hx ht]; by_cases q : x < i1; (rw [if_pos q, if_pos q]); (rw [if_neg q, if_neg q]; split <;> rfl)) (Nat.lt_succ_self _) hP hD hS (lv_sub hl [0, 1, 2, 3, 4, 5, 6] rfl)
        exact L66 (72 - 0 + 1) 0 rA _ _ _ (by first | assumption | omega) (fun x t hx ht => by rw [if_neg (by omega)]; exact hrA _ (by omega)) (Nat.lt_succ_self _) hP hD hS (lv_sub hl [0, 1, 2, 3, 4, 5] rfl)
      refine lv_aload_n C.1 C.2.1 dX10_code_49 rfl (lv_at hl 1 rfl) ?_
      refine r_get C hK hP kw_X10 (ci := 8) rfl 0 16 (by decide) kf_X10_47 rfl rfl dX10_code_50 ?_
      refine lv_iload C.1 C.2.1 dX10_code_53 (lv_at hl 0 rfl) ?_
      refine r_iconst 0 C dX10_code_55 rfl ?_
      refine r_top (v' := bV (false = true)) (congrArg Value.int (bI_z (by decide))) ?_
      refine r_astO (b := false) C hK hP hD hS 2 rfl ⟨by omega, by omega⟩ dX10_code_56 (fun H locs hP hD hS => ?_)
      have hP : va_P g.1 vwCl [(mo0, .inr (8, [nV mL, .ref mA1, nV mAt, .ref mA3, .ref mA4, .ref mA5, .ref mA6, .ref mA7, .ref mA8, .ref mA9, .ref mA10, .ref mA11, .ref mA12, nV kz, nV dn, .ref mA15, .ref mA16, .ref mA17, mV mAb, mV mBe, .ref mA20, zV mCl])), (mA3, cN g 4 mtd), (mA16, cO g 5184 (va_up rA i0 false)), (mA17, cZ g 3 mbe)] H := hP
      have hD : va_D A [(mo0, .inr (8, [nV mL, .ref mA1, nV mAt, .ref mA3, .ref mA4, .ref mA5, .ref mA6, .ref mA7, .ref mA8, .ref mA9, .ref mA10, .ref mA11, .ref mA12, nV kz, nV dn, .ref mA15, .ref mA16, .ref mA17, mV mAb, mV mBe, .ref mA20, zV mCl])), (mA3, cN g 4 mtd), (mA16, cO g 5184 (va_up rA i0 false)), (mA17, cZ g 3 mbe)] := hD
      refine r_incN (k := 0) (n := 1) [(5, nV (i0 + 1)), (0, .ref mo0), (1, nV 3), (2, nV yn), (3, nV wn), (4, zV z)] C dX10_code_57 hl rfl rfl (by decide) rfl (fun ls hl => ?_)
      refine r_goto 41 C dX10_code_60 rfl ?_
      exact ih_41 (i0 + 1) (va_up rA i0 false) _ _ _ (by first | assumption | omega) (fun j hj => by by_cases q : j = i0; (rw [q, va_up_s]); (rw [va_up_n q]; exact hrA j (by omega))) (by omega) hP hD hS (lv_sub hl [0, 1, 2, 3, 4, 5] rfl)
  exact L41 (5184 - 0 + 1) 0 mre _ _ _ (by first | assumption | omega) (fun j hj => by omega) (Nat.lt_succ_self _) hP hD hS (lv_sub hl [0, 1, 2, 3, 4, 5] rfl)
set_option maxHeartbeats 4000000 in
set_option maxRecDepth 100000 in
theorem c_X10_code_no (l : Launch) (g : GG) (mo0 : Nat) (mA1 : Nat) (mA3 : Nat) (mA4 : Nat) (mA5 : Nat) (mA6 : Nat) (mA7 : Nat) (mA8 : Nat) (mA9 : Nat) (mA10 : Nat) (mA11 : Nat) (mA12 : Nat) (mA15 : Nat) (mA16 : Nat) (mA17 : Nat) (mA20 : Nat) (mL : Nat) (mAt : Nat) (kz : Nat) (dn : Nat) (mAb : Nat) (mBe : Nat) (mCl : Int) (x : Int) (y : Int) (w : Int) (z : Int) (hno : ¬ ((1 ≤ x ∧ x ≤ 3) ∧ ((0 ≤ y ∧ y ≤ 20) ∧ (0 ≤ w ∧ w ≤ 3)) ∧ (-1 ≤ z ∧ z ≤ x - 1))) (hx : rg x) (hy : rg y) (hw : rg w) (hz : rg z) : ROi g l yX10_code cX10_code 8 (some .int) 4 [(mo0, .inr (8, [nV mL, .ref mA1, nV mAt, .ref mA3, .ref mA4, .ref mA5, .ref mA6, .ref mA7, .ref mA8, .ref mA9, .ref mA10, .ref mA11, .ref mA12, nV kz, nV dn, .ref mA15, .ref mA16, .ref mA17, mV mAb, mV mBe, .ref mA20, zV mCl]))] [.ref mo0, zV x, zV y, zV w, zV z] (fun r => r = iI (-1)) := by
  refine ro_startI (by decide +kernel) (Nat.le_of_ble_eq_true rfl) ?_
  intro p e s m args below meth c Q ls C hK hP ret hl
  have C : CT p s m args meth c cX10_code RX10 8 := C
  have hl : lv_has ls 8 [(0, .ref mo0), (1, zV x), (2, zV y), (3, zV w), (4, zV z)] := hl
  refine lv_iload_n C.1 C.2.1 dX10_code_0 rfl (lv_at hl 1 rfl) ?_
  refine r_i2l C dX10_code_1 (⟨by omega, by omega⟩) ?_
  refine r_lconst 1 C dX10_code_2 rfl ?_
  refine r_ldc2N 3 C kv_X10_131 dX10_code_3 rfl ?_
  refine ro_callS (As := [jV x, mV 1, mV 3]) (rest := []) C hK (c_X10_in l g x ((1 : Nat) : Int) ((3 : Nat) : Int) (by first | assumption | exact ⟨by omega, by omega⟩) (by first | assumption | exact ⟨by omega, by omega⟩) (by first | assumption | exact ⟨by omega, by omega⟩)) (hP.sub (ws' := []) [] rfl) kc_X10_in kl_X10_65 kn_X10 ks_X10_in nk_X10_in (rm_lt (by decide) (by decide)) hl rfl (Nat.le_of_ble_eq_true rfl) dX10_code_6 (fun r_1 hr_2 => ?_)
  subst hr_2
  refine r_beq 36 C dX10_code_9 rfl (fun h_3 => ?_) (fun h_3 => ?_)
  · skip
    refine r_iconstZ C dX10_code_36 ?_
    exact ret dX10_code_37 (by first | rfl | exact iI_cast (by omega) | exact congrArg lI (by omega) | omega)
  refine lv_iload_n C.1 C.2.1 dX10_code_12 rfl (lv_at hl 2 rfl) ?_
  refine lv_iload_n C.1 C.2.1 dX10_code_13 rfl (lv_at hl 3 rfl) ?_
  refine ro_callS (As := [zV y, zV w]) (rest := []) C hK (c_X10_isSpan l g y w (by first | assumption | exact ⟨by omega, by omega⟩) (by first | assumption | exact ⟨by omega, by omega⟩)) (hP.sub (ws' := []) [] rfl) kc_X10_isSpan kl_X10_162 kn_X10 ks_X10_isSpan nk_X10_isSpan (rm_lt (by decide) (by decide)) hl rfl (Nat.le_of_ble_eq_true rfl) dX10_code_14 (fun r_4 hr_5 => ?_)
  subst hr_5
  refine r_beq 36 C dX10_code_17 rfl (fun h_6 => ?_) (fun h_6 => ?_)
  · skip
    refine r_iconstZ C dX10_code_36 ?_
    exact ret dX10_code_37 (by first | rfl | exact iI_cast (by omega) | exact congrArg lI (by omega) | omega)
  refine lv_iload C.1 C.2.1 dX10_code_20 (lv_at hl 4 rfl) ?_
  refine r_i2l C dX10_code_22 (⟨by omega, by omega⟩) ?_
  refine r_ldc2 (-1) C kv_X10_173 dX10_code_23 rfl ?_
  refine lv_iload_n C.1 C.2.1 dX10_code_26 rfl (lv_at hl 1 rfl) ?_
  refine r_iconst 1 C dX10_code_27 rfl ?_
  refine r_subZ C dX10_code_28 ?_
  refine r_i2l C dX10_code_29 (⟨by omega, by omega⟩) ?_
  refine ro_callS (As := [jV z, jV (-1), jV (x - ((1 : Nat) : Int))]) (rest := []) C hK (c_X10_in l g z (-1) (x - ((1 : Nat) : Int)) (by first | assumption | exact ⟨by omega, by omega⟩) (by first | assumption | exact ⟨by omega, by omega⟩) (by first | assumption | exact ⟨by omega, by omega⟩)) (hP.sub (ws' := []) [] rfl) kc_X10_in kl_X10_65 kn_X10 ks_X10_in nk_X10_in (rm_lt (by decide) (by decide)) hl rfl (Nat.le_of_ble_eq_true rfl) dX10_code_30 (fun r_7 hr_8 => ?_)
  subst hr_8
  refine r_bne 38 C dX10_code_33 rfl (fun h_9 => ?_) (fun h_9 => ?_)
  · exact absurd h_9 (by omega)
  refine r_iconstZ C dX10_code_36 ?_
  exact ret dX10_code_37 (by first | rfl | exact iI_cast (by omega) | exact congrArg lI (by omega) | omega)
