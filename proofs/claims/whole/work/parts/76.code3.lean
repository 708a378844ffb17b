set_option maxHeartbeats 4000000 in
set_option maxRecDepth 100000 in
theorem c_X10_code_3 (l : Launch) (g : GG) (mo0 : Nat) (mA1 : Nat) (mA3 : Nat) (mA4 : Nat) (mA5 : Nat) (mA6 : Nat) (mA7 : Nat) (mA8 : Nat) (mA9 : Nat) (mA10 : Nat) (mA11 : Nat) (mA12 : Nat) (mA15 : Nat) (mA16 : Nat) (mA17 : Nat) (mA20 : Nat) (mL : Nat) (mAt : Nat) (kz : Nat) (dn : Nat) (mAb : Nat) (mBe : Nat) (mCl : Int) (mtd : Nat → Nat) (mre : Nat → Bool) (mbe : Nat → Int) (bi : Nat) (mo : Nat) (yn : Nat) (wn : Nat) (z : Int) (hb0 : mtd 0 = bi) (hb1 : mtd 1 = mo) (hbm : (1 ≤ bi ∧ bi ≤ 9) ∧ (1 ≤ mo ∧ mo ≤ 9)) (hy : yn ≤ 20) (hw : wn ≤ 3) (hz : -1 ≤ z ∧ z ≤ 2) : WRi g l yX10_code cX10_code 8 (some .int) 4 [(mo0, .inr (8, [nV mL, .ref mA1, nV mAt, .ref mA3, .ref mA4, .ref mA5, .ref mA6, .ref mA7, .ref mA8, .ref mA9, .ref mA10, .ref mA11, .ref mA12, nV kz, nV dn, .ref mA15, .ref mA16, .ref mA17, mV mAb, mV mBe, .ref mA20, zV mCl])), (mA3, cN g 4 mtd), (mA16, cO g 5184 mre), (mA17, cZ g 3 mbe)] [.ref mo0, nV 3, nV yn, nV wn, zV z] (fun r (uq_ : Int × (Nat → Bool) × (Nat → Int)) => match uq_ with | (cl1, re1, be1) => r = iI (if (mnS (fun y1 t => rc bi mo y1 wn t (yn + 1)) 3).1 < 0 ∨ z < 0 then (mnS (fun y1 t => rc bi mo y1 wn t (yn + 1)) 3).1 else (((mnS (fun y1 t => rc bi mo y1 wn t (yn + 1)) 3).2 z.toNat : Nat) : Int))) (fun (uq_ : Int × (Nat → Bool) × (Nat → Int)) => match uq_ with | (cl1, re1, be1) => [(mo0, .inr (8, [nV mL, .ref mA1, nV mAt, .ref mA3, .ref mA4, .ref mA5, .ref mA6, .ref mA7, .ref mA8, .ref mA9, .ref mA10, .ref mA11, .ref mA12, nV kz, nV dn, .ref mA15, .ref mA16, .ref mA17, mV mAb, mV mBe, .ref mA20, zV cl1])), (mA3, cN g 4 mtd), (mA16, cO g 5184 re1), (mA17, cZ g 3 be1)]) := by
  refine wr_startI (by decide +kernel) (Nat.le_of_ble_eq_true rfl) ?_
  intro p e s m args below meth c Q A ls C hK hA ret hP hD hS hl
  have C : CT p s m args meth c cX10_code RX10 8 := C
  have hl : lv_has ls 8 [(0, .ref mo0), (1, nV 3), (2, nV yn), (3, nV wn), (4, zV z)] := hl
  refine lv_iload_n C.1 C.2.1 dX10_code_0 rfl (lv_at hl 1 rfl) ?_
  refine r_i2l C dX10_code_1 (rgN (by decide)) ?_
  refine r_lconst 1 C dX10_code_2 rfl ?_
  refine r_ldc2N 3 C kv_X10_131 dX10_code_3 rfl ?_
  refine ro_callS (As := [mV 3, mV 1, mV 3]) (rest := []) C hK (c_X10_in l g ((3 : Nat) : Int) ((1 : Nat) : Int) ((3 : Nat) : Int) (by first | assumption | exact ⟨by omega, by omega⟩) (by first | assumption | exact ⟨by omega, by omega⟩) (by first | assumption | exact ⟨by omega, by omega⟩)) (hP.sub (ws' := []) [] rfl) kc_X10_in kl_X10_65 kn_X10 ks_X10_in nk_X10_in (rm_lt (by decide) (by decide)) hl rfl (Nat.le_of_ble_eq_true rfl) dX10_code_6 (fun r_1 hr_2 => ?_)
  subst hr_2
  refine r_beq 36 C dX10_code_9 rfl (fun h_3 => ?_) (fun h_3 => ?_)
  · exact absurd h_3 (by omega)
  refine lv_iload_n C.1 C.2.1 dX10_code_12 rfl (lv_at hl 2 rfl) ?_
  refine lv_iload_n C.1 C.2.1 dX10_code_13 rfl (lv_at hl 3 rfl) ?_
  refine ro_callS (As := [nV yn, nV wn]) (rest := []) C hK (c_X10_isSpan l g ((yn : Nat) : Int) ((wn : Nat) : Int) (by first | assumption | exact ⟨by omega, by omega⟩) (by first | assumption | exact ⟨by omega, by omega⟩)) (hP.sub (ws' := []) [] rfl) kc_X10_isSpan kl_X10_162 kn_X10 ks_X10_isSpan nk_X10_isSpan (rm_lt (by decide) (by decide)) hl rfl (Nat.le_of_ble_eq_true rfl) dX10_code_14 (fun r_4 hr_5 => ?_)
  subst hr_5
  refine r_beq 36 C dX10_code_17 rfl (fun h_6 => ?_) (fun h_6 => ?_)
  · exact absurd h_6 (by omega)
  refine lv_iload C.1 C.2.1 dX10_code_20 (lv_at hl 4 rfl) ?_
  refine r_i2l C dX10_code_22 (⟨by omega, by omega⟩) ?_
  refine r_ldc2 (-1) C kv_X10_173 dX10_code_23 rfl ?_
  refine lv_iload_n C.1 C.2.1 dX10_code_26 rfl (lv_at hl 1 rfl) ?_
  refine r_iconst 1 C dX10_code_27 rfl ?_
  refine r_subZ C dX10_code_28 ?_
  refine r_i2l C dX10_code_29 (⟨by omega, by omega⟩) ?_
  refine ro_callS (As := [jV z, jV (-1), jV (((3 : Nat) : Int) - ((1 : Nat) : Int))]) (rest := []) C hK (c_X10_in l g z (-1) (((3 : Nat) : Int) - ((1 : Nat) : Int)) (by first | assumption | exact ⟨by omega, by omega⟩) (by first | assumption | exact ⟨by omega, by omega⟩) (by first | assumption | exact ⟨by omega, by omega⟩)) (hP.sub (ws' := []) [] rfl) kc_X10_in kl_X10_65 kn_X10 ks_X10_in nk_X10_in (rm_lt (by decide) (by decide)) hl rfl (Nat.le_of_ble_eq_true rfl) dX10_code_30 (fun r_7 hr_8 => ?_)
  subst hr_8
  refine r_bne 38 C dX10_code_33 rfl (fun h_9 => ?_) (fun h_9 => ?_)
  rotate_left
  · exact absurd h_9 (by omega)
  refine r_iconst 0 C dX10_code_38 rfl ?_
  refine lv_istore (lv' := [(5, nV 0), (0, .ref mo0), (1, nV 3), (2, nV yn), (3, nV wn), (4, zV z)]) C.1 C.2.1 dX10_code_39 hl (by decide) rfl (fun ls hl => ?_)
  have L41 : ∀ (n_41 : Nat) (i0 : Nat) (rA : Nat → Bool) (H : Heap) (locs : List Loc) (ls : Array Slot) (hi0 : i0 ≤ 5184) (hrA : ∀ j, j < i0 → rA j = false) (hm : 5184 - i0 < n_41) (hP : va_P g.1 vwCl [(mo0, .inr (8, [nV mL, .ref mA1, nV mAt, .ref mA3, .ref mA4, .ref mA5, .ref mA6, .ref mA7, .ref mA8, .ref mA9, .ref mA10, .ref mA11, .ref mA12, nV kz, nV dn, .ref mA15, .ref mA16, .ref mA17, mV mAb, mV mBe, .ref mA20, zV mCl])), (mA3, cN g 4 mtd), (mA16, cO g 5184 rA), (mA17, cZ g 3 mbe)] H) (hD : va_D A [(mo0, .inr (8, [nV mL, .ref mA1, nV mAt, .ref mA3, .ref mA4, .ref mA5, .ref mA6, .ref mA7, .ref mA8, .ref mA9, .ref mA10, .ref mA11, .ref mA12, nV kz, nV dn, .ref mA15, .ref mA16, .ref mA17, mV mAb, mV mBe, .ref mA20, zV mCl])), (mA3, cN g 4 mtd), (mA16, cO g 5184 rA), (mA17, cZ g 3 mbe)]) (hS : va_S A s.heap H locs) (hl : lv_has ls 8 [(5, nV i0), (0, .ref mo0), (1, nV 3), (2, nV yn), (3, nV wn), (4, zV z)]), W p l e (rD 4) s m args below meth c H locs 0 0 Q (F0 m 41 ls []) := by
    intro n_41
    induction n_41 with
    | zero => intro i0 rA H locs ls hi0 hrA hm hP hD hS hl; exact absurd hm (Nat.not_lt_zero _)
    | succ n_41 ih_41 =>
      intro i0 rA H locs ls hi0 hrA hm hP hD hS hl
      refine lv_iload C.1 C.2.1 dX10_code_41 (lv_at hl 0 rfl) ?_
      refine r_sipush 5184 C dX10_code_43 (by decide) ?_
      refine r_cge 63 C dX10_code_46 rfl ⟨rgN (by omega), rgN (by decide)⟩ (fun h_10 => ?_) (fun h_10 => ?_)
      · skip
        refine r_iconst 0 C dX10_code_63 rfl ?_
        refine lv_istore (lv' := [(5, nV 0), (0, .ref mo0), (1, nV 3), (2, nV yn), (3, nV wn), (4, zV z)]) C.1 C.2.1 dX10_code_64 hl (by decide) rfl (fun ls hl => ?_)
        have L66 : ∀ (n_66 : Nat) (i1 : Nat) (rB : Nat → Bool) (H : Heap) (locs : List Loc) (ls : Array Slot) (hi1 : i1 ≤ 72) (hrB : FC (fun y1 t => rc bi mo y1 wn t (yn + 1)) bi mo yn wn i1 0 rB) (hm : 72 - i1 < n_66) (hP : va_P g.1 vwCl [(mo0, .inr (8, [nV mL, .ref mA1, nV mAt, .ref mA3, .ref mA4, .ref mA5, .ref mA6, .ref mA7, .ref mA8, .ref mA9, .ref mA10, .ref mA11, .ref mA12, nV kz, nV dn, .ref mA15, .ref mA16, .ref mA17, mV mAb, mV mBe, .ref mA20, zV mCl])), (mA3, cN g 4 mtd), (mA16, cO g 5184 rB), (mA17, cZ g 3 mbe)] H) (hD : va_D A [(mo0, .inr (8, [nV mL, .ref mA1, nV mAt, .ref mA3, .ref mA4, .ref mA5, .ref mA6, .ref mA7, .ref mA8, .ref mA9, .ref mA10, .ref mA11, .ref mA12, nV kz, nV dn, .ref mA15, .ref mA16, .ref mA17, mV mAb, mV mBe, .ref mA20, zV mCl])), (mA3, cN g 4 mtd), (mA16, cO g 5184 rB), (mA17, cZ g 3 mbe)]) (hS : va_S A s.heap H locs) (hl : lv_has ls 8 [(5, nV i1), (0, .ref mo0), (1, nV 3), (2, nV yn), (3, nV wn), (4, zV z)]), W p l e (rD 4) s m args below meth c H locs 0 0 Q (F0 m 66 ls []) := by
          intro n_66
          induction n_66 with
          | zero => intro i1 rB H locs ls hi1 hrB hm hP hD hS hl; exact absurd hm (Nat.not_lt_zero _)
          | succ n_66 ih_66 =>
            intro i1 rB H locs ls hi1 hrB hm hP hD hS hl
            refine lv_iload C.1 C.2.1 dX10_code_66 (lv_at hl 0 rfl) ?_
            refine r_bipush 72 C dX10_code_68 (by decide) ?_
            refine r_cge 137 C dX10_code_70 rfl ⟨rgN (by omega), rgN (by decide)⟩ (fun h_11 => ?_) (fun h_11 => ?_)
            · skip
              have hre : ∀ x t, x < 72 → t < 72 → rB (72 * x + t) = (fun y1 t => rc bi mo y1 wn t (yn + 1)) x t := FC_end (d := yn) (b := wn) (B := bi) (M := mo) (by rw [show (72 : Nat) = i1 by omega]; exact hrB)
              refine lv_aload_n C.1 C.2.1 dX10_code_137 rfl (lv_at hl 1 rfl) ?_
              refine r_bipushZ C dX10_code_138 (by decide) ?_
              refine r_put (v := zV (-4)) C hK hP hD hS kw_X10 tyX10_ok nmX10 (ci := 8) rfl 0 21 (by decide) kf_X10_170 rfl rfl rfl rfl rfl (Nat.le_of_ble_eq_true rfl) dX10_code_140 (fun H locs hP hD hS => ?_)
              have hP : va_P g.1 vwCl [(mo0, .inr (8, [nV mL, .ref mA1, nV mAt, .ref mA3, .ref mA4, .ref mA5, .ref mA6, .ref mA7, .ref mA8, .ref mA9, .ref mA10, .ref mA11, .ref mA12, nV kz, nV dn, .ref mA15, .ref mA16, .ref mA17, mV mAb, mV mBe, .ref mA20, zV (-4)])), (mA3, cN g 4 mtd), (mA16, cO g 5184 rB), (mA17, cZ g 3 mbe)] H := hP
              have hD : va_D A [(mo0, .inr (8, [nV mL, .ref mA1, nV mAt, .ref mA3, .ref mA4, .ref mA5, .ref mA6, .ref mA7, .ref mA8, .ref mA9, .ref mA10, .ref mA11, .ref mA12, nV kz, nV dn, .ref mA15, .ref mA16, .ref mA17, mV mAb, mV mBe, .ref mA20, zV (-4)])), (mA3, cN g 4 mtd), (mA16, cO g 5184 rB), (mA17, cZ g 3 mbe)] := hD
              refine r_iconst 0 C dX10_code_143 rfl ?_
              refine lv_istore (lv' := [(5, nV 0), (0, .ref mo0), (1, nV 3), (2, nV yn), (3, nV wn), (4, zV z)]) C.1 C.2.1 dX10_code_144 hl (by decide) rfl (fun ls hl => ?_)
              have L146 : ∀ (n_146 : Nat) (i : Nat) (msA : MS) (clA : Int) (beA : Nat → Int) (H : Heap) (locs : List Loc) (ls : Array Slot) (hi : i ≤ 72) (hE : msA = (mEn (fun y1 t => rc bi mo y1 wn t (yn + 1)) 2 0 0 0 c0 i ms0)) (hM : MR 3 clA beA msA) (hm : 72 - i < n_146) (hP : va_P g.1 vwCl [(mo0, .inr (8, [nV mL, .ref mA1, nV mAt, .ref mA3, .ref mA4, .ref mA5, .ref mA6, .ref mA7, .ref mA8, .ref mA9, .ref mA10, .ref mA11, .ref mA12, nV kz, nV dn, .ref mA15, .ref mA16, .ref mA17, mV mAb, mV mBe, .ref mA20, zV clA])), (mA3, cN g 4 mtd), (mA16, cO g 5184 rB), (mA17, cZ g 3 beA)] H) (hD : va_D A [(mo0, .inr (8, [nV mL, .ref mA1, nV mAt, .ref mA3, .ref mA4, .ref mA5, .ref mA6, .ref mA7, .ref mA8, .ref mA9, .ref mA10, .ref mA11, .ref mA12, nV kz, nV dn, .ref mA15, .ref mA16, .ref mA17, mV mAb, mV mBe, .ref mA20, zV clA])), (mA3, cN g 4 mtd), (mA16, cO g 5184 rB), (mA17, cZ g 3 beA)]) (hS : va_S A s.heap H locs) (hl : lv_has ls 8 [(5, nV i), (0, .ref mo0), (1, nV 3), (2, nV yn), (3, nV wn), (4, zV z)]), W p l e (rD 4) s m args below meth c H locs 0 0 Q (F0 m 146 ls []) := by
                intro n_146
                induction n_146 with
                | zero => intro i msA clA beA H locs ls hi hE hM hm hP hD hS hl; exact absurd hm (Nat.not_lt_zero _)
                | succ n_146 ih_146 =>
                  intro i msA clA beA H locs ls hi hE hM hm hP hD hS hl
                  refine lv_iload C.1 C.2.1 dX10_code_146 (lv_at hl 0 rfl) ?_
                  refine r_bipush 72 C dX10_code_148 (by decide) ?_
                  refine r_cge 277 C dX10_code_150 rfl ⟨rgN (by omega), rgN (by decide)⟩ (fun h_12 => ?_) (fun h_12 => ?_)
                  · skip
                    rw [show i = 72 by omega] at hE
                    rw [hE] at hM
                    have hM2 : MR 3 clA beA (mnS (fun y1 t => rc bi mo y1 wn t (yn + 1)) 3) := by rw [mnS_3]; exact hM
                    have k3 := hM2.2.2
                    refine lv_aload_n C.1 C.2.1 dX10_code_277 rfl (lv_at hl 1 rfl) ?_
                    refine r_get C hK hP kw_X10 (ci := 8) rfl 0 21 (by decide) kf_X10_170 rfl rfl dX10_code_278 ?_
                    refine r_ilt 289 C dX10_code_281 rfl (⟨by omega, by omega⟩) (fun g1 => ?_) (fun g1 => ?_)
                    · skip
                      refine lv_aload_n C.1 C.2.1 dX10_code_289 rfl (lv_at hl 1 rfl) ?_
                      refine r_get C hK hP kw_X10 (ci := 8) rfl 0 21 (by decide) kf_X10_170 rfl rfl dX10_code_290 ?_
                      refine r_goto 303 C dX10_code_293 rfl ?_
                      exact ret ((clA, rB, beA)) dX10_code_303 hS hP (cod_r1 hM2 (by omega))
                    refine lv_iload C.1 C.2.1 dX10_code_284 (lv_at hl 5 rfl) ?_
                    refine r_ige 296 C dX10_code_286 rfl (⟨by omega, by omega⟩) (fun g2 => ?_) (fun g2 => ?_)
                    · skip
                      obtain ⟨zn, rfl⟩ : ∃ n : Nat, z = (n : Int) := ⟨z.toNat, by omega⟩
                      have hl : lv_has ls 8 [(5, nV i), (0, .ref mo0), (1, nV 3), (2, nV yn), (3, nV wn), (4, nV zn)] := hl
                      refine lv_aload_n C.1 C.2.1 dX10_code_296 rfl (lv_at hl 1 rfl) ?_
                      refine r_get C hK hP kw_X10 (ci := 8) rfl 0 17 (by decide) kf_X10_51 rfl rfl dX10_code_297 ?_
                      refine lv_iload C.1 C.2.1 dX10_code_300 (lv_at hl 5 rfl) ?_
                      refine r_aldZ C hK hP 3 rfl ⟨by omega, by omega⟩ dX10_code_302 ?_
                      exact ret ((clA, rB, beA)) dX10_code_303 hS hP (cod_r2 hM2 (by omega) (by omega))
                    refine lv_aload_n C.1 C.2.1 dX10_code_289 rfl (lv_at hl 1 rfl) ?_
                    refine r_get C hK hP kw_X10 (ci := 8) rfl 0 21 (by decide) kf_X10_170 rfl rfl dX10_code_290 ?_
                    refine r_goto 303 C dX10_code_293 rfl ?_
                    exact ret ((clA, rB, beA)) dX10_code_303 hS hP (cod_r1 hM2 (by omega))
                  refine lv_iload_n C.1 C.2.1 dX10_code_153 rfl (lv_at hl 2 rfl) ?_
                  refine r_iconst 1 C dX10_code_154 rfl ?_
                  refine r_cne 166 C dX10_code_155 rfl ⟨rgN (by decide), rgN (by decide)⟩ (fun h_13 => ?_) (fun h_13 => ?_)
                  rotate_left
                  · exact absurd h_13 (by omega)
                  refine lv_iload C.1 C.2.1 dX10_code_166 (lv_at hl 0 rfl) ?_
                  refine r_iconst 1 C dX10_code_168 rfl ?_
                  refine r_addN C dX10_code_169 ?_
                  refine lv_istore (lv' := [(6, nV (i + 1)), (5, nV i), (0, .ref mo0), (1, nV 3), (2, nV yn), (3, nV wn), (4, zV z)]) C.1 C.2.1 dX10_code_170 hl (by decide) rfl (fun ls hl => ?_)
                  have L172 : ∀ (n_172 : Nat) (j : Nat) (msB : MS) (clB : Int) (beB : Nat → Int) (H : Heap) (locs : List Loc) (ls : Array Slot) (hj : i + 1 + j ≤ 72) (hF : msB = (mEn (fun y1 t => rc bi mo y1 wn t (yn + 1)) 1 1 (i + 1) (fl i) (upN c0 0 i) j msA)) (hN : MR 3 clB beB msB) (hm : 72 - (i + 1 + j) < n_172) (hP : va_P g.1 vwCl [(mo0, .inr (8, [nV mL, .ref mA1, nV mAt, .ref mA3, .ref mA4, .ref mA5, .ref mA6, .ref mA7, .ref mA8, .ref mA9, .ref mA10, .ref mA11, .ref mA12, nV kz, nV dn, .ref mA15, .ref mA16, .ref mA17, mV mAb, mV mBe, .ref mA20, zV clB])), (mA3, cN g 4 mtd), (mA16, cO g 5184 rB), (mA17, cZ g 3 beB)] H) (hD : va_D A [(mo0, .inr (8, [nV mL, .ref mA1, nV mAt, .ref mA3, .ref mA4, .ref mA5, .ref mA6, .ref mA7, .ref mA8, .ref mA9, .ref mA10, .ref mA11, .ref mA12, nV kz, nV dn, .ref mA15, .ref mA16, .ref mA17, mV mAb, mV mBe, .ref mA20, zV clB])), (mA3, cN g 4 mtd), (mA16, cO g 5184 rB), (mA17, cZ g 3 beB)]) (hS : va_S A s.heap H locs) (hl : lv_has ls 8 [(6, nV (i + 1 + j)), (5, nV i), (0, .ref mo0), (1, nV 3), (2, nV yn), (3, nV wn), (4, zV z)]), W p l e (rD 4) s m args below meth c H locs 0 0 Q (F0 m 172 ls []) := by
                    intro n_172
                    induction n_172 with
                    | zero => intro j msB clB beB H locs ls hj hF hN hm hP hD hS hl; exact absurd hm (Nat.not_lt_zero _)
                    | succ n_172 ih_172 =>
                      intro j msB clB beB H locs ls hj hF hN hm hP hD hS hl
                      refine lv_iload C.1 C.2.1 dX10_code_172 (lv_at hl 0 rfl) ?_
                      refine r_bipush 72 C dX10_code_174 (by decide) ?_
                      refine r_cge 271 C dX10_code_176 rfl ⟨rgN (by omega), rgN (by decide)⟩ (fun h_14 => ?_) (fun h_14 => ?_)
                      · skip
                        refine r_incN (k := 1) (n := 1) [(5, nV (i + 1)), (6, nV (i + 1 + j)), (0, .ref mo0), (1, nV 3), (2, nV yn), (3, nV wn), (4, zV z)] C dX10_code_271 hl rfl rfl (by decide) rfl (fun ls hl => ?_)
                        refine r_goto 146 C dX10_code_274 rfl ?_
                        exact ih_146 (i + 1) msB clB beB _ _ _ (by first | assumption | omega) (by rw [mEn_x, ← hE, show 72 - (i + 1) = j by omega]; exact hF) (hN) (by omega) hP hD hS (lv_sub hl [0, 2, 3, 4, 5, 6] rfl)
                      refine lv_iload_n C.1 C.2.1 dX10_code_179 rfl (lv_at hl 3 rfl) ?_
                      refine r_iconst 1 C dX10_code_180 rfl ?_
                      refine r_cle 271 C dX10_code_181 rfl ⟨rgN (by decide), rgN (by decide)⟩ (fun h_15 => ?_) (fun h_15 => ?_)
                      · exact absurd h_15 (by omega)
                      refine lv_aload_n C.1 C.2.1 dX10_code_184 rfl (lv_at hl 2 rfl) ?_
                      refine lv_iload C.1 C.2.1 dX10_code_185 (lv_at hl 1 rfl) ?_
                      refine lv_iload C.1 C.2.1 dX10_code_187 (lv_at hl 0 rfl) ?_
                      refine ro_callV (As := [nV i, nV (i + 1 + j)]) (rest := []) C hK (c_X10_isApart l g mo0 mA1 mA3 mA4 mA5 mA6 mA7 mA8 mA9 mA10 mA11 mA12 mA15 mA16 mA17 mA20 mL mAt kz dn mAb mBe clB rB (fun y1 t => rc bi mo y1 wn t (yn + 1)) i (i + 1 + j) (hre) (by first | assumption | omega) (by first | assumption | omega)) (hP.sub (ws' := [(mo0, .inr (8, [nV mL, .ref mA1, nV mAt, .ref mA3, .ref mA4, .ref mA5, .ref mA6, .ref mA7, .ref mA8, .ref mA9, .ref mA10, .ref mA11, .ref mA12, nV kz, nV dn, .ref mA15, .ref mA16, .ref mA17, mV mAb, mV mBe, .ref mA20, zV clB])), (mA16, cO g 5184 rB)]) [0, 2] rfl) (ci := 8) (q0 := 0) rfl rfl kc_X10_isApart kl_X10_179 kn_X10 ki_X10_isApart ke_X10_isApart nk_X10_isApart (rm_lt (by decide) (by decide)) hl rfl (Nat.le_of_ble_eq_true rfl) dX10_code_189 (fun r_16 hr_17 => ?_)
                      subst hr_17
                      refine r_beq 265 C dX10_code_192 rfl (fun ga => ?_) (fun ga => ?_)
                      · skip
                        refine r_incN (k := 0) (n := 1) [(6, nV (i + 1 + j + 1)), (5, nV i), (0, .ref mo0), (1, nV 3), (2, nV yn), (3, nV wn), (4, zV z)] C dX10_code_265 hl rfl rfl (by decide) rfl (fun ls hl => ?_)
                        refine r_goto 172 C dX10_code_268 rfl ?_
                        exact ih_172 (j + 1) msB clB beB _ _ _ (by first | assumption | omega) (by rw [mEn_no (fun q => ga ((ap_1 (S := fun y1 t => rc bi mo y1 wn t (yn + 1)) (x := i) (y := i + 1 + j)).mp q))]; exact hF) (hN) (by omega) hP hD hS (lv_sub hl [0, 1, 2, 3, 4, 5, 6] rfl)
                      refine lv_iload_n C.1 C.2.1 dX10_code_195 rfl (lv_at hl 3 rfl) ?_
                      refine r_iconst 2 C dX10_code_196 rfl ?_
                      refine r_cne 209 C dX10_code_197 rfl ⟨rgN (by decide), rgN (by decide)⟩ (fun h_18 => ?_) (fun h_18 => ?_)
                      rotate_left
                      · exact absurd h_18 (by omega)
                      refine lv_iload C.1 C.2.1 dX10_code_209 (lv_at hl 0 rfl) ?_
                      refine r_iconst 1 C dX10_code_211 rfl ?_
                      refine r_addN C dX10_code_212 ?_
                      refine lv_istore (lv' := [(7, nV ((i + 1 + j) + 1)), (6, nV (i + 1 + j)), (5, nV i), (0, .ref mo0), (1, nV 3), (2, nV yn), (3, nV wn), (4, zV z)]) C.1 C.2.1 dX10_code_213 hl (by decide) rfl (fun ls hl => ?_)
                      have L215 : ∀ (n_215 : Nat) (h : Nat) (msC : MS) (clC : Int) (beC : Nat → Int) (H : Heap) (locs : List Loc) (ls : Array Slot) (hh : i + 1 + j + 1 + h ≤ 72) (hG : msC = (mEn (fun y1 t => rc bi mo y1 wn t (yn + 1)) 0 2 (i + 1 + j + 1) (fl i + fl (i + 1 + j)) (upN (upN c0 0 i) 1 (i + 1 + j)) h msB)) (hO : MR 3 clC beC msC) (hm : 72 - (i + 1 + j + 1 + h) < n_215) (hP : va_P g.1 vwCl [(mo0, .inr (8, [nV mL, .ref mA1, nV mAt, .ref mA3, .ref mA4, .ref mA5, .ref mA6, .ref mA7, .ref mA8, .ref mA9, .ref mA10, .ref mA11, .ref mA12, nV kz, nV dn, .ref mA15, .ref mA16, .ref mA17, mV mAb, mV mBe, .ref mA20, zV clC])), (mA3, cN g 4 mtd), (mA16, cO g 5184 rB), (mA17, cZ g 3 beC)] H) (hD : va_D A [(mo0, .inr (8, [nV mL, .ref mA1, nV mAt, .ref mA3, .ref mA4, .ref mA5, .ref mA6, .ref mA7, .ref mA8, .ref mA9, .ref mA10, .ref mA11, .ref mA12, nV kz, nV dn, .ref mA15, .ref mA16, .ref mA17, mV mAb, mV mBe, .ref mA20, zV clC])), (mA3, cN g 4 mtd), (mA16, cO g 5184 rB), (mA17, cZ g 3 beC)]) (hS : va_S A s.heap H locs) (hl : lv_has ls 8 [(7, nV (i + 1 + j + 1 + h)), (6, nV (i + 1 + j)), (5, nV i), (0, .ref mo0), (1, nV 3), (2, nV yn), (3, nV wn), (4, zV z)]), W p l e (rD 4) s m args below meth c H locs 0 0 Q (F0 m 215 ls []) := by
                        intro n_215
                        induction n_215 with
                        | zero => intro h msC clC beC H locs ls hh hG hO hm hP hD hS hl; exact absurd hm (Nat.not_lt_zero _)
                        | succ n_215 ih_215 =>
                          intro h msC clC beC H locs ls hh hG hO hm hP hD hS hl
                          refine lv_iload C.1 C.2.1 dX10_code_215 (lv_at hl 0 rfl) ?_
                          refine r_bipush 72 C dX10_code_217 (by decide) ?_
                          refine r_cge 265 C dX10_code_219 rfl ⟨rgN (by omega), rgN (by decide)⟩ (fun h_19 => ?_) (fun h_19 => ?_)
                          · skip
                            refine r_incN (k := 1) (n := 1) [(6, nV (i + 1 + j + 1)), (7, nV (i + 1 + j + 1 + h)), (5, nV i), (0, .ref mo0), (1, nV 3), (2, nV yn), (3, nV wn), (4, zV z)] C dX10_code_265 hl rfl rfl (by decide) rfl (fun ls hl => ?_)
                            refine r_goto 172 C dX10_code_268 rfl ?_
                            exact ih_172 (j + 1) msC clC beC _ _ _ (by first | assumption | omega) (by rw [mEn_go ((ap_1 (S := fun y1 t => rc bi mo y1 wn t (yn + 1)) (x := i) (y := i + 1 + j)).mpr ga), men_mEn, ← hF, show 72 - (i + 1 + j + 1) = h by omega]; exact hG) (hO) (by omega) hP hD hS (lv_sub hl [0, 2, 3, 4, 5, 6, 7] rfl)
                          refine lv_iload_n C.1 C.2.1 dX10_code_222 rfl (lv_at hl 4 rfl) ?_
                          refine r_iconst 2 C dX10_code_223 rfl ?_
                          refine r_cle 265 C dX10_code_224 rfl ⟨rgN (by decide), rgN (by decide)⟩ (fun h_20 => ?_) (fun h_20 => ?_)
                          · exact absurd h_20 (by omega)
                          refine lv_aload_n C.1 C.2.1 dX10_code_227 rfl (lv_at hl 3 rfl) ?_
                          refine lv_iload C.1 C.2.1 dX10_code_228 (lv_at hl 2 rfl) ?_
                          refine lv_iload C.1 C.2.1 dX10_code_230 (lv_at hl 0 rfl) ?_
                          refine ro_callV (As := [nV i, nV (i + 1 + j + 1 + h)]) (rest := []) C hK (c_X10_isApart l g mo0 mA1 mA3 mA4 mA5 mA6 mA7 mA8 mA9 mA10 mA11 mA12 mA15 mA16 mA17 mA20 mL mAt kz dn mAb mBe clC rB (fun y1 t => rc bi mo y1 wn t (yn + 1)) i (i + 1 + j + 1 + h) (hre) (by first | assumption | omega) (by first | assumption | omega)) (hP.sub (ws' := [(mo0, .inr (8, [nV mL, .ref mA1, nV mAt, .ref mA3, .ref mA4, .ref mA5, .ref mA6, .ref mA7, .ref mA8, .ref mA9, .ref mA10, .ref mA11, .ref mA12, nV kz, nV dn, .ref mA15, .ref mA16, .ref mA17, mV mAb, mV mBe, .ref mA20, zV clC])), (mA16, cO g 5184 rB)]) [0, 2] rfl) (ci := 8) (q0 := 0) rfl rfl kc_X10_isApart kl_X10_179 kn_X10 ki_X10_isApart ke_X10_isApart nk_X10_isApart (rm_lt (by decide) (by decide)) hl rfl (Nat.le_of_ble_eq_true rfl) dX10_code_232 (fun r_21 hr_22 => ?_)
                          subst hr_22
                          refine r_beq 259 C dX10_code_235 rfl (fun gb1 => ?_) (fun gb1 => ?_)
                          · skip
                            refine r_incN (k := 0) (n := 1) [(7, nV (i + 1 + j + 1 + h + 1)), (6, nV (i + 1 + j)), (5, nV i), (0, .ref mo0), (1, nV 3), (2, nV yn), (3, nV wn), (4, zV z)] C dX10_code_259 hl rfl rfl (by decide) rfl (fun ls hl => ?_)
                            refine r_goto 215 C dX10_code_262 rfl ?_
                            exact ih_215 (h + 1) msC clC beC _ _ _ (by first | assumption | omega) (by rw [mEn_no (fun q => gb1 ((ap_2 (S := fun y1 t => rc bi mo y1 wn t (yn + 1)) (x := i) (y := i + 1 + j) (z := i + 1 + j + 1 + h)).mp q).1)]; exact hG) (hO) (by omega) hP hD hS (lv_sub hl [0, 1, 2, 3, 4, 5, 6, 7] rfl)
                          refine lv_aload_n C.1 C.2.1 dX10_code_238 rfl (lv_at hl 3 rfl) ?_
                          refine lv_iload C.1 C.2.1 dX10_code_239 (lv_at hl 1 rfl) ?_
                          refine lv_iload C.1 C.2.1 dX10_code_241 (lv_at hl 0 rfl) ?_
                          refine ro_callV (As := [nV (i + 1 + j), nV (i + 1 + j + 1 + h)]) (rest := []) C hK (c_X10_isApart l g mo0 mA1 mA3 mA4 mA5 mA6 mA7 mA8 mA9 mA10 mA11 mA12 mA15 mA16 mA17 mA20 mL mAt kz dn mAb mBe clC rB (fun y1 t => rc bi mo y1 wn t (yn + 1)) (i + 1 + j) (i + 1 + j + 1 + h) (hre) (by first | assumption | omega) (by first | assumption | omega)) (hP.sub (ws' := [(mo0, .inr (8, [nV mL, .ref mA1, nV mAt, .ref mA3, .ref mA4, .ref mA5, .ref mA6, .ref mA7, .ref mA8, .ref mA9, .ref mA10, .ref mA11, .ref mA12, nV kz, nV dn, .ref mA15, .ref mA16, .ref mA17, mV mAb, mV mBe, .ref mA20, zV clC])), (mA16, cO g 5184 rB)]) [0, 2] rfl) (ci := 8) (q0 := 0) rfl rfl kc_X10_isApart kl_X10_179 kn_X10 ki_X10_isApart ke_X10_isApart nk_X10_isApart (rm_lt (by decide) (by decide)) hl rfl (Nat.le_of_ble_eq_true rfl) dX10_code_243 (fun r_23 hr_24 => ?_)
                          subst hr_24
                          refine r_beq 259 C dX10_code_246 rfl (fun gb2 => ?_) (fun gb2 => ?_)
                          · skip
                            refine r_incN (k := 0) (n := 1) [(7, nV (i + 1 + j + 1 + h + 1)), (6, nV (i + 1 + j)), (5, nV i), (0, .ref mo0), (1, nV 3), (2, nV yn), (3, nV wn), (4, zV z)] C dX10_code_259 hl rfl rfl (by decide) rfl (fun ls hl => ?_)
                            refine r_goto 215 C dX10_code_262 rfl ?_
                            exact ih_215 (h + 1) msC clC beC _ _ _ (by first | assumption | omega) (by rw [mEn_no (fun q => gb2 ((ap_2 (S := fun y1 t => rc bi mo y1 wn t (yn + 1)) (x := i) (y := i + 1 + j) (z := i + 1 + j + 1 + h)).mp q).2)]; exact hG) (hO) (by omega) hP hD hS (lv_sub hl [0, 1, 2, 3, 4, 5, 6, 7] rfl)
                          refine lv_aload_n C.1 C.2.1 dX10_code_249 rfl (lv_at hl 3 rfl) ?_
                          refine lv_iload C.1 C.2.1 dX10_code_250 (lv_at hl 2 rfl) ?_
                          refine lv_iload C.1 C.2.1 dX10_code_252 (lv_at hl 1 rfl) ?_
                          refine lv_iload C.1 C.2.1 dX10_code_254 (lv_at hl 0 rfl) ?_
                          refine wr_callVV (As := [nV i, nV (i + 1 + j), nV (i + 1 + j + 1 + h)]) (rest := []) C hK (c_X10_codes l g mo0 mA1 mA3 mA4 mA5 mA6 mA7 mA8 mA9 mA10 mA11 mA12 mA15 mA16 mA17 mA20 mL mAt kz dn mAb mBe clC beC i ((i + 1 + j : Nat) : Int) ((i + 1 + j + 1 + h : Nat) : Int) (by first | assumption | omega) (by first | assumption | omega) (by first | assumption | omega) (hO.2.2)) [0, 3] rfl (fun _ => rfl) (by decide) hP hD hS hA (ci := 8) (q0 := 0) rfl rfl kc_X10_codes kl_X10_175 kn_X10 ki_X10_codes ke_X10_codes nk_X10_codes (rm_lt (by decide) (by decide)) hl rfl (Nat.le_of_ble_eq_true rfl) dX10_code_256 (fun u_27 H locs hr_26 hP hD hS => ?_)
                          have hP : va_P g.1 vwCl [(mo0, .inr (8, [nV mL, .ref mA1, nV mAt, .ref mA3, .ref mA4, .ref mA5, .ref mA6, .ref mA7, .ref mA8, .ref mA9, .ref mA10, .ref mA11, .ref mA12, nV kz, nV dn, .ref mA15, .ref mA16, .ref mA17, mV mAb, mV mBe, .ref mA20, zV ((cst (clC, beC) i ((i + 1 + j : Nat) : Int) ((i + 1 + j + 1 + h : Nat) : Int)).1)])), (mA3, cN g 4 mtd), (mA16, cO g 5184 rB), (mA17, cZ g 3 ((cst (clC, beC) i ((i + 1 + j : Nat) : Int) ((i + 1 + j + 1 + h : Nat) : Int)).2))] H := hP
                          have hD : va_D A [(mo0, .inr (8, [nV mL, .ref mA1, nV mAt, .ref mA3, .ref mA4, .ref mA5, .ref mA6, .ref mA7, .ref mA8, .ref mA9, .ref mA10, .ref mA11, .ref mA12, nV kz, nV dn, .ref mA15, .ref mA16, .ref mA17, mV mAb, mV mBe, .ref mA20, zV ((cst (clC, beC) i ((i + 1 + j : Nat) : Int) ((i + 1 + j + 1 + h : Nat) : Int)).1)])), (mA3, cN g 4 mtd), (mA16, cO g 5184 rB), (mA17, cZ g 3 ((cst (clC, beC) i ((i + 1 + j : Nat) : Int) ((i + 1 + j + 1 + h : Nat) : Int)).2))] := hD
                          refine r_incN (k := 0) (n := 1) [(7, nV (i + 1 + j + 1 + h + 1)), (6, nV (i + 1 + j)), (5, nV i), (0, .ref mo0), (1, nV 3), (2, nV yn), (3, nV wn), (4, zV z)] C dX10_code_259 hl rfl rfl (by decide) rfl (fun ls hl => ?_)
                          refine r_goto 215 C dX10_code_262 rfl ?_
                          exact ih_215 (h + 1) (men (fun y1 t => rc bi mo y1 wn t (yn + 1)) 0 3 (i + 1 + j + 1 + h + 1) (fl i + fl (i + 1 + j) + fl (i + 1 + j + 1 + h)) (upN (upN (upN c0 0 i) 1 (i + 1 + j)) 2 (i + 1 + j + 1 + h)) msC) ((cst (clC, beC) i ((i + 1 + j : Nat) : Int) ((i + 1 + j + 1 + h : Nat) : Int)).1) ((cst (clC, beC) i ((i + 1 + j : Nat) : Int) ((i + 1 + j + 1 + h : Nat) : Int)).2) _ _ _ (by first | assumption | omega) (by rw [mEn_go ((ap_2 (S := fun y1 t => rc bi mo y1 wn t (yn + 1)) (x := i) (y := i + 1 + j) (z := i + 1 + j + 1 + h)).mpr ⟨gb1, gb2⟩), ← hG]) (MR_c hO csm_3 (by have h1 := fl_bd i (by omega); have h2 := fl_bd (i + 1 + j) (by omega); have h3 := fl_bd (i + 1 + j + 1 + h) (by omega); omega) bc_3) (by omega) hP hD hS (lv_sub hl [0, 1, 2, 3, 4, 5, 6, 7] rfl)
                      exact L215 (72 - (i + 1 + j + 1 + 0) + 1) 0 msB clB beB _ _ _ (by first | assumption | omega) (mEn_0.symm) (hN) (Nat.lt_succ_self _) hP hD hS (lv_sub hl [0, 1, 2, 3, 4, 5, 6, 7] rfl)
                  exact L172 (72 - (i + 1 + 0) + 1) 0 msA clA beA _ _ _ (by first | assumption | omega) (mEn_0.symm) (hM) (Nat.lt_succ_self _) hP hD hS (lv_sub hl [0, 1, 2, 3, 4, 5, 6] rfl)
              exact L146 (72 - 0 + 1) 0 ms0 (-4) mbe _ _ _ (by first | assumption | omega) (rfl) (MR_00) (Nat.lt_succ_self _) hP hD hS (lv_sub hl [0, 1, 2, 3, 4, 5] rfl)
            refine r_iconst 0 C dX10_code_73 rfl ?_
            refine lv_istore (lv' := [(6, nV 0), (5, nV i1), (0, .ref mo0), (1, nV 3), (2, nV yn), (3, nV wn), (4, zV z)]) C.1 C.2.1 dX10_code_74 hl (by decide) rfl (fun ls hl => ?_)
            have L76 : ∀ (n_76 : Nat) (i2 : Nat) (rC : Nat → Bool) (H : Heap) (locs : List Loc) (ls : Array Slot) (hi2 : i2 ≤ 84) (hrC : FC (fun y1 t => rc bi mo y1 wn t (yn + 1)) bi mo yn wn i1 i2 rC) (hm : 84 - i2 < n_76) (hP : va_P g.1 vwCl [(mo0, .inr (8, [nV mL, .ref mA1, nV mAt, .ref mA3, .ref mA4, .ref mA5, .ref mA6, .ref mA7, .ref mA8, .ref mA9, .ref mA10, .ref mA11, .ref mA12, nV kz, nV dn, .ref mA15, .ref mA16, .ref mA17, mV mAb, mV mBe, .ref mA20, zV mCl])), (mA3, cN g 4 mtd), (mA16, cO g 5184 rC), (mA17, cZ g 3 mbe)] H) (hD : va_D A [(mo0, .inr (8, [nV mL, .ref mA1, nV mAt, .ref mA3, .ref mA4, .ref mA5, .ref mA6, .ref mA7, .ref mA8, .ref mA9, .ref mA10, .ref mA11, .ref mA12, nV kz, nV dn, .ref mA15, .ref mA16, .ref mA17, mV mAb, mV mBe, .ref mA20, zV mCl])), (mA3, cN g 4 mtd), (mA16, cO g 5184 rC), (mA17, cZ g 3 mbe)]) (hS : va_S A s.heap H locs) (hl : lv_has ls 8 [(6, nV i2), (5, nV i1), (0, .ref mo0), (1, nV 3), (2, nV yn), (3, nV wn), (4, zV z)]), W p l e (rD 4) s m args below meth c H locs 0 0 Q (F0 m 76 ls []) := by
              intro n_76
              induction n_76 with
              | zero => intro i2 rC H locs ls hi2 hrC hm hP hD hS hl; exact absurd hm (Nat.not_lt_zero _)
              | succ n_76 ih_76 =>
                intro i2 rC H locs ls hi2 hrC hm hP hD hS hl
                refine lv_iload C.1 C.2.1 dX10_code_76 (lv_at hl 0 rfl) ?_
                refine r_bipush 84 C dX10_code_78 (by decide) ?_
                refine r_cge 131 C dX10_code_80 rfl ⟨rgN (by omega), rgN (by decide)⟩ (fun h_28 => ?_) (fun h_28 => ?_)
                · skip
                  refine r_incN (k := 1) (n := 1) [(5, nV (i1 + 1)), (6, nV i2), (0, .ref mo0), (1, nV 3), (2, nV yn), (3, nV wn), (4, zV z)] C dX10_code_131 hl rfl rfl (by decide) rfl (fun ls hl => ?_)
                  refine r_goto 66 C dX10_code_134 rfl ?_
                  exact ih_66 (i1 + 1) rC _ _ _ (by first | assumption | omega) (FC_next hy hw (by rw [show (84 : Nat) = i2 by omega]; exact hrC)) (by omega) hP hD hS (lv_sub hl [0, 2, 3, 4, 5, 6] rfl)
                refine lv_iload C.1 C.2.1 dX10_code_83 (lv_at hl 0 rfl) ?_
                refine r_iconst 4 C dX10_code_85 rfl ?_
                refine r_divN C dX10_code_86 (by omega) (by decide) ?_
                refine lv_iload_n C.1 C.2.1 dX10_code_87 rfl (lv_at hl 4 rfl) ?_
                refine r_cgt 125 C dX10_code_88 rfl ⟨rgN (by omega), rgN (by omega)⟩ (fun h_29 => ?_) (fun h_29 => ?_)
                · skip
                  refine r_incN (k := 0) (n := 1) [(6, nV (i2 + 1)), (5, nV i1), (0, .ref mo0), (1, nV 3), (2, nV yn), (3, nV wn), (4, zV z)] C dX10_code_125 hl rfl rfl (by decide) rfl (fun ls hl => ?_)
                  refine r_goto 76 C dX10_code_128 rfl ?_
                  exact ih_76 (i2 + 1) rC _ _ _ (by first | assumption | omega) (FC_no hrC (by omega)) (by omega) hP hD hS (lv_sub hl [0, 1, 2, 3, 4, 5, 6] rfl)
                refine lv_iload C.1 C.2.1 dX10_code_91 (lv_at hl 0 rfl) ?_
                refine r_iconst 4 C dX10_code_93 rfl ?_
                refine r_remN C dX10_code_94 (by omega) (by decide) ?_
                refine lv_iload_n C.1 C.2.1 dX10_code_95 rfl (lv_at hl 5 rfl) ?_
                refine r_cgt 125 C dX10_code_96 rfl ⟨rgN (by omega), rgN (by omega)⟩ (fun h_30 => ?_) (fun h_30 => ?_)
                · skip
                  refine r_incN (k := 0) (n := 1) [(6, nV (i2 + 1)), (5, nV i1), (0, .ref mo0), (1, nV 3), (2, nV yn), (3, nV wn), (4, zV z)] C dX10_code_125 hl rfl rfl (by decide) rfl (fun ls hl => ?_)
                  refine r_goto 76 C dX10_code_128 rfl ?_
                  exact ih_76 (i2 + 1) rC _ _ _ (by first | assumption | omega) (FC_no hrC (by omega)) (by omega) hP hD hS (lv_sub hl [0, 1, 2, 3, 4, 5, 6] rfl)
                refine lv_aload_n C.1 C.2.1 dX10_code_99 rfl (lv_at hl 2 rfl) ?_
                refine r_get C hK hP kw_X10 (ci := 8) rfl 0 16 (by decide) kf_X10_47 rfl rfl dX10_code_100 ?_
                refine r_bipush 72 C dX10_code_103 (by decide) ?_
                refine lv_iload C.1 C.2.1 dX10_code_105 (lv_at hl 1 rfl) ?_
                refine r_mulN C dX10_code_107 ?_
                refine lv_aload_n C.1 C.2.1 dX10_code_108 rfl (lv_at hl 2 rfl) ?_
                refine lv_iload C.1 C.2.1 dX10_code_109 (lv_at hl 1 rfl) ?_
                refine lv_iload C.1 C.2.1 dX10_code_111 (lv_at hl 0 rfl) ?_
                refine r_iconst 4 C dX10_code_113 rfl ?_
                refine r_divN C dX10_code_114 (by omega) (by decide) ?_
                refine lv_iload C.1 C.2.1 dX10_code_115 (lv_at hl 0 rfl) ?_
                refine r_iconst 4 C dX10_code_117 rfl ?_
                refine r_remN C dX10_code_118 (by omega) (by decide) ?_
                refine ro_callV (As := [nV i1, nV (i2 / 4), nV (i2 % 4)]) (rest := [nV (72 * i1), .ref mA16]) C hK (c_X10_become l g mo0 mA1 mA3 mA4 mA5 mA6 mA7 mA8 mA9 mA10 mA11 mA12 mA15 mA16 mA17 mA20 mL mAt kz dn mAb mBe mCl mtd bi mo i1 (i2 / 4) (i2 % 4) (by first | assumption | omega) (by first | assumption | omega) (by first | assumption | omega) (by first | assumption | omega) (by first | assumption | omega) (by first | assumption | omega)) (hP.sub (ws' := [(mo0, .inr (8, [nV mL, .ref mA1, nV mAt, .ref mA3, .ref mA4, .ref mA5, .ref mA6, .ref mA7, .ref mA8, .ref mA9, .ref mA10, .ref mA11, .ref mA12, nV kz, nV dn, .ref mA15, .ref mA16, .ref mA17, mV mAb, mV mBe, .ref mA20, zV mCl])), (mA3, cN g 4 mtd)]) [0, 1] rfl) (ci := 8) (q0 := 0) rfl rfl kc_X10_become kl_X10_127 kn_X10 ki_X10_become ke_X10_become nk_X10_become (rm_lt (by decide) (by decide)) hl rfl (Nat.le_of_ble_eq_true rfl) dX10_code_119 (fun r_31 hr_32 => ?_)
                subst hr_32
                have hf_33 := tn_bd (bi) (mo) (i1) ((i2 / 4)) ((i2 % 4)) (by omega)
                refine r_addN C dX10_code_122 ?_
                refine r_iconst 1 C dX10_code_123 rfl ?_
                refine r_top (v' := bV (true = true)) (congrArg Value.int (bI_1 rfl)) ?_
                refine r_astO (b := true) C hK hP hD hS 2 rfl ⟨by omega, by omega⟩ dX10_code_124 (fun H locs hP hD hS => ?_)
                have hP : va_P g.1 vwCl [(mo0, .inr (8, [nV mL, .ref mA1, nV mAt, .ref mA3, .ref mA4, .ref mA5, .ref mA6, .ref mA7, .ref mA8, .ref mA9, .ref mA10, .ref mA11, .ref mA12, nV kz, nV dn, .ref mA15, .ref mA16, .ref mA17, mV mAb, mV mBe, .ref mA20, zV mCl])), (mA3, cN g 4 mtd), (mA16, cO g 5184 (va_up rC ((72 * i1) + (tn bi mo i1 (i2 / 4) (i2 % 4))) true)), (mA17, cZ g 3 mbe)] H := hP
                have hD : va_D A [(mo0, .inr (8, [nV mL, .ref mA1, nV mAt, .ref mA3, .ref mA4, .ref mA5, .ref mA6, .ref mA7, .ref mA8, .ref mA9, .ref mA10, .ref mA11, .ref mA12, nV kz, nV dn, .ref mA15, .ref mA16, .ref mA17, mV mAb, mV mBe, .ref mA20, zV mCl])), (mA3, cN g 4 mtd), (mA16, cO g 5184 (va_up rC ((72 * i1) + (tn bi mo i1 (i2 / 4) (i2 % 4))) true)), (mA17, cZ g 3 mbe)] := hD
                refine r_incN (k := 0) (n := 1) [(6, nV (i2 + 1)), (5, nV i1), (0, .ref mo0), (1, nV 3), (2, nV yn), (3, nV wn), (4, zV z)] C dX10_code_125 hl rfl rfl (by decide) rfl (fun ls hl => ?_)
                refine r_goto 76 C dX10_code_128 rfl ?_
                exact ih_76 (i2 + 1) (va_up rC ((72 * i1) + (tn bi mo i1 (i2 / 4) (i2 % 4))) true) _ _ _ (by first | assumption | omega) (FC_set hrC (by omega) ⟨by omega, by omega⟩) (by omega) hP hD hS (lv_sub hl [0, 1, 2, 3, 4, 5, 6] rfl)
            exact L76 (84 - 0 + 1) 0 rB _ _ _ (by first | assumption | omega) (hrB) (Nat.lt_succ_self _) hP hD hS (lv_sub hl [0, 1, 2, 3, 4, 5, 6] rfl)
        exact L66 (72 - 0 + 1) 0 rA _ _ _ (by first | assumption | omega) (FC_z (fun j hj => hrA j (by omega))) (Nat.lt_succ_self _) hP hD hS (lv_sub hl [0, 1, 2, 3, 4, 5] rfl)
      refine lv_aload_n C.1 C.2.1 dX10_code_49 rfl (lv_at hl 1 rfl) ?_
      refine r_get C hK hP kw_X10 (ci := 8) rfl 0 16 (by decide) kf_X10_47 rfl rfl dX10_code_50 ?_
      refine lv_iload C.1 C.2.1 dX10_code_53 (lv_at hl 0 rfl) ?_
      refine r_iconst 0 C dX10_code_55 rfl ?_
      refine r_top (v' := bV (false = true)) (congrArg Value.int (bI_z (by decide))) ?_
      refine r_astO (b := false) C hK hP hD hS 2 rfl ⟨by omega, by omega⟩ dX10_code_56 (fun H locs hP hD hS => ?_)
      have hP : va_P g.1 vwCl [(mo0, .inr (8, [nV mL, .ref mA1, nV mAt, .ref mA3, .ref mA4, .ref mA5, .ref mA6, .ref mA7, .ref mA8, .ref mA9, .ref mA10, .ref mA11, .ref mA12, nV kz, nV dn, .ref mA15, .ref mA16, .ref mA17, mV mAb, mV mBe, .ref mA20, zV mCl])), (mA3, cN g 4 mtd), (mA16, cO g 5184 (va_up rA i0 false)), (mA17, cZ g 3 mbe)] H := hP
      have hD : va_D A [(mo0, .inr (8, [nV mL, .ref mA1, nV mAt, .ref mA3, .ref mA4, .ref mA5, .ref mA6, .ref mA7, .ref mA8, .ref mA9, .ref mA10, .ref mA11, .ref mA12, nV kz, nV dn, .ref mA15, .ref mA16, .ref mA17, mV mAb, mV mBe, .ref mA20, zV mCl])), (mA3, cN g 4 mtd), (mA16, cO g 5184 (va_up rA i0 false)), (mA17, cZ g 3 mbe)] := hD
      refine r_incN (k := 0) (n := 1) [(5, nV (i0 + 1)), (0, .ref mo0), (1, nV 3), (2, nV yn), (3, nV wn), (4, zV z)] C dX10_code_57 hl rfl rfl (by decide) rfl (fun ls hl => ?_)
      refine r_goto 41 C dX10_code_60 rfl ?_
      exact ih_41 (i0 + 1) (va_up rA i0 false) _ _ _ (by first | assumption | omega) (fun j hj => by by_cases q : j = i0; (rw [q, va_up_s]); (rw [va_up_n q]; exact hrA j (by omega))) (by omega) hP hD hS (lv_sub hl [0, 1, 2, 3, 4, 5] rfl)
  exact L41 (5184 - 0 + 1) 0 mre _ _ _ (by first | assumption | omega) (fun j hj => by omega) (Nat.lt_succ_self _) hP hD hS (lv_sub hl [0, 1, 2, 3, 4, 5] rfl)
