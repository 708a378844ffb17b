set_option maxHeartbeats 4000000 in
set_option maxRecDepth 100000 in
theorem c_X10_known (l : Launch) (g : GG) (mo0 : Nat) (mA1 : Nat) (mA3 : Nat) (mA4 : Nat) (mA5 : Nat) (mA6 : Nat) (mA7 : Nat) (mA8 : Nat) (mA9 : Nat) (mA10 : Nat) (mA11 : Nat) (mA12 : Nat) (mA15 : Nat) (mA16 : Nat) (mA17 : Nat) (mA20 : Nat) (mL : Nat) (mAt : Nat) (kz : Nat) (dn : Nat) (mAb : Nat) (mBe : Nat) (mCl : Int) (mlf : Nat → Nat) (mdi : Nat → Nat) (wh : Nat) (ii : Nat) (hdn : dn ≤ 8) (hii : ii < 8) : WRv g l yX10_known cX10_known 4 1 [(mo0, .inr (8, [nV mL, .ref mA1, nV mAt, .ref mA3, .ref mA4, .ref mA5, .ref mA6, .ref mA7, .ref mA8, .ref mA9, .ref mA10, .ref mA11, .ref mA12, nV kz, nV dn, .ref mA15, .ref mA16, .ref mA17, mV mAb, mV mBe, .ref mA20, zV mCl])), (mA11, cN g 96 mlf), (mA15, cN g 48 mdi)] [.ref mo0, nV wh, nV ii] (fun (_ : Unit) => True) (fun (_ : Unit) => [(mo0, .inr (8, [nV mL, .ref mA1, nV mAt, .ref mA3, .ref mA4, .ref mA5, .ref mA6, .ref mA7, .ref mA8, .ref mA9, .ref mA10, .ref mA11, .ref mA12, nV kz, nV (ssz 8 dn), .ref mA15, .ref mA16, .ref mA17, mV mAb, mV mBe, .ref mA20, zV mCl])), (mA11, cN g 96 mlf), (mA15, cN g 48 (kset mdi mlf dn wh ii))]) := by
  refine wr_startV (by decide +kernel) (Nat.le_of_ble_eq_true rfl) ?_
  intro p e s m args below meth c Q A ls C hK hA ret hP hD hS hl
  have C : CT p s m args meth c cX10_known RX10 4 := C
  have hl : lv_has ls 4 [(0, .ref mo0), (1, nV wh), (2, nV ii)] := hl
  refine lv_aload_n C.1 C.2.1 dX10_known_0 rfl (lv_at hl 0 rfl) ?_
  refine r_get C hK hP kw_X10 (ci := 8) rfl 0 14 (by decide) kf_X10_98 rfl rfl dX10_known_1 ?_
  refine r_bipush 8 C dX10_known_4 (by decide) ?_
  have J48 : ∀ (dA : Nat → Nat) (d0 : Nat) (H : Heap) (locs : List Loc) (ls : Array Slot) (hd0 : d0 < 8 ∧ d0 + 1 = ssz 8 dn) (hdA : dA = kb mdi dn) (hP : va_P g.1 vwCl [(mo0, .inr (8, [nV mL, .ref mA1, nV mAt, .ref mA3, .ref mA4, .ref mA5, .ref mA6, .ref mA7, .ref mA8, .ref mA9, .ref mA10, .ref mA11, .ref mA12, nV kz, nV d0, .ref mA15, .ref mA16, .ref mA17, mV mAb, mV mBe, .ref mA20, zV mCl])), (mA11, cN g 96 mlf), (mA15, cN g 48 dA)] H) (hD : va_D A [(mo0, .inr (8, [nV mL, .ref mA1, nV mAt, .ref mA3, .ref mA4, .ref mA5, .ref mA6, .ref mA7, .ref mA8, .ref mA9, .ref mA10, .ref mA11, .ref mA12, nV kz, nV d0, .ref mA15, .ref mA16, .ref mA17, mV mAb, mV mBe, .ref mA20, zV mCl])), (mA11, cN g 96 mlf), (mA15, cN g 48 dA)]) (hS : va_S A s.heap H locs) (hl : lv_has ls 4 [(0, .ref mo0), (1, nV wh), (2, nV ii)]), W p l e (rD 1) s m args below meth c H locs 0 0 Q (F0 m 48 ls []) := by
    intro dA d0 H locs ls hd0 hdA hP hD hS hl
    refine lv_aload_n C.1 C.2.1 dX10_known_48 rfl (lv_at hl 0 rfl) ?_
    refine r_get C hK hP kw_X10 (ci := 8) rfl 0 15 (by decide) kf_X10_44 rfl rfl dX10_known_49 ?_
    refine r_bipush 6 C dX10_known_52 (by decide) ?_
    refine lv_aload_n C.1 C.2.1 dX10_known_54 rfl (lv_at hl 0 rfl) ?_
    refine r_get C hK hP kw_X10 (ci := 8) rfl 0 14 (by decide) kf_X10_98 rfl rfl dX10_known_55 ?_
    refine r_mulN C dX10_known_58 ?_
    refine lv_iload_n C.1 C.2.1 dX10_known_59 rfl (lv_at hl 1 rfl) ?_
    refine r_astN C hK hP hD hS 2 rfl ⟨by omega, by omega⟩ dX10_known_60 (fun H locs hP hD hS => ?_)
    have hP : va_P g.1 vwCl [(mo0, .inr (8, [nV mL, .ref mA1, nV mAt, .ref mA3, .ref mA4, .ref mA5, .ref mA6, .ref mA7, .ref mA8, .ref mA9, .ref mA10, .ref mA11, .ref mA12, nV kz, nV d0, .ref mA15, .ref mA16, .ref mA17, mV mAb, mV mBe, .ref mA20, zV mCl])), (mA11, cN g 96 mlf), (mA15, cN g 48 (upN dA (6 * d0) wh))] H := hP
    have hD : va_D A [(mo0, .inr (8, [nV mL, .ref mA1, nV mAt, .ref mA3, .ref mA4, .ref mA5, .ref mA6, .ref mA7, .ref mA8, .ref mA9, .ref mA10, .ref mA11, .ref mA12, nV kz, nV d0, .ref mA15, .ref mA16, .ref mA17, mV mAb, mV mBe, .ref mA20, zV mCl])), (mA11, cN g 96 mlf), (mA15, cN g 48 (upN dA (6 * d0) wh))] := hD
    refine lv_aload_n C.1 C.2.1 dX10_known_61 rfl (lv_at hl 0 rfl) ?_
    refine r_get C hK hP kw_X10 (ci := 8) rfl 0 15 (by decide) kf_X10_44 rfl rfl dX10_known_62 ?_
    refine r_bipush 6 C dX10_known_65 (by decide) ?_
    refine lv_aload_n C.1 C.2.1 dX10_known_67 rfl (lv_at hl 0 rfl) ?_
    refine r_get C hK hP kw_X10 (ci := 8) rfl 0 14 (by decide) kf_X10_98 rfl rfl dX10_known_68 ?_
    refine r_mulN C dX10_known_71 ?_
    refine r_iconst 1 C dX10_known_72 rfl ?_
    refine r_addN C dX10_known_73 ?_
    refine lv_iload_n C.1 C.2.1 dX10_known_74 rfl (lv_at hl 2 rfl) ?_
    refine r_astN C hK hP hD hS 2 rfl ⟨by omega, by omega⟩ dX10_known_75 (fun H locs hP hD hS => ?_)
    have hP : va_P g.1 vwCl [(mo0, .inr (8, [nV mL, .ref mA1, nV mAt, .ref mA3, .ref mA4, .ref mA5, .ref mA6, .ref mA7, .ref mA8, .ref mA9, .ref mA10, .ref mA11, .ref mA12, nV kz, nV d0, .ref mA15, .ref mA16, .ref mA17, mV mAb, mV mBe, .ref mA20, zV mCl])), (mA11, cN g 96 mlf), (mA15, cN g 48 (upN (upN dA (6 * d0) wh) ((6 * d0) + 1) ii))] H := hP
    have hD : va_D A [(mo0, .inr (8, [nV mL, .ref mA1, nV mAt, .ref mA3, .ref mA4, .ref mA5, .ref mA6, .ref mA7, .ref mA8, .ref mA9, .ref mA10, .ref mA11, .ref mA12, nV kz, nV d0, .ref mA15, .ref mA16, .ref mA17, mV mAb, mV mBe, .ref mA20, zV mCl])), (mA11, cN g 96 mlf), (mA15, cN g 48 (upN (upN dA (6 * d0) wh) ((6 * d0) + 1) ii))] := hD
    refine r_iconst 0 C dX10_known_76 rfl ?_
    refine lv_istore_n (lv' := [(3, nV 0), (0, .ref mo0), (1, nV wh), (2, nV ii)]) C.1 C.2.1 dX10_known_77 rfl hl (by decide) rfl (fun ls hl => ?_)
    have L78 : ∀ (n_78 : Nat) (i : Nat) (kA : Nat → Nat) (H : Heap) (locs : List Loc) (ls : Array Slot) (hi : i ≤ 4) (hkA : kA = kp dA mlf d0 wh ii i) (hm : 4 - i < n_78) (hP : va_P g.1 vwCl [(mo0, .inr (8, [nV mL, .ref mA1, nV mAt, .ref mA3, .ref mA4, .ref mA5, .ref mA6, .ref mA7, .ref mA8, .ref mA9, .ref mA10, .ref mA11, .ref mA12, nV kz, nV d0, .ref mA15, .ref mA16, .ref mA17, mV mAb, mV mBe, .ref mA20, zV mCl])), (mA11, cN g 96 mlf), (mA15, cN g 48 kA)] H) (hD : va_D A [(mo0, .inr (8, [nV mL, .ref mA1, nV mAt, .ref mA3, .ref mA4, .ref mA5, .ref mA6, .ref mA7, .ref mA8, .ref mA9, .ref mA10, .ref mA11, .ref mA12, nV kz, nV d0, .ref mA15, .ref mA16, .ref mA17, mV mAb, mV mBe, .ref mA20, zV mCl])), (mA11, cN g 96 mlf), (mA15, cN g 48 kA)]) (hS : va_S A s.heap H locs) (hl : lv_has ls 4 [(3, nV i), (0, .ref mo0), (1, nV wh), (2, nV ii)]), W p l e (rD 1) s m args below meth c H locs 0 0 Q (F0 m 78 ls []) := by
      intro n_78
      induction n_78 with
      | zero => intro i kA H locs ls hi hkA hm hP hD hS hl; exact absurd hm (Nat.not_lt_zero _)
      | succ n_78 ih_78 =>
        intro i kA H locs ls hi hkA hm hP hD hS hl
        refine lv_iload_n C.1 C.2.1 dX10_known_78 rfl (lv_at hl 0 rfl) ?_
        refine r_iconst 4 C dX10_known_79 rfl ?_
        refine r_cge 125 C dX10_known_80 rfl ⟨rgN (by omega), rgN (by decide)⟩ (fun h_1 => ?_) (fun h_1 => ?_)
        · skip
          refine lv_aload_n C.1 C.2.1 dX10_known_125 rfl (lv_at hl 1 rfl) ?_
          refine lv_dup C.1 C.2.1 dX10_known_126 rfl ?_
          refine r_get C hK hP kw_X10 (ci := 8) rfl 0 14 (by decide) kf_X10_98 rfl rfl dX10_known_127 ?_
          refine r_iconst 1 C dX10_known_130 rfl ?_
          refine r_addN C dX10_known_131 ?_
          refine r_put (v := nV (d0 + 1)) C hK hP hD hS kw_X10 tyX10_ok nmX10 (ci := 8) rfl 0 14 (by decide) kf_X10_98 rfl rfl rfl rfl rfl (Nat.le_of_ble_eq_true rfl) dX10_known_132 (fun H locs hP hD hS => ?_)
          have hP : va_P g.1 vwCl [(mo0, .inr (8, [nV mL, .ref mA1, nV mAt, .ref mA3, .ref mA4, .ref mA5, .ref mA6, .ref mA7, .ref mA8, .ref mA9, .ref mA10, .ref mA11, .ref mA12, nV kz, nV (d0 + 1), .ref mA15, .ref mA16, .ref mA17, mV mAb, mV mBe, .ref mA20, zV mCl])), (mA11, cN g 96 mlf), (mA15, cN g 48 kA)] H := hP
          have hD : va_D A [(mo0, .inr (8, [nV mL, .ref mA1, nV mAt, .ref mA3, .ref mA4, .ref mA5, .ref mA6, .ref mA7, .ref mA8, .ref mA9, .ref mA10, .ref mA11, .ref mA12, nV kz, nV (d0 + 1), .ref mA15, .ref mA16, .ref mA17, mV mAb, mV mBe, .ref mA20, zV mCl])), (mA11, cN g 96 mlf), (mA15, cN g 48 kA)] := hD
          exact ret (()) dX10_known_135 hS (by rw [hkA, hdA, show i = 4 by omega, show d0 = ssz 8 dn - 1 by omega] at hP; rw [show ssz 8 dn = ssz 8 dn - 1 + 1 by omega]; exact hP) (trivial)
        refine lv_aload_n C.1 C.2.1 dX10_known_83 rfl (lv_at hl 1 rfl) ?_
        refine r_get C hK hP kw_X10 (ci := 8) rfl 0 15 (by decide) kf_X10_44 rfl rfl dX10_known_84 ?_
        refine r_bipush 6 C dX10_known_87 (by decide) ?_
        refine lv_aload_n C.1 C.2.1 dX10_known_89 rfl (lv_at hl 1 rfl) ?_
        refine r_get C hK hP kw_X10 (ci := 8) rfl 0 14 (by decide) kf_X10_98 rfl rfl dX10_known_90 ?_
        refine r_mulN C dX10_known_93 ?_
        refine r_iconst 2 C dX10_known_94 rfl ?_
        refine r_addN C dX10_known_95 ?_
        refine lv_iload_n C.1 C.2.1 dX10_known_96 rfl (lv_at hl 0 rfl) ?_
        refine r_addN C dX10_known_97 ?_
        refine lv_iload_n C.1 C.2.1 dX10_known_98 rfl (lv_at hl 3 rfl) ?_
        refine r_bipush 8 C dX10_known_99 (by decide) ?_
        refine r_cge 117 C dX10_known_101 rfl ⟨rgN (by omega), rgN (by decide)⟩ (fun h_2 => ?_) (fun h_2 => ?_)
        · exact absurd h_2 (by omega)
        refine lv_aload_n C.1 C.2.1 dX10_known_104 rfl (lv_at hl 1 rfl) ?_
        refine r_get C hK hP kw_X10 (ci := 8) rfl 0 11 (by decide) kf_X10_38 rfl rfl dX10_known_105 ?_
        refine r_iconst 4 C dX10_known_108 rfl ?_
        refine lv_iload_n C.1 C.2.1 dX10_known_109 rfl (lv_at hl 3 rfl) ?_
        refine r_mulN C dX10_known_110 ?_
        refine lv_iload_n C.1 C.2.1 dX10_known_111 rfl (lv_at hl 0 rfl) ?_
        refine r_addN C dX10_known_112 ?_
        refine r_aldN C hK hP 1 rfl ⟨by omega, by omega⟩ dX10_known_113 ?_
        refine r_goto 118 C dX10_known_114 rfl ?_
        refine r_astN C hK hP hD hS 2 rfl ⟨by omega, by omega⟩ dX10_known_118 (fun H locs hP hD hS => ?_)
        have hP : va_P g.1 vwCl [(mo0, .inr (8, [nV mL, .ref mA1, nV mAt, .ref mA3, .ref mA4, .ref mA5, .ref mA6, .ref mA7, .ref mA8, .ref mA9, .ref mA10, .ref mA11, .ref mA12, nV kz, nV d0, .ref mA15, .ref mA16, .ref mA17, mV mAb, mV mBe, .ref mA20, zV mCl])), (mA11, cN g 96 mlf), (mA15, cN g 48 (upN kA (((6 * d0) + 2) + i) (mlf ((4 * ii) + i))))] H := hP
        have hD : va_D A [(mo0, .inr (8, [nV mL, .ref mA1, nV mAt, .ref mA3, .ref mA4, .ref mA5, .ref mA6, .ref mA7, .ref mA8, .ref mA9, .ref mA10, .ref mA11, .ref mA12, nV kz, nV d0, .ref mA15, .ref mA16, .ref mA17, mV mAb, mV mBe, .ref mA20, zV mCl])), (mA11, cN g 96 mlf), (mA15, cN g 48 (upN kA (((6 * d0) + 2) + i) (mlf ((4 * ii) + i))))] := hD
        refine r_incN (k := 0) (n := 1) [(3, nV (i + 1)), (0, .ref mo0), (1, nV wh), (2, nV ii)] C dX10_known_119 hl rfl rfl (by decide) rfl (fun ls hl => ?_)
        refine r_goto 78 C dX10_known_122 rfl ?_
        exact ih_78 (i + 1) (upN kA (((6 * d0) + 2) + i) (mlf ((4 * ii) + i))) _ _ _ (by first | assumption | omega) (by rw [hkA]; exact kp_s) (by omega) hP hD hS (lv_sub hl [0, 1, 2, 3] rfl)
    exact L78 (4 - 0 + 1) 0 (upN (upN dA (6 * d0) wh) ((6 * d0) + 1) ii) _ _ _ (by first | assumption | omega) (kp_0) (Nat.lt_succ_self _) hP hD hS (lv_sub hl [0, 1, 2, 3] rfl)
  refine r_cne 48 C dX10_known_6 rfl ⟨rgN (by omega), rgN (by decide)⟩ (fun h_3 => ?_) (fun h_3 => ?_)
  · skip
    exact J48 mdi dn _ _ _ (by unfold ssz; first | (rw [if_pos (by omega)]; omega) | (rw [if_neg (by omega)]; omega)) (by unfold kb; first | (rw [if_neg (by omega)]; done) | (rw [if_pos (by omega), hsA, show i = 42 by omega])) hP hD hS (lv_sub hl [0, 1, 2] rfl)
  refine r_iconst 0 C dX10_known_9 rfl ?_
  refine lv_istore_n (lv' := [(3, nV 0), (0, .ref mo0), (1, nV wh), (2, nV ii)]) C.1 C.2.1 dX10_known_10 rfl hl (by decide) rfl (fun ls hl => ?_)
  have L11 : ∀ (n_11 : Nat) (i : Nat) (sA : Nat → Nat) (H : Heap) (locs : List Loc) (ls : Array Slot) (hi : i ≤ 42) (hsA : sA = shf mdi i) (hm : 42 - i < n_11) (hP : va_P g.1 vwCl [(mo0, .inr (8, [nV mL, .ref mA1, nV mAt, .ref mA3, .ref mA4, .ref mA5, .ref mA6, .ref mA7, .ref mA8, .ref mA9, .ref mA10, .ref mA11, .ref mA12, nV kz, nV dn, .ref mA15, .ref mA16, .ref mA17, mV mAb, mV mBe, .ref mA20, zV mCl])), (mA11, cN g 96 mlf), (mA15, cN g 48 sA)] H) (hD : va_D A [(mo0, .inr (8, [nV mL, .ref mA1, nV mAt, .ref mA3, .ref mA4, .ref mA5, .ref mA6, .ref mA7, .ref mA8, .ref mA9, .ref mA10, .ref mA11, .ref mA12, nV kz, nV dn, .ref mA15, .ref mA16, .ref mA17, mV mAb, mV mBe, .ref mA20, zV mCl])), (mA11, cN g 96 mlf), (mA15, cN g 48 sA)]) (hS : va_S A s.heap H locs) (hl : lv_has ls 4 [(3, nV i), (0, .ref mo0), (1, nV wh), (2, nV ii)]), W p l e (rD 1) s m args below meth c H locs 0 0 Q (F0 m 11 ls []) := by
    intro n_11
    induction n_11 with
    | zero => intro i sA H locs ls hi hsA hm hP hD hS hl; exact absurd hm (Nat.not_lt_zero _)
    | succ n_11 ih_11 =>
      intro i sA H locs ls hi hsA hm hP hD hS hl
      refine lv_iload_n C.1 C.2.1 dX10_known_11 rfl (lv_at hl 0 rfl) ?_
      refine r_bipush 42 C dX10_known_12 (by decide) ?_
      refine r_cge 38 C dX10_known_14 rfl ⟨rgN (by omega), rgN (by decide)⟩ (fun h_4 => ?_) (fun h_4 => ?_)
      · skip
        refine lv_aload_n C.1 C.2.1 dX10_known_38 rfl (lv_at hl 1 rfl) ?_
        refine lv_dup C.1 C.2.1 dX10_known_39 rfl ?_
        refine r_get C hK hP kw_X10 (ci := 8) rfl 0 14 (by decide) kf_X10_98 rfl rfl dX10_known_40 ?_
        refine r_iconst 1 C dX10_known_43 rfl ?_
        refine r_subN C dX10_known_44 (by omega) ?_
        refine r_put (v := nV (dn - 1)) C hK hP hD hS kw_X10 tyX10_ok nmX10 (ci := 8) rfl 0 14 (by decide) kf_X10_98 rfl rfl rfl rfl rfl (Nat.le_of_ble_eq_true rfl) dX10_known_45 (fun H locs hP hD hS => ?_)
        have hP : va_P g.1 vwCl [(mo0, .inr (8, [nV mL, .ref mA1, nV mAt, .ref mA3, .ref mA4, .ref mA5, .ref mA6, .ref mA7, .ref mA8, .ref mA9, .ref mA10, .ref mA11, .ref mA12, nV kz, nV (dn - 1), .ref mA15, .ref mA16, .ref mA17, mV mAb, mV mBe, .ref mA20, zV mCl])), (mA11, cN g 96 mlf), (mA15, cN g 48 sA)] H := hP
        have hD : va_D A [(mo0, .inr (8, [nV mL, .ref mA1, nV mAt, .ref mA3, .ref mA4, .ref mA5, .ref mA6, .ref mA7, .ref mA8, .ref mA9, .ref mA10, .ref mA11, .ref mA12, nV kz, nV (dn - 1), .ref mA15, .ref mA16, .ref mA17, mV mAb, mV mBe, .ref mA20, zV mCl])), (mA11, cN g 96 mlf), (mA15, cN g 48 sA)] := hD
        exact J48 sA (dn - 1) _ _ _ (by unfold ssz; first | (rw [if_pos (by omega)]; omega) | (rw [if_neg (by omega)]; omega)) (by unfold kb; first | (rw [if_neg (by omega)]; done) | (rw [if_pos (by omega), hsA, show i = 42 by omega])) hP hD hS (lv_sub hl [1, 2, 3] rfl)
      refine lv_aload_n C.1 C.2.1 dX10_known_17 rfl (lv_at hl 1 rfl) ?_
      refine r_get C hK hP kw_X10 (ci := 8) rfl 0 15 (by decide) kf_X10_44 rfl rfl dX10_known_18 ?_
      refine lv_iload_n C.1 C.2.1 dX10_known_21 rfl (lv_at hl 0 rfl) ?_
      refine lv_aload_n C.1 C.2.1 dX10_known_22 rfl (lv_at hl 1 rfl) ?_
      refine r_get C hK hP kw_X10 (ci := 8) rfl 0 15 (by decide) kf_X10_44 rfl rfl dX10_known_23 ?_
      refine lv_iload_n C.1 C.2.1 dX10_known_26 rfl (lv_at hl 0 rfl) ?_
      refine r_bipush 6 C dX10_known_27 (by decide) ?_
      refine r_addN C dX10_known_29 ?_
      refine r_aldN C hK hP 2 rfl ⟨by omega, by omega⟩ dX10_known_30 ?_
      refine r_astN C hK hP hD hS 2 rfl ⟨by omega, by omega⟩ dX10_known_31 (fun H locs hP hD hS => ?_)
      have hP : va_P g.1 vwCl [(mo0, .inr (8, [nV mL, .ref mA1, nV mAt, .ref mA3, .ref mA4, .ref mA5, .ref mA6, .ref mA7, .ref mA8, .ref mA9, .ref mA10, .ref mA11, .ref mA12, nV kz, nV dn, .ref mA15, .ref mA16, .ref mA17, mV mAb, mV mBe, .ref mA20, zV mCl])), (mA11, cN g 96 mlf), (mA15, cN g 48 (upN sA i (sA (i + 6))))] H := hP
      have hD : va_D A [(mo0, .inr (8, [nV mL, .ref mA1, nV mAt, .ref mA3, .ref mA4, .ref mA5, .ref mA6, .ref mA7, .ref mA8, .ref mA9, .ref mA10, .ref mA11, .ref mA12, nV kz, nV dn, .ref mA15, .ref mA16, .ref mA17, mV mAb, mV mBe, .ref mA20, zV mCl])), (mA11, cN g 96 mlf), (mA15, cN g 48 (upN sA i (sA (i + 6))))] := hD
      refine r_incN (k := 0) (n := 1) [(3, nV (i + 1)), (0, .ref mo0), (1, nV wh), (2, nV ii)] C dX10_known_32 hl rfl rfl (by decide) rfl (fun ls hl => ?_)
      refine r_goto 11 C dX10_known_35 rfl ?_
      exact ih_11 (i + 1) (upN sA i (sA (i + 6))) _ _ _ (by first | assumption | omega) (by rw [hsA]; exact shf_s) (by omega) hP hD hS (lv_sub hl [0, 1, 2, 3] rfl)
  exact L11 (42 - 0 + 1) 0 mdi _ _ _ (by first | assumption | omega) (shf_0.symm) (Nat.lt_succ_self _) hP hD hS (lv_sub hl [0, 1, 2, 3] rfl)
set_option maxHeartbeats 4000000 in
set_option maxRecDepth 100000 in
theorem c_X10_ages_u (l : Launch) (g : GG) (mo0 : Nat) (mA1 : Nat) (mA3 : Nat) (mA4 : Nat) (mA5 : Nat) (mA6 : Nat) (mA7 : Nat) (mA8 : Nat) (mA9 : Nat) (mA10 : Nat) (mA11 : Nat) (mA12 : Nat) (mA15 : Nat) (mA16 : Nat) (mA17 : Nat) (mA20 : Nat) (mL : Nat) (mAt : Nat) (kz : Nat) (dn : Nat) (mAb : Nat) (mBe : Nat) (mCl : Int) (mlv : Nat → Nat) (mlf : Nat → Nat) (hl8 : mlv 0 ≤ 8) : WRv g l yX10_ages cX10_ages 3 1 [(mo0, .inr (8, [nV mL, .ref mA1, nV mAt, .ref mA3, .ref mA4, .ref mA5, .ref mA6, .ref mA7, .ref mA8, .ref mA9, .ref mA10, .ref mA11, .ref mA12, nV kz, nV dn, .ref mA15, .ref mA16, .ref mA17, mV mAb, mV mBe, .ref mA20, zV mCl])), (mA10, cN g 3 mlv), (mA11, cN g 96 mlf)] [.ref mo0, nV 1] (fun (_ : Unit) => True) (fun (_ : Unit) => [(mo0, .inr (8, [nV mL, .ref mA1, nV mAt, .ref mA3, .ref mA4, .ref mA5, .ref mA6, .ref mA7, .ref mA8, .ref mA9, .ref mA10, .ref mA11, .ref mA12, nV kz, nV dn, .ref mA15, .ref mA16, .ref mA17, mV mAb, mV mBe, .ref mA20, zV mCl])), (mA10, cN g 3 mlv), (mA11, cN g 96 (mday mlf (mlv 0)))]) := by
  refine wr_startV (by decide +kernel) (Nat.le_of_ble_eq_true rfl) ?_
  intro p e s m args below meth c Q A ls C hK hA ret hP hD hS hl
  have C : CT p s m args meth c cX10_ages RX10 3 := C
  have hl : lv_has ls 3 [(0, .ref mo0), (1, nV 1)] := hl
  refine r_iconst 0 C dX10_ages_0 rfl ?_
  refine lv_istore_n (lv' := [(2, nV 0), (0, .ref mo0), (1, nV 1)]) C.1 C.2.1 dX10_ages_1 rfl hl (by decide) rfl (fun ls hl => ?_)
  have L2 : ∀ (n_2 : Nat) (i : Nat) (fA : Nat → Nat) (H : Heap) (locs : List Loc) (ls : Array Slot) (hi : i ≤ mlv 0) (hfA : fA = mday mlf i) (hm : mlv 0 - i < n_2) (hP : va_P g.1 vwCl [(mo0, .inr (8, [nV mL, .ref mA1, nV mAt, .ref mA3, .ref mA4, .ref mA5, .ref mA6, .ref mA7, .ref mA8, .ref mA9, .ref mA10, .ref mA11, .ref mA12, nV kz, nV dn, .ref mA15, .ref mA16, .ref mA17, mV mAb, mV mBe, .ref mA20, zV mCl])), (mA10, cN g 3 mlv), (mA11, cN g 96 fA)] H) (hD : va_D A [(mo0, .inr (8, [nV mL, .ref mA1, nV mAt, .ref mA3, .ref mA4, .ref mA5, .ref mA6, .ref mA7, .ref mA8, .ref mA9, .ref mA10, .ref mA11, .ref mA12, nV kz, nV dn, .ref mA15, .ref mA16, .ref mA17, mV mAb, mV mBe, .ref mA20, zV mCl])), (mA10, cN g 3 mlv), (mA11, cN g 96 fA)]) (hS : va_S A s.heap H locs) (hl : lv_has ls 3 [(2, nV i), (0, .ref mo0), (1, nV 1)]), W p l e (rD 1) s m args below meth c H locs 0 0 Q (F0 m 2 ls []) := by
    intro n_2
    induction n_2 with
    | zero => intro i fA H locs ls hi hfA hm hP hD hS hl; exact absurd hm (Nat.not_lt_zero _)
    | succ n_2 ih_2 =>
      intro i fA H locs ls hi hfA hm hP hD hS hl
      refine lv_iload_n C.1 C.2.1 dX10_ages_2 rfl (lv_at hl 0 rfl) ?_
      refine lv_aload_n C.1 C.2.1 dX10_ages_3 rfl (lv_at hl 1 rfl) ?_
      refine r_get C hK hP kw_X10 (ci := 8) rfl 0 10 (by decide) kf_X10_35 rfl rfl dX10_ages_4 ?_
      refine r_iconst 0 C dX10_ages_7 rfl ?_
      refine r_aldN C hK hP 1 rfl ⟨by omega, by omega⟩ dX10_ages_8 ?_
      refine r_cge 32 C dX10_ages_9 rfl ⟨rgN (by omega), rgN (by omega)⟩ (fun h_1 => ?_) (fun h_1 => ?_)
      · skip
        exact ret (()) dX10_ages_32 hS (by rw [hfA, show i = mlv 0 by omega] at hP; exact hP) (trivial)
      refine lv_aload_n C.1 C.2.1 dX10_ages_12 rfl (lv_at hl 1 rfl) ?_
      refine r_get C hK hP kw_X10 (ci := 8) rfl 0 11 (by decide) kf_X10_38 rfl rfl dX10_ages_13 ?_
      refine r_iconst 4 C dX10_ages_16 rfl ?_
      refine lv_iload_n C.1 C.2.1 dX10_ages_17 rfl (lv_at hl 0 rfl) ?_
      refine r_mulN C dX10_ages_18 ?_
      refine r_iconst 2 C dX10_ages_19 rfl ?_
      refine r_addN C dX10_ages_20 ?_
      refine lv_dup2_11 C.1 C.2.1 dX10_ages_21 rfl rfl ?_
      refine r_aldN C hK hP 2 rfl ⟨by omega, by omega⟩ dX10_ages_22 ?_
      refine lv_iload_n C.1 C.2.1 dX10_ages_23 rfl (lv_at hl 2 rfl) ?_
      refine r_addN C dX10_ages_24 ?_
      refine r_astN C hK hP hD hS 2 rfl ⟨by omega, by omega⟩ dX10_ages_25 (fun H locs hP hD hS => ?_)
      have hP : va_P g.1 vwCl [(mo0, .inr (8, [nV mL, .ref mA1, nV mAt, .ref mA3, .ref mA4, .ref mA5, .ref mA6, .ref mA7, .ref mA8, .ref mA9, .ref mA10, .ref mA11, .ref mA12, nV kz, nV dn, .ref mA15, .ref mA16, .ref mA17, mV mAb, mV mBe, .ref mA20, zV mCl])), (mA10, cN g 3 mlv), (mA11, cN g 96 (upN fA ((4 * i) + 2) ((fA ((4 * i) + 2)) + 1)))] H := hP
      have hD : va_D A [(mo0, .inr (8, [nV mL, .ref mA1, nV mAt, .ref mA3, .ref mA4, .ref mA5, .ref mA6, .ref mA7, .ref mA8, .ref mA9, .ref mA10, .ref mA11, .ref mA12, nV kz, nV dn, .ref mA15, .ref mA16, .ref mA17, mV mAb, mV mBe, .ref mA20, zV mCl])), (mA10, cN g 3 mlv), (mA11, cN g 96 (upN fA ((4 * i) + 2) ((fA ((4 * i) + 2)) + 1)))] := hD
      refine r_incN (k := 0) (n := 1) [(2, nV (i + 1)), (0, .ref mo0), (1, nV 1)] C dX10_ages_26 hl rfl rfl (by decide) rfl (fun ls hl => ?_)
      refine r_goto 2 C dX10_ages_29 rfl ?_
      exact ih_2 (i + 1) (upN fA ((4 * i) + 2) ((fA ((4 * i) + 2)) + 1)) _ _ _ (by first | assumption | omega) (by rw [hfA]; exact mday_s) (by omega) hP hD hS (lv_sub hl [0, 1, 2] rfl)
  exact L2 (mlv 0 - 0 + 1) 0 mlf _ _ _ (by first | assumption | omega) (mday_0.symm) (Nat.lt_succ_self _) hP hD hS (lv_sub hl [0, 1, 2] rfl)
set_option maxHeartbeats 4000000 in
set_option maxRecDepth 100000 in
theorem c_X10_ages_d (l : Launch) (g : GG) (mo0 : Nat) (mA1 : Nat) (mA3 : Nat) (mA4 : Nat) (mA5 : Nat) (mA6 : Nat) (mA7 : Nat) (mA8 : Nat) (mA9 : Nat) (mA10 : Nat) (mA11 : Nat) (mA12 : Nat) (mA15 : Nat) (mA16 : Nat) (mA17 : Nat) (mA20 : Nat) (mL : Nat) (mAt : Nat) (kz : Nat) (dn : Nat) (mAb : Nat) (mBe : Nat) (mCl : Int) (mlv : Nat → Nat) (mlf : Nat → Nat) (hl8 : mlv 0 ≤ 8) (hge : ∀ i, i < mlv 0 → 1 ≤ mlf (4 * i + 2)) : WRv g l yX10_ages cX10_ages 3 1 [(mo0, .inr (8, [nV mL, .ref mA1, nV mAt, .ref mA3, .ref mA4, .ref mA5, .ref mA6, .ref mA7, .ref mA8, .ref mA9, .ref mA10, .ref mA11, .ref mA12, nV kz, nV dn, .ref mA15, .ref mA16, .ref mA17, mV mAb, mV mBe, .ref mA20, zV mCl])), (mA10, cN g 3 mlv), (mA11, cN g 96 mlf)] [.ref mo0, zV (-1)] (fun (_ : Unit) => True) (fun (_ : Unit) => [(mo0, .inr (8, [nV mL, .ref mA1, nV mAt, .ref mA3, .ref mA4, .ref mA5, .ref mA6, .ref mA7, .ref mA8, .ref mA9, .ref mA10, .ref mA11, .ref mA12, nV kz, nV dn, .ref mA15, .ref mA16, .ref mA17, mV mAb, mV mBe, .ref mA20, zV mCl])), (mA10, cN g 3 mlv), (mA11, cN g 96 (mdad mlf (mlv 0)))]) := by
  refine wr_startV (by decide +kernel) (Nat.le_of_ble_eq_true rfl) ?_
  intro p e s m args below meth c Q A ls C hK hA ret hP hD hS hl
  have C : CT p s m args meth c cX10_ages RX10 3 := C
  have hl : lv_has ls 3 [(0, .ref mo0), (1, zV (-1))] := hl
  refine r_iconst 0 C dX10_ages_0 rfl ?_
  refine lv_istore_n (lv' := [(2, nV 0), (0, .ref mo0), (1, zV (-1))]) C.1 C.2.1 dX10_ages_1 rfl hl (by decide) rfl (fun ls hl => ?_)
  have L2 : ∀ (n_2 : Nat) (i : Nat) (fA : Nat → Nat) (H : Heap) (locs : List Loc) (ls : Array Slot) (hi : i ≤ mlv 0) (hfA : fA = mdad mlf i) (hm : mlv 0 - i < n_2) (hP : va_P g.1 vwCl [(mo0, .inr (8, [nV mL, .ref mA1, nV mAt, .ref mA3, .ref mA4, .ref mA5, .ref mA6, .ref mA7, .ref mA8, .ref mA9, .ref mA10, .ref mA11, .ref mA12, nV kz, nV dn, .ref mA15, .ref mA16, .ref mA17, mV mAb, mV mBe, .ref mA20, zV mCl])), (mA10, cN g 3 mlv), (mA11, cN g 96 fA)] H) (hD : va_D A [(mo0, .inr (8, [nV mL, .ref mA1, nV mAt, .ref mA3, .ref mA4, .ref mA5, .ref mA6, .ref mA7, .ref mA8, .ref mA9, .ref mA10, .ref mA11, .ref mA12, nV kz, nV dn, .ref mA15, .ref mA16, .ref mA17, mV mAb, mV mBe, .ref mA20, zV mCl])), (mA10, cN g 3 mlv), (mA11, cN g 96 fA)]) (hS : va_S A s.heap H locs) (hl : lv_has ls 3 [(2, nV i), (0, .ref mo0), (1, zV (-1))]), W p l e (rD 1) s m args below meth c H locs 0 0 Q (F0 m 2 ls []) := by
    intro n_2
    induction n_2 with
    | zero => intro i fA H locs ls hi hfA hm hP hD hS hl; exact absurd hm (Nat.not_lt_zero _)
    | succ n_2 ih_2 =>
      intro i fA H locs ls hi hfA hm hP hD hS hl
      refine lv_iload_n C.1 C.2.1 dX10_ages_2 rfl (lv_at hl 0 rfl) ?_
      refine lv_aload_n C.1 C.2.1 dX10_ages_3 rfl (lv_at hl 1 rfl) ?_
      refine r_get C hK hP kw_X10 (ci := 8) rfl 0 10 (by decide) kf_X10_35 rfl rfl dX10_ages_4 ?_
      refine r_iconst 0 C dX10_ages_7 rfl ?_
      refine r_aldN C hK hP 1 rfl ⟨by omega, by omega⟩ dX10_ages_8 ?_
      refine r_cge 32 C dX10_ages_9 rfl ⟨rgN (by omega), rgN (by omega)⟩ (fun h_1 => ?_) (fun h_1 => ?_)
      · skip
        exact ret (()) dX10_ages_32 hS (by rw [hfA, show i = mlv 0 by omega] at hP; exact hP) (trivial)
      refine lv_aload_n C.1 C.2.1 dX10_ages_12 rfl (lv_at hl 1 rfl) ?_
      refine r_get C hK hP kw_X10 (ci := 8) rfl 0 11 (by decide) kf_X10_38 rfl rfl dX10_ages_13 ?_
      refine r_iconst 4 C dX10_ages_16 rfl ?_
      refine lv_iload_n C.1 C.2.1 dX10_ages_17 rfl (lv_at hl 0 rfl) ?_
      refine r_mulN C dX10_ages_18 ?_
      refine r_iconst 2 C dX10_ages_19 rfl ?_
      refine r_addN C dX10_ages_20 ?_
      refine lv_dup2_11 C.1 C.2.1 dX10_ages_21 rfl rfl ?_
      refine r_aldN C hK hP 2 rfl ⟨by omega, by omega⟩ dX10_ages_22 ?_
      refine lv_iload_n C.1 C.2.1 dX10_ages_23 rfl (lv_at hl 2 rfl) ?_
      refine r_addZ C dX10_ages_24 ?_
      refine r_topN (fA ((4 * i) + 2) - 1) (by have h1 := hge i (by omega); have h2 : fA ((4 * i) + 2) = mlf (4 * i + 2) := (by rw [hfA]; exact mdad_at); omega) ?_
      refine r_astN C hK hP hD hS 2 rfl ⟨by omega, by omega⟩ dX10_ages_25 (fun H locs hP hD hS => ?_)
      have hP : va_P g.1 vwCl [(mo0, .inr (8, [nV mL, .ref mA1, nV mAt, .ref mA3, .ref mA4, .ref mA5, .ref mA6, .ref mA7, .ref mA8, .ref mA9, .ref mA10, .ref mA11, .ref mA12, nV kz, nV dn, .ref mA15, .ref mA16, .ref mA17, mV mAb, mV mBe, .ref mA20, zV mCl])), (mA10, cN g 3 mlv), (mA11, cN g 96 (upN fA ((4 * i) + 2) (fA ((4 * i) + 2) - 1)))] H := hP
      have hD : va_D A [(mo0, .inr (8, [nV mL, .ref mA1, nV mAt, .ref mA3, .ref mA4, .ref mA5, .ref mA6, .ref mA7, .ref mA8, .ref mA9, .ref mA10, .ref mA11, .ref mA12, nV kz, nV dn, .ref mA15, .ref mA16, .ref mA17, mV mAb, mV mBe, .ref mA20, zV mCl])), (mA10, cN g 3 mlv), (mA11, cN g 96 (upN fA ((4 * i) + 2) (fA ((4 * i) + 2) - 1)))] := hD
      refine r_incN (k := 0) (n := 1) [(2, nV (i + 1)), (0, .ref mo0), (1, zV (-1))] C dX10_ages_26 hl rfl rfl (by decide) rfl (fun ls hl => ?_)
      refine r_goto 2 C dX10_ages_29 rfl ?_
      exact ih_2 (i + 1) (upN fA ((4 * i) + 2) (fA ((4 * i) + 2) - 1)) _ _ _ (by first | assumption | omega) (by rw [hfA]; exact mdad_s) (by omega) hP hD hS (lv_sub hl [0, 1, 2] rfl)
  exact L2 (mlv 0 - 0 + 1) 0 mlf _ _ _ (by first | assumption | omega) (mdad_0.symm) (Nat.lt_succ_self _) hP hD hS (lv_sub hl [0, 1, 2] rfl)
set_option maxHeartbeats 4000000 in
set_option maxRecDepth 100000 in
theorem c_X10_bake_ok (l : Launch) (g : GG) (mo0 : Nat) (mA1 : Nat) (mA3 : Nat) (mA4 : Nat) (mA5 : Nat) (mA6 : Nat) (mA7 : Nat) (mA8 : Nat) (mA9 : Nat) (mA10 : Nat) (mA11 : Nat) (mA12 : Nat) (mA15 : Nat) (mA16 : Nat) (mA17 : Nat) (mA20 : Nat) (mL : Nat) (mAt : Nat) (kz : Nat) (dn : Nat) (mAb : Nat) (mBe : Nat) (mCl : Int) (mws : Nat → Nat) (mwd : Nat → Nat) (mlv : Nat → Nat) (mlf : Nat → Nat) (mfl : Nat → Int) (mdi : Nat → Nat) (sg : Nat → Nat) (k : Nat) (xn : Nat) (yn : Nat) (hk0 : mws 0 = k) (hk : k ≤ 8) (hsg : ∀ j, sg j < 72) (hwd : ∀ j, j < k → mwd (2 * j) = sg j) (hdn : dn ≤ 8) (hx : xn < k) (hy : yn < 4) (hl7 : mlv 0 < 8) : WRi g l yX10_bake cX10_bake 4 (some .int) 3 [(mo0, .inr (8, [nV mL, .ref mA1, nV mAt, .ref mA3, .ref mA4, .ref mA5, .ref mA6, .ref mA7, .ref mA8, .ref mA9, .ref mA10, .ref mA11, .ref mA12, nV kz, nV dn, .ref mA15, .ref mA16, .ref mA17, mV mAb, mV mBe, .ref mA20, zV mCl])), (mA4, cN g 2 mws), (mA5, cN g 32 mwd), (mA10, cN g 3 mlv), (mA11, cN g 96 mlf), (mA12, cZ g 3 mfl), (mA15, cN g 48 mdi)] [.ref mo0, nV xn, nV yn] (fun r (_ : Unit) => r = iI ((mlv 0 + 1 : Nat) : Int)) (fun (_ : Unit) => [(mo0, .inr (8, [nV mL, .ref mA1, nV mAt, .ref mA3, .ref mA4, .ref mA5, .ref mA6, .ref mA7, .ref mA8, .ref mA9, .ref mA10, .ref mA11, .ref mA12, nV kz, nV (ssz 8 dn), .ref mA15, .ref mA16, .ref mA17, mV mAb, mV mBe, .ref mA20, zV mCl])), (mA4, cN g 2 mws), (mA5, cN g 32 mwd), (mA10, cN g 3 (upN mlv 0 (mlv 0 + 1))), (mA11, cN g 96 (mbk mlf (mlv 0) xn yn)), (mA12, cZ g 3 (upZ mfl 0 (mfl 0 + ((flk (bkd sg k xn yn) yn : Nat) : Int)))), (mA15, cN g 48 (kset mdi (mbk mlf (mlv 0) xn yn) dn 0 (mlv 0)))]) := by
  refine wr_startI (by decide +kernel) (Nat.le_of_ble_eq_true rfl) ?_
  intro p e s m args below meth c Q A ls C hK hA ret hP hD hS hl
  have C : CT p s m args meth c cX10_bake RX10 4 := C
  have hl : lv_has ls 4 [(0, .ref mo0), (1, nV xn), (2, nV yn)] := hl
  refine lv_aload_n C.1 C.2.1 dX10_bake_0 rfl (lv_at hl 0 rfl) ?_
  refine lv_iload_n C.1 C.2.1 dX10_bake_1 rfl (lv_at hl 1 rfl) ?_
  refine ro_callV (As := [nV xn]) (rest := []) C hK (c_X10_isWord l g mo0 mA1 mA3 mA4 mA5 mA6 mA7 mA8 mA9 mA10 mA11 mA12 mA15 mA16 mA17 mA20 mL mAt kz dn mAb mBe mCl mws k ((xn : Nat) : Int) (by first | assumption | omega) (by first | assumption | omega) (by first | assumption | exact ⟨by omega, by omega⟩)) (hP.sub (ws' := [(mo0, .inr (8, [nV mL, .ref mA1, nV mAt, .ref mA3, .ref mA4, .ref mA5, .ref mA6, .ref mA7, .ref mA8, .ref mA9, .ref mA10, .ref mA11, .ref mA12, nV kz, nV dn, .ref mA15, .ref mA16, .ref mA17, mV mAb, mV mBe, .ref mA20, zV mCl])), (mA4, cN g 2 mws)]) [0, 1] rfl) (ci := 8) (q0 := 0) rfl rfl kc_X10_isWord kl_X10_111 kn_X10 ki_X10_isWord ke_X10_isWord nk_X10_isWord (rm_lt (by decide) (by decide)) hl rfl (Nat.le_of_ble_eq_true rfl) dX10_bake_2 (fun r_1 hr_2 => ?_)
  subst hr_2
  refine r_beq 20 C dX10_bake_5 rfl (fun h_3 => ?_) (fun h_3 => ?_)
  · exact absurd h_3 (by omega)
  refine lv_iload_n C.1 C.2.1 dX10_bake_8 rfl (lv_at hl 2 rfl) ?_
  refine r_i2l C dX10_bake_9 (rgN (by omega)) ?_
  refine r_lconst 0 C dX10_bake_10 rfl ?_
  refine r_ldc2N 3 C kv_X10_131 dX10_bake_11 rfl ?_
  refine ro_callS (As := [mV yn, mV 0, mV 3]) (rest := []) C hK (c_X10_in l g ((yn : Nat) : Int) ((0 : Nat) : Int) ((3 : Nat) : Int) (by first | assumption | exact ⟨by omega, by omega⟩) (by first | assumption | exact ⟨by omega, by omega⟩) (by first | assumption | exact ⟨by omega, by omega⟩)) (hP.sub (ws' := []) [] rfl) kc_X10_in kl_X10_65 kn_X10 ks_X10_in nk_X10_in (rm_lt (by decide) (by decide)) hl rfl (Nat.le_of_ble_eq_true rfl) dX10_bake_14 (fun r_4 hr_5 => ?_)
  subst hr_5
  refine r_bne 22 C dX10_bake_17 rfl (fun h_6 => ?_) (fun h_6 => ?_)
  rotate_left
  · exact absurd h_6 (by omega)
  refine lv_aload_n C.1 C.2.1 dX10_bake_22 rfl (lv_at hl 0 rfl) ?_
  refine r_get C hK hP kw_X10 (ci := 8) rfl 0 10 (by decide) kf_X10_35 rfl rfl dX10_bake_23 ?_
  refine r_iconst 0 C dX10_bake_26 rfl ?_
  refine r_aldN C hK hP 3 rfl ⟨by omega, by omega⟩ dX10_bake_27 ?_
  refine r_bipush 8 C dX10_bake_28 (by decide) ?_
  refine r_cne 36 C dX10_bake_30 rfl ⟨rgN (by omega), rgN (by decide)⟩ (fun h_7 => ?_) (fun h_7 => ?_)
  rotate_left
  · exact absurd h_7 (by omega)
  refine lv_aload_n C.1 C.2.1 dX10_bake_36 rfl (lv_at hl 0 rfl) ?_
  refine r_get C hK hP kw_X10 (ci := 8) rfl 0 10 (by decide) kf_X10_35 rfl rfl dX10_bake_37 ?_
  refine r_iconst 0 C dX10_bake_40 rfl ?_
  refine r_aldN C hK hP 3 rfl ⟨by omega, by omega⟩ dX10_bake_41 ?_
  refine lv_istore_n (lv' := [(3, nV (mlv 0)), (0, .ref mo0), (1, nV xn), (2, nV yn)]) C.1 C.2.1 dX10_bake_42 rfl hl (by decide) rfl (fun ls hl => ?_)
  refine lv_aload_n C.1 C.2.1 dX10_bake_43 rfl (lv_at hl 1 rfl) ?_
  refine r_get C hK hP kw_X10 (ci := 8) rfl 0 11 (by decide) kf_X10_38 rfl rfl dX10_bake_44 ?_
  refine r_iconst 4 C dX10_bake_47 rfl ?_
  refine lv_iload_n C.1 C.2.1 dX10_bake_48 rfl (lv_at hl 0 rfl) ?_
  refine r_mulN C dX10_bake_49 ?_
  refine lv_iload_n C.1 C.2.1 dX10_bake_50 rfl (lv_at hl 2 rfl) ?_
  refine r_astN C hK hP hD hS 4 rfl ⟨by omega, by omega⟩ dX10_bake_51 (fun H locs hP hD hS => ?_)
  have hP : va_P g.1 vwCl [(mo0, .inr (8, [nV mL, .ref mA1, nV mAt, .ref mA3, .ref mA4, .ref mA5, .ref mA6, .ref mA7, .ref mA8, .ref mA9, .ref mA10, .ref mA11, .ref mA12, nV kz, nV dn, .ref mA15, .ref mA16, .ref mA17, mV mAb, mV mBe, .ref mA20, zV mCl])), (mA4, cN g 2 mws), (mA5, cN g 32 mwd), (mA10, cN g 3 mlv), (mA11, cN g 96 (upN mlf (4 * (mlv 0)) xn)), (mA12, cZ g 3 mfl), (mA15, cN g 48 mdi)] H := hP
  have hD : va_D A [(mo0, .inr (8, [nV mL, .ref mA1, nV mAt, .ref mA3, .ref mA4, .ref mA5, .ref mA6, .ref mA7, .ref mA8, .ref mA9, .ref mA10, .ref mA11, .ref mA12, nV kz, nV dn, .ref mA15, .ref mA16, .ref mA17, mV mAb, mV mBe, .ref mA20, zV mCl])), (mA4, cN g 2 mws), (mA5, cN g 32 mwd), (mA10, cN g 3 mlv), (mA11, cN g 96 (upN mlf (4 * (mlv 0)) xn)), (mA12, cZ g 3 mfl), (mA15, cN g 48 mdi)] := hD
  refine lv_aload_n C.1 C.2.1 dX10_bake_52 rfl (lv_at hl 1 rfl) ?_
  refine r_get C hK hP kw_X10 (ci := 8) rfl 0 11 (by decide) kf_X10_38 rfl rfl dX10_bake_53 ?_
  refine r_iconst 4 C dX10_bake_56 rfl ?_
  refine lv_iload_n C.1 C.2.1 dX10_bake_57 rfl (lv_at hl 0 rfl) ?_
  refine r_mulN C dX10_bake_58 ?_
  refine r_iconst 1 C dX10_bake_59 rfl ?_
  refine r_addN C dX10_bake_60 ?_
  refine lv_iload_n C.1 C.2.1 dX10_bake_61 rfl (lv_at hl 3 rfl) ?_
  refine r_astN C hK hP hD hS 4 rfl ⟨by omega, by omega⟩ dX10_bake_62 (fun H locs hP hD hS => ?_)
  have hP : va_P g.1 vwCl [(mo0, .inr (8, [nV mL, .ref mA1, nV mAt, .ref mA3, .ref mA4, .ref mA5, .ref mA6, .ref mA7, .ref mA8, .ref mA9, .ref mA10, .ref mA11, .ref mA12, nV kz, nV dn, .ref mA15, .ref mA16, .ref mA17, mV mAb, mV mBe, .ref mA20, zV mCl])), (mA4, cN g 2 mws), (mA5, cN g 32 mwd), (mA10, cN g 3 mlv), (mA11, cN g 96 (upN (upN mlf (4 * (mlv 0)) xn) ((4 * (mlv 0)) + 1) yn)), (mA12, cZ g 3 mfl), (mA15, cN g 48 mdi)] H := hP
  have hD : va_D A [(mo0, .inr (8, [nV mL, .ref mA1, nV mAt, .ref mA3, .ref mA4, .ref mA5, .ref mA6, .ref mA7, .ref mA8, .ref mA9, .ref mA10, .ref mA11, .ref mA12, nV kz, nV dn, .ref mA15, .ref mA16, .ref mA17, mV mAb, mV mBe, .ref mA20, zV mCl])), (mA4, cN g 2 mws), (mA5, cN g 32 mwd), (mA10, cN g 3 mlv), (mA11, cN g 96 (upN (upN mlf (4 * (mlv 0)) xn) ((4 * (mlv 0)) + 1) yn)), (mA12, cZ g 3 mfl), (mA15, cN g 48 mdi)] := hD
  refine lv_aload_n C.1 C.2.1 dX10_bake_63 rfl (lv_at hl 1 rfl) ?_
  refine r_get C hK hP kw_X10 (ci := 8) rfl 0 11 (by decide) kf_X10_38 rfl rfl dX10_bake_64 ?_
  refine r_iconst 4 C dX10_bake_67 rfl ?_
  refine lv_iload_n C.1 C.2.1 dX10_bake_68 rfl (lv_at hl 0 rfl) ?_
  refine r_mulN C dX10_bake_69 ?_
  refine r_iconst 2 C dX10_bake_70 rfl ?_
  refine r_addN C dX10_bake_71 ?_
  refine r_iconst 0 C dX10_bake_72 rfl ?_
  refine r_astN C hK hP hD hS 4 rfl ⟨by omega, by omega⟩ dX10_bake_73 (fun H locs hP hD hS => ?_)
  have hP : va_P g.1 vwCl [(mo0, .inr (8, [nV mL, .ref mA1, nV mAt, .ref mA3, .ref mA4, .ref mA5, .ref mA6, .ref mA7, .ref mA8, .ref mA9, .ref mA10, .ref mA11, .ref mA12, nV kz, nV dn, .ref mA15, .ref mA16, .ref mA17, mV mAb, mV mBe, .ref mA20, zV mCl])), (mA4, cN g 2 mws), (mA5, cN g 32 mwd), (mA10, cN g 3 mlv), (mA11, cN g 96 (upN (upN (upN mlf (4 * (mlv 0)) xn) ((4 * (mlv 0)) + 1) yn) ((4 * (mlv 0)) + 2) 0)), (mA12, cZ g 3 mfl), (mA15, cN g 48 mdi)] H := hP
  have hD : va_D A [(mo0, .inr (8, [nV mL, .ref mA1, nV mAt, .ref mA3, .ref mA4, .ref mA5, .ref mA6, .ref mA7, .ref mA8, .ref mA9, .ref mA10, .ref mA11, .ref mA12, nV kz, nV dn, .ref mA15, .ref mA16, .ref mA17, mV mAb, mV mBe, .ref mA20, zV mCl])), (mA4, cN g 2 mws), (mA5, cN g 32 mwd), (mA10, cN g 3 mlv), (mA11, cN g 96 (upN (upN (upN mlf (4 * (mlv 0)) xn) ((4 * (mlv 0)) + 1) yn) ((4 * (mlv 0)) + 2) 0)), (mA12, cZ g 3 mfl), (mA15, cN g 48 mdi)] := hD
  refine lv_aload_n C.1 C.2.1 dX10_bake_74 rfl (lv_at hl 1 rfl) ?_
  refine r_get C hK hP kw_X10 (ci := 8) rfl 0 11 (by decide) kf_X10_38 rfl rfl dX10_bake_75 ?_
  refine r_iconst 4 C dX10_bake_78 rfl ?_
  refine lv_iload_n C.1 C.2.1 dX10_bake_79 rfl (lv_at hl 0 rfl) ?_
  refine r_mulN C dX10_bake_80 ?_
  refine r_iconst 3 C dX10_bake_81 rfl ?_
  refine r_addN C dX10_bake_82 ?_
  refine r_iconst 0 C dX10_bake_83 rfl ?_
  refine r_astN C hK hP hD hS 4 rfl ⟨by omega, by omega⟩ dX10_bake_84 (fun H locs hP hD hS => ?_)
  have hP : va_P g.1 vwCl [(mo0, .inr (8, [nV mL, .ref mA1, nV mAt, .ref mA3, .ref mA4, .ref mA5, .ref mA6, .ref mA7, .ref mA8, .ref mA9, .ref mA10, .ref mA11, .ref mA12, nV kz, nV dn, .ref mA15, .ref mA16, .ref mA17, mV mAb, mV mBe, .ref mA20, zV mCl])), (mA4, cN g 2 mws), (mA5, cN g 32 mwd), (mA10, cN g 3 mlv), (mA11, cN g 96 (upN (upN (upN (upN mlf (4 * (mlv 0)) xn) ((4 * (mlv 0)) + 1) yn) ((4 * (mlv 0)) + 2) 0) ((4 * (mlv 0)) + 3) 0)), (mA12, cZ g 3 mfl), (mA15, cN g 48 mdi)] H := hP
  have hD : va_D A [(mo0, .inr (8, [nV mL, .ref mA1, nV mAt, .ref mA3, .ref mA4, .ref mA5, .ref mA6, .ref mA7, .ref mA8, .ref mA9, .ref mA10, .ref mA11, .ref mA12, nV kz, nV dn, .ref mA15, .ref mA16, .ref mA17, mV mAb, mV mBe, .ref mA20, zV mCl])), (mA4, cN g 2 mws), (mA5, cN g 32 mwd), (mA10, cN g 3 mlv), (mA11, cN g 96 (upN (upN (upN (upN mlf (4 * (mlv 0)) xn) ((4 * (mlv 0)) + 1) yn) ((4 * (mlv 0)) + 2) 0) ((4 * (mlv 0)) + 3) 0)), (mA12, cZ g 3 mfl), (mA15, cN g 48 mdi)] := hD
  refine lv_aload_n C.1 C.2.1 dX10_bake_85 rfl (lv_at hl 1 rfl) ?_
  refine r_get C hK hP kw_X10 (ci := 8) rfl 0 10 (by decide) kf_X10_35 rfl rfl dX10_bake_86 ?_
  refine r_iconst 0 C dX10_bake_89 rfl ?_
  refine lv_dup2_11 C.1 C.2.1 dX10_bake_90 rfl rfl ?_
  refine r_aldN C hK hP 3 rfl ⟨by omega, by omega⟩ dX10_bake_91 ?_
  refine r_iconst 1 C dX10_bake_92 rfl ?_
  refine r_addN C dX10_bake_93 ?_
  refine r_astN C hK hP hD hS 3 rfl ⟨by omega, by omega⟩ dX10_bake_94 (fun H locs hP hD hS => ?_)
  have hP : va_P g.1 vwCl [(mo0, .inr (8, [nV mL, .ref mA1, nV mAt, .ref mA3, .ref mA4, .ref mA5, .ref mA6, .ref mA7, .ref mA8, .ref mA9, .ref mA10, .ref mA11, .ref mA12, nV kz, nV dn, .ref mA15, .ref mA16, .ref mA17, mV mAb, mV mBe, .ref mA20, zV mCl])), (mA4, cN g 2 mws), (mA5, cN g 32 mwd), (mA10, cN g 3 (upN mlv 0 ((mlv 0) + 1))), (mA11, cN g 96 (upN (upN (upN (upN mlf (4 * (mlv 0)) xn) ((4 * (mlv 0)) + 1) yn) ((4 * (mlv 0)) + 2) 0) ((4 * (mlv 0)) + 3) 0)), (mA12, cZ g 3 mfl), (mA15, cN g 48 mdi)] H := hP
  have hD : va_D A [(mo0, .inr (8, [nV mL, .ref mA1, nV mAt, .ref mA3, .ref mA4, .ref mA5, .ref mA6, .ref mA7, .ref mA8, .ref mA9, .ref mA10, .ref mA11, .ref mA12, nV kz, nV dn, .ref mA15, .ref mA16, .ref mA17, mV mAb, mV mBe, .ref mA20, zV mCl])), (mA4, cN g 2 mws), (mA5, cN g 32 mwd), (mA10, cN g 3 (upN mlv 0 ((mlv 0) + 1))), (mA11, cN g 96 (upN (upN (upN (upN mlf (4 * (mlv 0)) xn) ((4 * (mlv 0)) + 1) yn) ((4 * (mlv 0)) + 2) 0) ((4 * (mlv 0)) + 3) 0)), (mA12, cZ g 3 mfl), (mA15, cN g 48 mdi)] := hD
  refine lv_aload_n C.1 C.2.1 dX10_bake_95 rfl (lv_at hl 1 rfl) ?_
  refine r_get C hK hP kw_X10 (ci := 8) rfl 0 12 (by decide) kf_X10_41 rfl rfl dX10_bake_96 ?_
  refine r_iconst 0 C dX10_bake_99 rfl ?_
  refine lv_dup2_11 C.1 C.2.1 dX10_bake_100 rfl rfl ?_
  refine r_aldZ C hK hP 5 rfl ⟨by omega, by omega⟩ dX10_bake_101 ?_
  refine lv_aload_n C.1 C.2.1 dX10_bake_102 rfl (lv_at hl 1 rfl) ?_
  refine lv_iload_n C.1 C.2.1 dX10_bake_103 rfl (lv_at hl 2 rfl) ?_
  refine lv_iload_n C.1 C.2.1 dX10_bake_104 rfl (lv_at hl 3 rfl) ?_
  refine ro_callV (As := [nV xn, nV yn]) (rest := [zV (mfl 0), nV 0, .ref mA12]) C hK (c_X10_used l g mo0 mA1 mA3 mA4 mA5 mA6 mA7 mA8 mA9 mA10 mA11 mA12 mA15 mA16 mA17 mA20 mL mAt kz dn mAb mBe mCl mws mwd sg k xn yn (by first | assumption | omega) (by first | assumption | omega) (by first | assumption | omega) (by first | assumption | omega) (by first | assumption | omega) (by first | assumption | omega)) (hP.sub (ws' := [(mo0, .inr (8, [nV mL, .ref mA1, nV mAt, .ref mA3, .ref mA4, .ref mA5, .ref mA6, .ref mA7, .ref mA8, .ref mA9, .ref mA10, .ref mA11, .ref mA12, nV kz, nV dn, .ref mA15, .ref mA16, .ref mA17, mV mAb, mV mBe, .ref mA20, zV mCl])), (mA4, cN g 2 mws), (mA5, cN g 32 mwd)]) [0, 1, 2] rfl) (ci := 8) (q0 := 0) rfl rfl kc_X10_used kl_X10_133 kn_X10 ki_X10_used ke_X10_used nk_X10_used (rm_lt (by decide) (by decide)) hl rfl (Nat.le_of_ble_eq_true rfl) dX10_bake_105 (fun r_8 hr_9 => ?_)
  subst hr_9
  have hf_10 := flk_bd (bkd sg k (xn) (yn)) (yn) (hsg _)
  refine r_addZ C dX10_bake_108 ?_
  refine r_astZ C hK hP hD hS 5 rfl ⟨by omega, by omega⟩ dX10_bake_109 (fun H locs hP hD hS => ?_)
  have hP : va_P g.1 vwCl [(mo0, .inr (8, [nV mL, .ref mA1, nV mAt, .ref mA3, .ref mA4, .ref mA5, .ref mA6, .ref mA7, .ref mA8, .ref mA9, .ref mA10, .ref mA11, .ref mA12, nV kz, nV dn, .ref mA15, .ref mA16, .ref mA17, mV mAb, mV mBe, .ref mA20, zV mCl])), (mA4, cN g 2 mws), (mA5, cN g 32 mwd), (mA10, cN g 3 (upN mlv 0 ((mlv 0) + 1))), (mA11, cN g 96 (upN (upN (upN (upN mlf (4 * (mlv 0)) xn) ((4 * (mlv 0)) + 1) yn) ((4 * (mlv 0)) + 2) 0) ((4 * (mlv 0)) + 3) 0)), (mA12, cZ g 3 (upZ mfl 0 ((mfl 0) + ((flk (bkd sg k xn yn) yn : Nat) : Int)))), (mA15, cN g 48 mdi)] H := hP
  have hD : va_D A [(mo0, .inr (8, [nV mL, .ref mA1, nV mAt, .ref mA3, .ref mA4, .ref mA5, .ref mA6, .ref mA7, .ref mA8, .ref mA9, .ref mA10, .ref mA11, .ref mA12, nV kz, nV dn, .ref mA15, .ref mA16, .ref mA17, mV mAb, mV mBe, .ref mA20, zV mCl])), (mA4, cN g 2 mws), (mA5, cN g 32 mwd), (mA10, cN g 3 (upN mlv 0 ((mlv 0) + 1))), (mA11, cN g 96 (upN (upN (upN (upN mlf (4 * (mlv 0)) xn) ((4 * (mlv 0)) + 1) yn) ((4 * (mlv 0)) + 2) 0) ((4 * (mlv 0)) + 3) 0)), (mA12, cZ g 3 (upZ mfl 0 ((mfl 0) + ((flk (bkd sg k xn yn) yn : Nat) : Int)))), (mA15, cN g 48 mdi)] := hD
  refine lv_aload_n C.1 C.2.1 dX10_bake_110 rfl (lv_at hl 1 rfl) ?_
  refine r_iconst 0 C dX10_bake_111 rfl ?_
  refine lv_iload_n C.1 C.2.1 dX10_bake_112 rfl (lv_at hl 0 rfl) ?_
  refine wr_callVV (As := [nV 0, nV (mlv 0)]) (rest := []) C hK (c_X10_known l g mo0 mA1 mA3 mA4 mA5 mA6 mA7 mA8 mA9 mA10 mA11 mA12 mA15 mA16 mA17 mA20 mL mAt kz dn mAb mBe mCl (upN (upN (upN (upN mlf (4 * (mlv 0)) xn) ((4 * (mlv 0)) + 1) yn) ((4 * (mlv 0)) + 2) 0) ((4 * (mlv 0)) + 3) 0) mdi 0 (mlv 0) (by first | assumption | omega) (by first | assumption | omega)) [0, 4, 6] rfl (fun _ => rfl) (by decide) hP hD hS hA (ci := 8) (q0 := 0) rfl rfl kc_X10_known kl_X10_136 kn_X10 ki_X10_known ke_X10_known nk_X10_known (rm_lt (by decide) (by decide)) hl rfl (Nat.le_of_ble_eq_true rfl) dX10_bake_113 (fun u_13 H locs hr_12 hP hD hS => ?_)
  have hP : va_P g.1 vwCl [(mo0, .inr (8, [nV mL, .ref mA1, nV mAt, .ref mA3, .ref mA4, .ref mA5, .ref mA6, .ref mA7, .ref mA8, .ref mA9, .ref mA10, .ref mA11, .ref mA12, nV kz, nV (ssz 8 dn), .ref mA15, .ref mA16, .ref mA17, mV mAb, mV mBe, .ref mA20, zV mCl])), (mA4, cN g 2 mws), (mA5, cN g 32 mwd), (mA10, cN g 3 (upN mlv 0 ((mlv 0) + 1))), (mA11, cN g 96 (upN (upN (upN (upN mlf (4 * (mlv 0)) xn) ((4 * (mlv 0)) + 1) yn) ((4 * (mlv 0)) + 2) 0) ((4 * (mlv 0)) + 3) 0)), (mA12, cZ g 3 (upZ mfl 0 ((mfl 0) + ((flk (bkd sg k xn yn) yn : Nat) : Int)))), (mA15, cN g 48 (kset mdi (upN (upN (upN (upN mlf (4 * (mlv 0)) xn) ((4 * (mlv 0)) + 1) yn) ((4 * (mlv 0)) + 2) 0) ((4 * (mlv 0)) + 3) 0) dn 0 (mlv 0)))] H := hP
  have hD : va_D A [(mo0, .inr (8, [nV mL, .ref mA1, nV mAt, .ref mA3, .ref mA4, .ref mA5, .ref mA6, .ref mA7, .ref mA8, .ref mA9, .ref mA10, .ref mA11, .ref mA12, nV kz, nV (ssz 8 dn), .ref mA15, .ref mA16, .ref mA17, mV mAb, mV mBe, .ref mA20, zV mCl])), (mA4, cN g 2 mws), (mA5, cN g 32 mwd), (mA10, cN g 3 (upN mlv 0 ((mlv 0) + 1))), (mA11, cN g 96 (upN (upN (upN (upN mlf (4 * (mlv 0)) xn) ((4 * (mlv 0)) + 1) yn) ((4 * (mlv 0)) + 2) 0) ((4 * (mlv 0)) + 3) 0)), (mA12, cZ g 3 (upZ mfl 0 ((mfl 0) + ((flk (bkd sg k xn yn) yn : Nat) : Int)))), (mA15, cN g 48 (kset mdi (upN (upN (upN (upN mlf (4 * (mlv 0)) xn) ((4 * (mlv 0)) + 1) yn) ((4 * (mlv 0)) + 2) 0) ((4 * (mlv 0)) + 3) 0) dn 0 (mlv 0)))] := hD
  refine lv_aload_n C.1 C.2.1 dX10_bake_116 rfl (lv_at hl 1 rfl) ?_
  refine r_get C hK hP kw_X10 (ci := 8) rfl 0 10 (by decide) kf_X10_35 rfl rfl dX10_bake_117 ?_
  refine r_iconst 0 C dX10_bake_120 rfl ?_
  refine r_aldN C hK hP 3 rfl ⟨by omega, by omega⟩ dX10_bake_121 ?_
  exact ret (()) dX10_bake_122 hS hP (rfl)
set_option maxHeartbeats 4000000 in
set_option maxRecDepth 100000 in
theorem c_X10_bake_no (l : Launch) (g : GG) (mo0 : Nat) (mA1 : Nat) (mA3 : Nat) (mA4 : Nat) (mA5 : Nat) (mA6 : Nat) (mA7 : Nat) (mA8 : Nat) (mA9 : Nat) (mA10 : Nat) (mA11 : Nat) (mA12 : Nat) (mA15 : Nat) (mA16 : Nat) (mA17 : Nat) (mA20 : Nat) (mL : Nat) (mAt : Nat) (kz : Nat) (dn : Nat) (mAb : Nat) (mBe : Nat) (mCl : Int) (mws : Nat → Nat) (mlv : Nat → Nat) (k : Nat) (x : Int) (y : Int) (hk0 : mws 0 = k) (hk : k ≤ 8) (hl8 : mlv 0 ≤ 8) (hno : ¬ ((0 ≤ x ∧ x < (k : Int)) ∧ (0 ≤ y ∧ y ≤ 3) ∧ mlv 0 < 8)) (hx : rg x) (hy : rg y) : ROi g l yX10_bake cX10_bake 4 (some .int) 3 [(mo0, .inr (8, [nV mL, .ref mA1, nV mAt, .ref mA3, .ref mA4, .ref mA5, .ref mA6, .ref mA7, .ref mA8, .ref mA9, .ref mA10, .ref mA11, .ref mA12, nV kz, nV dn, .ref mA15, .ref mA16, .ref mA17, mV mAb, mV mBe, .ref mA20, zV mCl])), (mA4, cN g 2 mws), (mA10, cN g 3 mlv)] [.ref mo0, zV x, zV y] (fun r => r = iI (if (0 ≤ x ∧ x < (k : Int)) ∧ (0 ≤ y ∧ y ≤ 3) then -3 else -1)) := by
  refine ro_startI (by decide +kernel) (Nat.le_of_ble_eq_true rfl) ?_
  intro p e s m args below meth c Q ls C hK hP ret hl
  have C : CT p s m args meth c cX10_bake RX10 4 := C
  have hl : lv_has ls 4 [(0, .ref mo0), (1, zV x), (2, zV y)] := hl
  refine lv_aload_n C.1 C.2.1 dX10_bake_0 rfl (lv_at hl 0 rfl) ?_
  refine lv_iload_n C.1 C.2.1 dX10_bake_1 rfl (lv_at hl 1 rfl) ?_
  refine ro_callV (As := [zV x]) (rest := []) C hK (c_X10_isWord l g mo0 mA1 mA3 mA4 mA5 mA6 mA7 mA8 mA9 mA10 mA11 mA12 mA15 mA16 mA17 mA20 mL mAt kz dn mAb mBe mCl mws k x (by first | assumption | omega) (by first | assumption | omega) (by first | assumption | exact ⟨by omega, by omega⟩)) (hP.sub (ws' := [(mo0, .inr (8, [nV mL, .ref mA1, nV mAt, .ref mA3, .ref mA4, .ref mA5, .ref mA6, .ref mA7, .ref mA8, .ref mA9, .ref mA10, .ref mA11, .ref mA12, nV kz, nV dn, .ref mA15, .ref mA16, .ref mA17, mV mAb, mV mBe, .ref mA20, zV mCl])), (mA4, cN g 2 mws)]) [0, 1] rfl) (ci := 8) (q0 := 0) rfl rfl kc_X10_isWord kl_X10_111 kn_X10 ki_X10_isWord ke_X10_isWord nk_X10_isWord (rm_lt (by decide) (by decide)) hl rfl (Nat.le_of_ble_eq_true rfl) dX10_bake_2 (fun r_1 hr_2 => ?_)
  subst hr_2
  refine r_beq 20 C dX10_bake_5 rfl (fun h_3 => ?_) (fun h_3 => ?_)
  · skip
    refine r_iconstZ C dX10_bake_20 ?_
    exact ret dX10_bake_21 (by rw [if_neg (by omega)])
  refine lv_iload_n C.1 C.2.1 dX10_bake_8 rfl (lv_at hl 2 rfl) ?_
  refine r_i2l C dX10_bake_9 (⟨by omega, by omega⟩) ?_
  refine r_lconst 0 C dX10_bake_10 rfl ?_
  refine r_ldc2N 3 C kv_X10_131 dX10_bake_11 rfl ?_
  refine ro_callS (As := [jV y, mV 0, mV 3]) (rest := []) C hK (c_X10_in l g y ((0 : Nat) : Int) ((3 : Nat) : Int) (by first | assumption | exact ⟨by omega, by omega⟩) (by first | assumption | exact ⟨by omega, by omega⟩) (by first | assumption | exact ⟨by omega, by omega⟩)) (hP.sub (ws' := []) [] rfl) kc_X10_in kl_X10_65 kn_X10 ks_X10_in nk_X10_in (rm_lt (by decide) (by decide)) hl rfl (Nat.le_of_ble_eq_true rfl) dX10_bake_14 (fun r_4 hr_5 => ?_)
  subst hr_5
  refine r_bne 22 C dX10_bake_17 rfl (fun h_6 => ?_) (fun h_6 => ?_)
  · skip
    refine lv_aload_n C.1 C.2.1 dX10_bake_22 rfl (lv_at hl 0 rfl) ?_
    refine r_get C hK hP kw_X10 (ci := 8) rfl 0 10 (by decide) kf_X10_35 rfl rfl dX10_bake_23 ?_
    refine r_iconst 0 C dX10_bake_26 rfl ?_
    refine r_aldN C hK hP 2 rfl ⟨by omega, by omega⟩ dX10_bake_27 ?_
    refine r_bipush 8 C dX10_bake_28 (by decide) ?_
    refine r_cne 36 C dX10_bake_30 rfl ⟨rgN (by omega), rgN (by decide)⟩ (fun h_7 => ?_) (fun h_7 => ?_)
    · exact absurd h_7 (by omega)
    refine r_bipushZ C dX10_bake_33 (by decide) ?_
    exact ret dX10_bake_35 (by rw [if_pos (by omega)])
  refine r_iconstZ C dX10_bake_20 ?_
  exact ret dX10_bake_21 (by rw [if_neg (by omega)])
set_option maxHeartbeats 4000000 in
set_option maxRecDepth 100000 in
theorem c_X10_day (l : Launch) (g : GG) (mo0 : Nat) (mA1 : Nat) (mA3 : Nat) (mA4 : Nat) (mA5 : Nat) (mA6 : Nat) (mA7 : Nat) (mA8 : Nat) (mA9 : Nat) (mA10 : Nat) (mA11 : Nat) (mA12 : Nat) (mA15 : Nat) (mA16 : Nat) (mA17 : Nat) (mA20 : Nat) (mL : Nat) (mAt : Nat) (kz : Nat) (dn : Nat) (mAb : Nat) (mBe : Nat) (mCl : Int) (mtd : Nat → Nat) (mws : Nat → Nat) (mwd : Nat → Nat) (mlv : Nat → Nat) (mlf : Nat → Nat) (mdi : Nat → Nat) (sg : Nat → Nat) (k : Nat) (bi : Nat) (mo : Nat) (ce : Nat → Nat) (hk0 : mws 0 = k) (hk : k ≤ 8) (hsg : ∀ j, sg j < 72) (hwd : ∀ j, j < k → mwd (2 * j) = sg j) (hb0 : mtd 0 = bi) (hb1 : mtd 1 = mo) (hbm : (1 ≤ bi ∧ bi ≤ 9) ∧ (1 ≤ mo ∧ mo ≤ 9)) (hdn : dn ≤ 8) (hl0 : mlv 0 = ce 40) (hlo : LOK ce) (hlf : ∀ i p, i < ce 40 → p < 4 → mday mlf (mlv 0) (4 * i + p) = ce (i * 5 + p)) (hbk : ∀ i, i < ce 40 → ce (i * 5 + 4) = bkd sg k (ce (i * 5 + 0)) (ce (i * 5 + 1)) ∧ ce (i * 5 + 0) < k) : WRi g l yX10_day cX10_day 3 (some .int) 4 [(mo0, .inr (8, [nV mL, .ref mA1, nV mAt, .ref mA3, .ref mA4, .ref mA5, .ref mA6, .ref mA7, .ref mA8, .ref mA9, .ref mA10, .ref mA11, .ref mA12, nV kz, nV dn, .ref mA15, .ref mA16, .ref mA17, mV mAb, mV mBe, .ref mA20, zV mCl])), (mA3, cN g 4 mtd), (mA4, cN g 2 mws), (mA5, cN g 32 mwd), (mA10, cN g 3 mlv), (mA11, cN g 96 mlf), (mA15, cN g 48 mdi)] [.ref mo0] (fun r (_ : Unit) => r = iI ((dyF sg k bi mo ce (ce 40) : Nat) : Int)) (fun (_ : Unit) => [(mo0, .inr (8, [nV mL, .ref mA1, nV mAt, .ref mA3, .ref mA4, .ref mA5, .ref mA6, .ref mA7, .ref mA8, .ref mA9, .ref mA10, .ref mA11, .ref mA12, nV kz, nV (ssz 8 dn), .ref mA15, .ref mA16, .ref mA17, mV mAb, mV mBe, .ref mA20, zV mCl])), (mA3, cN g 4 mtd), (mA4, cN g 2 mws), (mA5, cN g 32 mwd), (mA10, cN g 3 mlv), (mA11, cN g 96 (mday mlf (mlv 0))), (mA15, cN g 48 (kset mdi (mday mlf (mlv 0)) dn 1 0))]) := by
  refine wr_startI (by decide +kernel) (Nat.le_of_ble_eq_true rfl) ?_
  intro p e s m args below meth c Q A ls C hK hA ret hP hD hS hl
  have C : CT p s m args meth c cX10_day RX10 3 := C
  have hl : lv_has ls 3 [(0, .ref mo0)] := hl
  have h40 := hlo.1
  refine lv_aload_n C.1 C.2.1 dX10_day_0 rfl (lv_at hl 0 rfl) ?_
  refine r_iconst 1 C dX10_day_1 rfl ?_
  refine wr_callVV (As := [nV 1]) (rest := []) C hK (c_X10_ages_u l g mo0 mA1 mA3 mA4 mA5 mA6 mA7 mA8 mA9 mA10 mA11 mA12 mA15 mA16 mA17 mA20 mL mAt kz dn mAb mBe mCl mlv mlf (by omega)) [0, 4, 5] rfl (fun _ => rfl) (by decide) hP hD hS hA (ci := 8) (q0 := 0) rfl rfl kc_X10_ages kl_X10_140 kn_X10 ki_X10_ages ke_X10_ages nk_X10_ages (rm_lt (by decide) (by decide)) hl rfl (Nat.le_of_ble_eq_true rfl) dX10_day_2 (fun u_3 H locs hr_2 hP hD hS => ?_)
  have hP : va_P g.1 vwCl [(mo0, .inr (8, [nV mL, .ref mA1, nV mAt, .ref mA3, .ref mA4, .ref mA5, .ref mA6, .ref mA7, .ref mA8, .ref mA9, .ref mA10, .ref mA11, .ref mA12, nV kz, nV dn, .ref mA15, .ref mA16, .ref mA17, mV mAb, mV mBe, .ref mA20, zV mCl])), (mA3, cN g 4 mtd), (mA4, cN g 2 mws), (mA5, cN g 32 mwd), (mA10, cN g 3 mlv), (mA11, cN g 96 (mday mlf (mlv 0))), (mA15, cN g 48 mdi)] H := hP
  have hD : va_D A [(mo0, .inr (8, [nV mL, .ref mA1, nV mAt, .ref mA3, .ref mA4, .ref mA5, .ref mA6, .ref mA7, .ref mA8, .ref mA9, .ref mA10, .ref mA11, .ref mA12, nV kz, nV dn, .ref mA15, .ref mA16, .ref mA17, mV mAb, mV mBe, .ref mA20, zV mCl])), (mA3, cN g 4 mtd), (mA4, cN g 2 mws), (mA5, cN g 32 mwd), (mA10, cN g 3 mlv), (mA11, cN g 96 (mday mlf (mlv 0))), (mA15, cN g 48 mdi)] := hD
  refine lv_aload_n C.1 C.2.1 dX10_day_5 rfl (lv_at hl 0 rfl) ?_
  refine r_iconst 1 C dX10_day_6 rfl ?_
  refine r_iconst 0 C dX10_day_7 rfl ?_
  refine wr_callVV (As := [nV 1, nV 0]) (rest := []) C hK (c_X10_known l g mo0 mA1 mA3 mA4 mA5 mA6 mA7 mA8 mA9 mA10 mA11 mA12 mA15 mA16 mA17 mA20 mL mAt kz dn mAb mBe mCl (mday mlf (mlv 0)) mdi 1 0 (by first | assumption | omega) (by first | assumption | omega)) [0, 5, 6] rfl (fun _ => rfl) (by decide) hP hD hS hA (ci := 8) (q0 := 0) rfl rfl kc_X10_known kl_X10_136 kn_X10 ki_X10_known ke_X10_known nk_X10_known (rm_lt (by decide) (by decide)) hl rfl (Nat.le_of_ble_eq_true rfl) dX10_day_8 (fun u_6 H locs hr_5 hP hD hS => ?_)
  have hP : va_P g.1 vwCl [(mo0, .inr (8, [nV mL, .ref mA1, nV mAt, .ref mA3, .ref mA4, .ref mA5, .ref mA6, .ref mA7, .ref mA8, .ref mA9, .ref mA10, .ref mA11, .ref mA12, nV kz, nV (ssz 8 dn), .ref mA15, .ref mA16, .ref mA17, mV mAb, mV mBe, .ref mA20, zV mCl])), (mA3, cN g 4 mtd), (mA4, cN g 2 mws), (mA5, cN g 32 mwd), (mA10, cN g 3 mlv), (mA11, cN g 96 (mday mlf (mlv 0))), (mA15, cN g 48 (kset mdi (mday mlf (mlv 0)) dn 1 0))] H := hP
  have hD : va_D A [(mo0, .inr (8, [nV mL, .ref mA1, nV mAt, .ref mA3, .ref mA4, .ref mA5, .ref mA6, .ref mA7, .ref mA8, .ref mA9, .ref mA10, .ref mA11, .ref mA12, nV kz, nV (ssz 8 dn), .ref mA15, .ref mA16, .ref mA17, mV mAb, mV mBe, .ref mA20, zV mCl])), (mA3, cN g 4 mtd), (mA4, cN g 2 mws), (mA5, cN g 32 mwd), (mA10, cN g 3 mlv), (mA11, cN g 96 (mday mlf (mlv 0))), (mA15, cN g 48 (kset mdi (mday mlf (mlv 0)) dn 1 0))] := hD
  refine r_iconst 0 C dX10_day_11 rfl ?_
  refine lv_istore_n (lv' := [(1, nV 0), (0, .ref mo0)]) C.1 C.2.1 dX10_day_12 rfl hl (by decide) rfl (fun ls hl => ?_)
  refine r_iconst 0 C dX10_day_13 rfl ?_
  refine lv_istore_n (lv' := [(2, nV 0), (1, nV 0), (0, .ref mo0)]) C.1 C.2.1 dX10_day_14 rfl hl (by decide) rfl (fun ls hl => ?_)
  have L15 : ∀ (n_15 : Nat) (i : Nat) (n1 : Nat) (H : Heap) (locs : List Loc) (ls : Array Slot) (hi : i ≤ ce 40) (hn : n1 = dyF sg k bi mo ce i) (hm : ce 40 - i < n_15) (hP : va_P g.1 vwCl [(mo0, .inr (8, [nV mL, .ref mA1, nV mAt, .ref mA3, .ref mA4, .ref mA5, .ref mA6, .ref mA7, .ref mA8, .ref mA9, .ref mA10, .ref mA11, .ref mA12, nV kz, nV (ssz 8 dn), .ref mA15, .ref mA16, .ref mA17, mV mAb, mV mBe, .ref mA20, zV mCl])), (mA3, cN g 4 mtd), (mA4, cN g 2 mws), (mA5, cN g 32 mwd), (mA10, cN g 3 mlv), (mA11, cN g 96 (mday mlf (mlv 0))), (mA15, cN g 48 (kset mdi (mday mlf (mlv 0)) dn 1 0))] H) (hD : va_D A [(mo0, .inr (8, [nV mL, .ref mA1, nV mAt, .ref mA3, .ref mA4, .ref mA5, .ref mA6, .ref mA7, .ref mA8, .ref mA9, .ref mA10, .ref mA11, .ref mA12, nV kz, nV (ssz 8 dn), .ref mA15, .ref mA16, .ref mA17, mV mAb, mV mBe, .ref mA20, zV mCl])), (mA3, cN g 4 mtd), (mA4, cN g 2 mws), (mA5, cN g 32 mwd), (mA10, cN g 3 mlv), (mA11, cN g 96 (mday mlf (mlv 0))), (mA15, cN g 48 (kset mdi (mday mlf (mlv 0)) dn 1 0))]) (hS : va_S A s.heap H locs) (hl : lv_has ls 3 [(2, nV i), (1, nV n1), (0, .ref mo0)]), W p l e (rD 4) s m args below meth c H locs 0 0 Q (F0 m 15 ls []) := by
    intro n_15
    induction n_15 with
    | zero => intro i n1 H locs ls hi hn hm hP hD hS hl; exact absurd hm (Nat.not_lt_zero _)
    | succ n_15 ih_15 =>
      intro i n1 H locs ls hi hn hm hP hD hS hl
      have hdl := dyF_le sg k bi mo ce i
      refine lv_iload_n C.1 C.2.1 dX10_day_15 rfl (lv_at hl 0 rfl) ?_
      refine lv_aload_n C.1 C.2.1 dX10_day_16 rfl (lv_at hl 2 rfl) ?_
      refine r_get C hK hP kw_X10 (ci := 8) rfl 0 10 (by decide) kf_X10_35 rfl rfl dX10_day_17 ?_
      refine r_iconst 0 C dX10_day_20 rfl ?_
      refine r_aldN C hK hP 4 rfl ⟨by omega, by omega⟩ dX10_day_21 ?_
      refine r_top (v' := nV (ce 40)) (by rw [hl0]) ?_
      refine r_cge 59 C dX10_day_22 rfl ⟨rgN (by omega), rgN (by omega)⟩ (fun h_7 => ?_) (fun h_7 => ?_)
      · skip
        refine lv_iload_n C.1 C.2.1 dX10_day_59 rfl (lv_at hl 1 rfl) ?_
        exact ret (()) dX10_day_60 hS hP (iI_cast (by rw [hn, show i = ce 40 by omega]))
      refine lv_iload_n C.1 C.2.1 dX10_day_25 rfl (lv_at hl 1 rfl) ?_
      refine lv_aload_n C.1 C.2.1 dX10_day_26 rfl (lv_at hl 2 rfl) ?_
      refine lv_aload_n C.1 C.2.1 dX10_day_27 rfl (lv_at hl 2 rfl) ?_
      refine lv_iload_n C.1 C.2.1 dX10_day_28 rfl (lv_at hl 0 rfl) ?_
      refine ro_callV (As := [nV i]) (rest := [.ref mo0, nV n1]) C hK (c_X10_hasNow l g mo0 mA1 mA3 mA4 mA5 mA6 mA7 mA8 mA9 mA10 mA11 mA12 mA15 mA16 mA17 mA20 mL mAt kz (ssz 8 dn) mAb mBe mCl mtd mws mwd mlv (mday mlf (mlv 0)) sg k bi mo ce i (by first | assumption | omega) (by first | assumption | omega) (by first | assumption | omega) (by first | assumption | omega) (by first | assumption | omega) (by first | assumption | omega) (by first | assumption | omega) (by first | assumption | omega) (by first | assumption | omega) (by first | assumption | omega) (by first | assumption | omega) (by first | assumption | omega)) (hP.sub (ws' := [(mo0, .inr (8, [nV mL, .ref mA1, nV mAt, .ref mA3, .ref mA4, .ref mA5, .ref mA6, .ref mA7, .ref mA8, .ref mA9, .ref mA10, .ref mA11, .ref mA12, nV kz, nV (ssz 8 dn), .ref mA15, .ref mA16, .ref mA17, mV mAb, mV mBe, .ref mA20, zV mCl])), (mA3, cN g 4 mtd), (mA4, cN g 2 mws), (mA5, cN g 32 mwd), (mA10, cN g 3 mlv), (mA11, cN g 96 (mday mlf (mlv 0)))]) [0, 1, 2, 3, 4, 5] rfl) (ci := 8) (q0 := 0) rfl rfl kc_X10_hasNow kl_X10_144 kn_X10 ki_X10_hasNow ke_X10_hasNow nk_X10_hasNow (rm_lt (by decide) (by decide)) hl rfl (Nat.le_of_ble_eq_true rfl) dX10_day_29 (fun r_8 hr_9 => ?_)
      subst hr_9
      have hf_10 := sNow_bd (bi := bi) (mo := mo) hlo (show i < ce 40 by omega)
      have hp0 := hlo.2 i (by omega)
      refine ro_callV (As := [nV (sNow bi mo ce i)]) (rest := [nV n1]) C hK (c_X10_read l g mo0 mA1 mA3 mA4 mA5 mA6 mA7 mA8 mA9 mA10 mA11 mA12 mA15 mA16 mA17 mA20 mL mAt kz (ssz 8 dn) mAb mBe mCl mws mwd sg k (sNow bi mo ce i) (by first | assumption | omega) (by first | assumption | omega) (by first | assumption | omega) (by first | assumption | omega) (by first | assumption | omega)) (hP.sub (ws' := [(mo0, .inr (8, [nV mL, .ref mA1, nV mAt, .ref mA3, .ref mA4, .ref mA5, .ref mA6, .ref mA7, .ref mA8, .ref mA9, .ref mA10, .ref mA11, .ref mA12, nV kz, nV (ssz 8 dn), .ref mA15, .ref mA16, .ref mA17, mV mAb, mV mBe, .ref mA20, zV mCl])), (mA4, cN g 2 mws), (mA5, cN g 32 mwd)]) [0, 2, 3] rfl) (ci := 8) (q0 := 0) rfl rfl kc_X10_read kl_X10_147 kn_X10 ki_X10_read ke_X10_read nk_X10_read (rm_lt (by decide) (by decide)) hl rfl (Nat.le_of_ble_eq_true rfl) dX10_day_32 (fun r_11 hr_12 => ?_)
      subst hr_12
      have hf_13 := rd_bd sg (k) ((sNow bi mo ce i))
      refine lv_aload_n C.1 C.2.1 dX10_day_35 rfl (lv_at hl 2 rfl) ?_
      refine r_get C hK hP kw_X10 (ci := 8) rfl 0 11 (by decide) kf_X10_38 rfl rfl dX10_day_36 ?_
      refine r_iconst 4 C dX10_day_39 rfl ?_
      refine lv_iload_n C.1 C.2.1 dX10_day_40 rfl (lv_at hl 0 rfl) ?_
      refine r_mulN C dX10_day_41 ?_
      refine r_aldN C hK hP 5 rfl ⟨by omega, by omega⟩ dX10_day_42 ?_
      refine r_top (v' := nV (ce (i * 5 + 0))) (by rw [show 4 * i = 4 * i + 0 from rfl, hlf i 0 (by omega) (by decide)]) ?_
      refine r_cne 50 C dX10_day_43 rfl ⟨⟨by omega, by omega⟩, rgN (by omega)⟩ (fun g1 => ?_) (fun g1 => ?_)
      · skip
        refine r_iconst 0 C dX10_day_50 rfl ?_
        refine r_addN C dX10_day_51 ?_
        refine lv_istore_n (lv' := [(1, nV (n1 + 0)), (2, nV i), (0, .ref mo0)]) C.1 C.2.1 dX10_day_52 rfl hl (by decide) rfl (fun ls hl => ?_)
        refine r_incN (k := 1) (n := 1) [(2, nV (i + 1)), (1, nV (n1 + 0)), (0, .ref mo0)] C dX10_day_53 hl rfl rfl (by decide) rfl (fun ls hl => ?_)
        refine r_goto 15 C dX10_day_56 rfl ?_
        exact ih_15 (i + 1) (n1 + 0) _ _ _ (by first | assumption | omega) (by rw [hn]; show _ = dyF sg k bi mo ce i + (if rd sg k (sNow bi mo ce i) = (ce (i * 5 + 0) : Int) then 1 else 0); rw [if_neg g1]) (by omega) hP hD hS (lv_sub hl [0, 1, 2] rfl)
      refine r_iconst 1 C dX10_day_46 rfl ?_
      refine r_goto 51 C dX10_day_47 rfl ?_
      refine r_addN C dX10_day_51 ?_
      refine lv_istore_n (lv' := [(1, nV (n1 + 1)), (2, nV i), (0, .ref mo0)]) C.1 C.2.1 dX10_day_52 rfl hl (by decide) rfl (fun ls hl => ?_)
      refine r_incN (k := 1) (n := 1) [(2, nV (i + 1)), (1, nV (n1 + 1)), (0, .ref mo0)] C dX10_day_53 hl rfl rfl (by decide) rfl (fun ls hl => ?_)
      refine r_goto 15 C dX10_day_56 rfl ?_
      exact ih_15 (i + 1) (n1 + 1) _ _ _ (by first | assumption | omega) (by rw [hn]; show _ = dyF sg k bi mo ce i + (if rd sg k (sNow bi mo ce i) = (ce (i * 5 + 0) : Int) then 1 else 0); rw [if_pos g1]) (by omega) hP hD hS (lv_sub hl [0, 1, 2] rfl)
  exact L15 (ce 40 - 0 + 1) 0 0 _ _ _ (by first | assumption | omega) (rfl) (Nat.lt_succ_self _) hP hD hS (lv_sub hl [0, 1, 2] rfl)
set_option maxHeartbeats 4000000 in
set_option maxRecDepth 100000 in
theorem c_X10_bite_ok (l : Launch) (g : GG) (mo0 : Nat) (mA1 : Nat) (mA3 : Nat) (mA4 : Nat) (mA5 : Nat) (mA6 : Nat) (mA7 : Nat) (mA8 : Nat) (mA9 : Nat) (mA10 : Nat) (mA11 : Nat) (mA12 : Nat) (mA15 : Nat) (mA16 : Nat) (mA17 : Nat) (mA20 : Nat) (mL : Nat) (mAt : Nat) (kz : Nat) (dn : Nat) (mAb : Nat) (mBe : Nat) (mCl : Int) (mlv : Nat → Nat) (mlf : Nat → Nat) (mdi : Nat → Nat) (ce : Nat → Nat) (xn : Nat) (hdn : dn ≤ 8) (hl0 : mlv 0 = ce 40) (h40 : ce 40 ≤ 8) (hx : xn < ce 40) (h9 : mlf (4 * xn + 3) < 9) : WRi g l yX10_bite cX10_bite 2 (some .int) 3 [(mo0, .inr (8, [nV mL, .ref mA1, nV mAt, .ref mA3, .ref mA4, .ref mA5, .ref mA6, .ref mA7, .ref mA8, .ref mA9, .ref mA10, .ref mA11, .ref mA12, nV kz, nV dn, .ref mA15, .ref mA16, .ref mA17, mV mAb, mV mBe, .ref mA20, zV mCl])), (mA10, cN g 3 mlv), (mA11, cN g 96 mlf), (mA15, cN g 48 mdi)] [.ref mo0, nV xn] (fun r (_ : Unit) => r = iI ((mlf (4 * xn + 3) + 1 : Nat) : Int)) (fun (_ : Unit) => [(mo0, .inr (8, [nV mL, .ref mA1, nV mAt, .ref mA3, .ref mA4, .ref mA5, .ref mA6, .ref mA7, .ref mA8, .ref mA9, .ref mA10, .ref mA11, .ref mA12, nV kz, nV (ssz 8 dn), .ref mA15, .ref mA16, .ref mA17, mV mAb, mV mBe, .ref mA20, zV mCl])), (mA10, cN g 3 mlv), (mA11, cN g 96 (upN mlf (4 * xn + 3) (mlf (4 * xn + 3) + 1))), (mA15, cN g 48 (kset mdi (upN mlf (4 * xn + 3) (mlf (4 * xn + 3) + 1)) dn 2 xn))]) := by
  refine wr_startI (by decide +kernel) (Nat.le_of_ble_eq_true rfl) ?_
  intro p e s m args below meth c Q A ls C hK hA ret hP hD hS hl
  have C : CT p s m args meth c cX10_bite RX10 2 := C
  have hl : lv_has ls 2 [(0, .ref mo0), (1, nV xn)] := hl
  refine lv_aload_n C.1 C.2.1 dX10_bite_0 rfl (lv_at hl 0 rfl) ?_
  refine lv_iload_n C.1 C.2.1 dX10_bite_1 rfl (lv_at hl 1 rfl) ?_
  refine ro_callV (As := [nV xn]) (rest := []) C hK (c_X10_isLoaf l g mo0 mA1 mA3 mA4 mA5 mA6 mA7 mA8 mA9 mA10 mA11 mA12 mA15 mA16 mA17 mA20 mL mAt kz dn mAb mBe mCl mlv ce ((xn : Nat) : Int) (by first | assumption | omega) (by first | assumption | omega) (by first | assumption | exact ⟨by omega, by omega⟩)) (hP.sub (ws' := [(mo0, .inr (8, [nV mL, .ref mA1, nV mAt, .ref mA3, .ref mA4, .ref mA5, .ref mA6, .ref mA7, .ref mA8, .ref mA9, .ref mA10, .ref mA11, .ref mA12, nV kz, nV dn, .ref mA15, .ref mA16, .ref mA17, mV mAb, mV mBe, .ref mA20, zV mCl])), (mA10, cN g 3 mlv)]) [0, 1] rfl) (ci := 8) (q0 := 0) rfl rfl kc_X10_isLoaf kl_X10_150 kn_X10 ki_X10_isLoaf ke_X10_isLoaf nk_X10_isLoaf (rm_lt (by decide) (by decide)) hl rfl (Nat.le_of_ble_eq_true rfl) dX10_bite_2 (fun r_1 hr_2 => ?_)
  subst hr_2
  refine r_bne 10 C dX10_bite_5 rfl (fun h_3 => ?_) (fun h_3 => ?_)
  rotate_left
  · exact absurd h_3 (by omega)
  refine lv_aload_n C.1 C.2.1 dX10_bite_10 rfl (lv_at hl 0 rfl) ?_
  refine r_get C hK hP kw_X10 (ci := 8) rfl 0 11 (by decide) kf_X10_38 rfl rfl dX10_bite_11 ?_
  refine r_iconst 4 C dX10_bite_14 rfl ?_
  refine lv_iload_n C.1 C.2.1 dX10_bite_15 rfl (lv_at hl 1 rfl) ?_
  refine r_mulN C dX10_bite_16 ?_
  refine r_iconst 3 C dX10_bite_17 rfl ?_
  refine r_addN C dX10_bite_18 ?_
  refine r_aldN C hK hP 2 rfl ⟨by omega, by omega⟩ dX10_bite_19 ?_
  refine r_bipush 9 C dX10_bite_20 (by decide) ?_
  refine r_cne 28 C dX10_bite_22 rfl ⟨rgN (by omega), rgN (by decide)⟩ (fun h_4 => ?_) (fun h_4 => ?_)
  rotate_left
  · exact absurd h_4 (by omega)
  refine lv_aload_n C.1 C.2.1 dX10_bite_28 rfl (lv_at hl 0 rfl) ?_
  refine r_get C hK hP kw_X10 (ci := 8) rfl 0 11 (by decide) kf_X10_38 rfl rfl dX10_bite_29 ?_
  refine r_iconst 4 C dX10_bite_32 rfl ?_
  refine lv_iload_n C.1 C.2.1 dX10_bite_33 rfl (lv_at hl 1 rfl) ?_
  refine r_mulN C dX10_bite_34 ?_
  refine r_iconst 3 C dX10_bite_35 rfl ?_
  refine r_addN C dX10_bite_36 ?_
  refine lv_dup2_11 C.1 C.2.1 dX10_bite_37 rfl rfl ?_
  refine r_aldN C hK hP 2 rfl ⟨by omega, by omega⟩ dX10_bite_38 ?_
  refine r_iconst 1 C dX10_bite_39 rfl ?_
  refine r_addN C dX10_bite_40 ?_
  refine r_astN C hK hP hD hS 2 rfl ⟨by omega, by omega⟩ dX10_bite_41 (fun H locs hP hD hS => ?_)
  have hP : va_P g.1 vwCl [(mo0, .inr (8, [nV mL, .ref mA1, nV mAt, .ref mA3, .ref mA4, .ref mA5, .ref mA6, .ref mA7, .ref mA8, .ref mA9, .ref mA10, .ref mA11, .ref mA12, nV kz, nV dn, .ref mA15, .ref mA16, .ref mA17, mV mAb, mV mBe, .ref mA20, zV mCl])), (mA10, cN g 3 mlv), (mA11, cN g 96 (upN mlf ((4 * xn) + 3) ((mlf ((4 * xn) + 3)) + 1))), (mA15, cN g 48 mdi)] H := hP
  have hD : va_D A [(mo0, .inr (8, [nV mL, .ref mA1, nV mAt, .ref mA3, .ref mA4, .ref mA5, .ref mA6, .ref mA7, .ref mA8, .ref mA9, .ref mA10, .ref mA11, .ref mA12, nV kz, nV dn, .ref mA15, .ref mA16, .ref mA17, mV mAb, mV mBe, .ref mA20, zV mCl])), (mA10, cN g 3 mlv), (mA11, cN g 96 (upN mlf ((4 * xn) + 3) ((mlf ((4 * xn) + 3)) + 1))), (mA15, cN g 48 mdi)] := hD
  refine lv_aload_n C.1 C.2.1 dX10_bite_42 rfl (lv_at hl 0 rfl) ?_
  refine r_iconst 2 C dX10_bite_43 rfl ?_
  refine lv_iload_n C.1 C.2.1 dX10_bite_44 rfl (lv_at hl 1 rfl) ?_
  refine wr_callVV (As := [nV 2, nV xn]) (rest := []) C hK (c_X10_known l g mo0 mA1 mA3 mA4 mA5 mA6 mA7 mA8 mA9 mA10 mA11 mA12 mA15 mA16 mA17 mA20 mL mAt kz dn mAb mBe mCl (upN mlf ((4 * xn) + 3) ((mlf ((4 * xn) + 3)) + 1)) mdi 2 xn (by first | assumption | omega) (by first | assumption | omega)) [0, 2, 3] rfl (fun _ => rfl) (by decide) hP hD hS hA (ci := 8) (q0 := 0) rfl rfl kc_X10_known kl_X10_136 kn_X10 ki_X10_known ke_X10_known nk_X10_known (rm_lt (by decide) (by decide)) hl rfl (Nat.le_of_ble_eq_true rfl) dX10_bite_45 (fun u_7 H locs hr_6 hP hD hS => ?_)
  have hP : va_P g.1 vwCl [(mo0, .inr (8, [nV mL, .ref mA1, nV mAt, .ref mA3, .ref mA4, .ref mA5, .ref mA6, .ref mA7, .ref mA8, .ref mA9, .ref mA10, .ref mA11, .ref mA12, nV kz, nV (ssz 8 dn), .ref mA15, .ref mA16, .ref mA17, mV mAb, mV mBe, .ref mA20, zV mCl])), (mA10, cN g 3 mlv), (mA11, cN g 96 (upN mlf ((4 * xn) + 3) ((mlf ((4 * xn) + 3)) + 1))), (mA15, cN g 48 (kset mdi (upN mlf ((4 * xn) + 3) ((mlf ((4 * xn) + 3)) + 1)) dn 2 xn))] H := hP
  have hD : va_D A [(mo0, .inr (8, [nV mL, .ref mA1, nV mAt, .ref mA3, .ref mA4, .ref mA5, .ref mA6, .ref mA7, .ref mA8, .ref mA9, .ref mA10, .ref mA11, .ref mA12, nV kz, nV (ssz 8 dn), .ref mA15, .ref mA16, .ref mA17, mV mAb, mV mBe, .ref mA20, zV mCl])), (mA10, cN g 3 mlv), (mA11, cN g 96 (upN mlf ((4 * xn) + 3) ((mlf ((4 * xn) + 3)) + 1))), (mA15, cN g 48 (kset mdi (upN mlf ((4 * xn) + 3) ((mlf ((4 * xn) + 3)) + 1)) dn 2 xn))] := hD
  refine lv_aload_n C.1 C.2.1 dX10_bite_48 rfl (lv_at hl 0 rfl) ?_
  refine r_get C hK hP kw_X10 (ci := 8) rfl 0 11 (by decide) kf_X10_38 rfl rfl dX10_bite_49 ?_
  refine r_iconst 4 C dX10_bite_52 rfl ?_
  refine lv_iload_n C.1 C.2.1 dX10_bite_53 rfl (lv_at hl 1 rfl) ?_
  refine r_mulN C dX10_bite_54 ?_
  refine r_iconst 3 C dX10_bite_55 rfl ?_
  refine r_addN C dX10_bite_56 ?_
  refine r_aldN C hK hP 2 rfl ⟨by omega, by omega⟩ dX10_bite_57 ?_
  exact ret (()) dX10_bite_58 hS hP (iI_cast (congrArg (fun q : Nat => (q : Int)) upN_s))
set_option maxHeartbeats 4000000 in
set_option maxRecDepth 100000 in
theorem c_X10_bite_no (l : Launch) (g : GG) (mo0 : Nat) (mA1 : Nat) (mA3 : Nat) (mA4 : Nat) (mA5 : Nat) (mA6 : Nat) (mA7 : Nat) (mA8 : Nat) (mA9 : Nat) (mA10 : Nat) (mA11 : Nat) (mA12 : Nat) (mA15 : Nat) (mA16 : Nat) (mA17 : Nat) (mA20 : Nat) (mL : Nat) (mAt : Nat) (kz : Nat) (dn : Nat) (mAb : Nat) (mBe : Nat) (mCl : Int) (mlv : Nat → Nat) (mlf : Nat → Nat) (ce : Nat → Nat) (x : Int) (hl0 : mlv 0 = ce 40) (h40 : ce 40 ≤ 8) (hno : ¬ ((0 ≤ x ∧ x < (ce 40 : Int)) ∧ mlf (4 * x.toNat + 3) ≠ 9)) (hpb : ∀ i, i < ce 40 → mlf (4 * i + 3) ≤ 9) (hx : rg x) : ROi g l yX10_bite cX10_bite 2 (some .int) 3 [(mo0, .inr (8, [nV mL, .ref mA1, nV mAt, .ref mA3, .ref mA4, .ref mA5, .ref mA6, .ref mA7, .ref mA8, .ref mA9, .ref mA10, .ref mA11, .ref mA12, nV kz, nV dn, .ref mA15, .ref mA16, .ref mA17, mV mAb, mV mBe, .ref mA20, zV mCl])), (mA10, cN g 3 mlv), (mA11, cN g 96 mlf)] [.ref mo0, zV x] (fun r => r = iI (if 0 ≤ x ∧ x < (ce 40 : Int) then -3 else -1)) := by
  refine ro_startI (by decide +kernel) (Nat.le_of_ble_eq_true rfl) ?_
  intro p e s m args below meth c Q ls C hK hP ret hl
  have C : CT p s m args meth c cX10_bite RX10 2 := C
  have hl : lv_has ls 2 [(0, .ref mo0), (1, zV x)] := hl
  refine lv_aload_n C.1 C.2.1 dX10_bite_0 rfl (lv_at hl 0 rfl) ?_
  refine lv_iload_n C.1 C.2.1 dX10_bite_1 rfl (lv_at hl 1 rfl) ?_
  refine ro_callV (As := [zV x]) (rest := []) C hK (c_X10_isLoaf l g mo0 mA1 mA3 mA4 mA5 mA6 mA7 mA8 mA9 mA10 mA11 mA12 mA15 mA16 mA17 mA20 mL mAt kz dn mAb mBe mCl mlv ce x (by first | assumption | omega) (by first | assumption | omega) (by first | assumption | exact ⟨by omega, by omega⟩)) (hP.sub (ws' := [(mo0, .inr (8, [nV mL, .ref mA1, nV mAt, .ref mA3, .ref mA4, .ref mA5, .ref mA6, .ref mA7, .ref mA8, .ref mA9, .ref mA10, .ref mA11, .ref mA12, nV kz, nV dn, .ref mA15, .ref mA16, .ref mA17, mV mAb, mV mBe, .ref mA20, zV mCl])), (mA10, cN g 3 mlv)]) [0, 1] rfl) (ci := 8) (q0 := 0) rfl rfl kc_X10_isLoaf kl_X10_150 kn_X10 ki_X10_isLoaf ke_X10_isLoaf nk_X10_isLoaf (rm_lt (by decide) (by decide)) hl rfl (Nat.le_of_ble_eq_true rfl) dX10_bite_2 (fun r_1 hr_2 => ?_)
  subst hr_2
  refine r_bne 10 C dX10_bite_5 rfl (fun h_3 => ?_) (fun h_3 => ?_)
  · skip
    obtain ⟨xn, rfl⟩ : ∃ n : Nat, x = (n : Int) := ⟨x.toNat, by omega⟩
    have hl : lv_has ls 2 [(0, .ref mo0), (1, nV xn)] := hl
    refine lv_aload_n C.1 C.2.1 dX10_bite_10 rfl (lv_at hl 0 rfl) ?_
    refine r_get C hK hP kw_X10 (ci := 8) rfl 0 11 (by decide) kf_X10_38 rfl rfl dX10_bite_11 ?_
    refine r_iconst 4 C dX10_bite_14 rfl ?_
    refine lv_iload_n C.1 C.2.1 dX10_bite_15 rfl (lv_at hl 1 rfl) ?_
    refine r_mulN C dX10_bite_16 ?_
    refine r_iconst 3 C dX10_bite_17 rfl ?_
    refine r_addN C dX10_bite_18 ?_
    refine r_aldN C hK hP 2 rfl ⟨by omega, by omega⟩ dX10_bite_19 ?_
    have hp3 := hpb xn (by omega)
    rw [Int.toNat_natCast] at hno
    refine r_bipush 9 C dX10_bite_20 (by decide) ?_
    refine r_cne 28 C dX10_bite_22 rfl ⟨rgN (by omega), rgN (by decide)⟩ (fun h_4 => ?_) (fun h_4 => ?_)
    · exact absurd h_4 (by omega)
    refine r_bipushZ C dX10_bite_25 (by decide) ?_
    exact ret dX10_bite_27 (by rw [if_pos (by omega)])
  refine r_iconstZ C dX10_bite_8 ?_
  exact ret dX10_bite_9 (by rw [if_neg (by omega)])
set_option maxHeartbeats 4000000 in
set_option maxRecDepth 100000 in
theorem c_X10_take_ok (l : Launch) (g : GG) (mo0 : Nat) (mA1 : Nat) (mA3 : Nat) (mA4 : Nat) (mA5 : Nat) (mA6 : Nat) (mA7 : Nat) (mA8 : Nat) (mA9 : Nat) (mA10 : Nat) (mA11 : Nat) (mA12 : Nat) (mA15 : Nat) (mA16 : Nat) (mA17 : Nat) (mA20 : Nat) (mL : Nat) (mAt : Nat) (kz : Nat) (dn : Nat) (mAb : Nat) (mBe : Nat) (mCl : Int) (mlv : Nat → Nat) (mlf : Nat → Nat) (mdi : Nat → Nat) (ce : Nat → Nat) (xn : Nat) (hdn : dn ≤ 8) (hl0 : mlv 0 = ce 40) (h40 : ce 40 ≤ 8) (hx : xn < ce 40) : WRi g l yX10_take cX10_take 4 (some .int) 3 [(mo0, .inr (8, [nV mL, .ref mA1, nV mAt, .ref mA3, .ref mA4, .ref mA5, .ref mA6, .ref mA7, .ref mA8, .ref mA9, .ref mA10, .ref mA11, .ref mA12, nV kz, nV dn, .ref mA15, .ref mA16, .ref mA17, mV mAb, mV mBe, .ref mA20, zV mCl])), (mA10, cN g 3 mlv), (mA11, cN g 96 mlf), (mA15, cN g 48 mdi)] [.ref mo0, nV xn] (fun r (_ : Unit) => r = iI ((mlf (4 * xn) : Nat) : Int)) (fun (_ : Unit) => [(mo0, .inr (8, [nV mL, .ref mA1, nV mAt, .ref mA3, .ref mA4, .ref mA5, .ref mA6, .ref mA7, .ref mA8, .ref mA9, .ref mA10, .ref mA11, .ref mA12, nV kz, nV (ssz 8 dn), .ref mA15, .ref mA16, .ref mA17, mV mAb, mV mBe, .ref mA20, zV mCl])), (mA10, cN g 3 (upN mlv 0 (mlv 0 - 1))), (mA11, cN g 96 (mmv mlf (4 * xn) (4 * (mlv 0 - 1)))), (mA15, cN g 48 (kset mdi mlf dn 3 xn))]) := by
  refine wr_startI (by decide +kernel) (Nat.le_of_ble_eq_true rfl) ?_
  intro p e s m args below meth c Q A ls C hK hA ret hP hD hS hl
  have C : CT p s m args meth c cX10_take RX10 4 := C
  have hl : lv_has ls 4 [(0, .ref mo0), (1, nV xn)] := hl
  refine lv_aload_n C.1 C.2.1 dX10_take_0 rfl (lv_at hl 0 rfl) ?_
  refine lv_iload_n C.1 C.2.1 dX10_take_1 rfl (lv_at hl 1 rfl) ?_
  refine ro_callV (As := [nV xn]) (rest := []) C hK (c_X10_isLoaf l g mo0 mA1 mA3 mA4 mA5 mA6 mA7 mA8 mA9 mA10 mA11 mA12 mA15 mA16 mA17 mA20 mL mAt kz dn mAb mBe mCl mlv ce ((xn : Nat) : Int) (by first | assumption | omega) (by first | assumption | omega) (by first | assumption | exact ⟨by omega, by omega⟩)) (hP.sub (ws' := [(mo0, .inr (8, [nV mL, .ref mA1, nV mAt, .ref mA3, .ref mA4, .ref mA5, .ref mA6, .ref mA7, .ref mA8, .ref mA9, .ref mA10, .ref mA11, .ref mA12, nV kz, nV dn, .ref mA15, .ref mA16, .ref mA17, mV mAb, mV mBe, .ref mA20, zV mCl])), (mA10, cN g 3 mlv)]) [0, 1] rfl) (ci := 8) (q0 := 0) rfl rfl kc_X10_isLoaf kl_X10_150 kn_X10 ki_X10_isLoaf ke_X10_isLoaf nk_X10_isLoaf (rm_lt (by decide) (by decide)) hl rfl (Nat.le_of_ble_eq_true rfl) dX10_take_2 (fun r_1 hr_2 => ?_)
  subst hr_2
  refine r_bne 10 C dX10_take_5 rfl (fun h_3 => ?_) (fun h_3 => ?_)
  rotate_left
  · exact absurd h_3 (by omega)
  refine lv_aload_n C.1 C.2.1 dX10_take_10 rfl (lv_at hl 0 rfl) ?_
  refine r_get C hK hP kw_X10 (ci := 8) rfl 0 11 (by decide) kf_X10_38 rfl rfl dX10_take_11 ?_
  refine r_iconst 4 C dX10_take_14 rfl ?_
  refine lv_iload_n C.1 C.2.1 dX10_take_15 rfl (lv_at hl 1 rfl) ?_
  refine r_mulN C dX10_take_16 ?_
  refine r_aldN C hK hP 2 rfl ⟨by omega, by omega⟩ dX10_take_17 ?_
  refine lv_istore_n (lv' := [(2, nV (mlf (4 * xn))), (0, .ref mo0), (1, nV xn)]) C.1 C.2.1 dX10_take_18 rfl hl (by decide) rfl (fun ls hl => ?_)
  refine lv_aload_n C.1 C.2.1 dX10_take_19 rfl (lv_at hl 1 rfl) ?_
  refine r_iconst 3 C dX10_take_20 rfl ?_
  refine lv_iload_n C.1 C.2.1 dX10_take_21 rfl (lv_at hl 2 rfl) ?_
  refine wr_callVV (As := [nV 3, nV xn]) (rest := []) C hK (c_X10_known l g mo0 mA1 mA3 mA4 mA5 mA6 mA7 mA8 mA9 mA10 mA11 mA12 mA15 mA16 mA17 mA20 mL mAt kz dn mAb mBe mCl mlf mdi 3 xn (by first | assumption | omega) (by first | assumption | omega)) [0, 2, 3] rfl (fun _ => rfl) (by decide) hP hD hS hA (ci := 8) (q0 := 0) rfl rfl kc_X10_known kl_X10_136 kn_X10 ki_X10_known ke_X10_known nk_X10_known (rm_lt (by decide) (by decide)) hl rfl (Nat.le_of_ble_eq_true rfl) dX10_take_22 (fun u_6 H locs hr_5 hP hD hS => ?_)
  have hP : va_P g.1 vwCl [(mo0, .inr (8, [nV mL, .ref mA1, nV mAt, .ref mA3, .ref mA4, .ref mA5, .ref mA6, .ref mA7, .ref mA8, .ref mA9, .ref mA10, .ref mA11, .ref mA12, nV kz, nV (ssz 8 dn), .ref mA15, .ref mA16, .ref mA17, mV mAb, mV mBe, .ref mA20, zV mCl])), (mA10, cN g 3 mlv), (mA11, cN g 96 mlf), (mA15, cN g 48 (kset mdi mlf dn 3 xn))] H := hP
  have hD : va_D A [(mo0, .inr (8, [nV mL, .ref mA1, nV mAt, .ref mA3, .ref mA4, .ref mA5, .ref mA6, .ref mA7, .ref mA8, .ref mA9, .ref mA10, .ref mA11, .ref mA12, nV kz, nV (ssz 8 dn), .ref mA15, .ref mA16, .ref mA17, mV mAb, mV mBe, .ref mA20, zV mCl])), (mA10, cN g 3 mlv), (mA11, cN g 96 mlf), (mA15, cN g 48 (kset mdi mlf dn 3 xn))] := hD
  refine lv_aload_n C.1 C.2.1 dX10_take_25 rfl (lv_at hl 1 rfl) ?_
  refine r_get C hK hP kw_X10 (ci := 8) rfl 0 10 (by decide) kf_X10_35 rfl rfl dX10_take_26 ?_
  refine r_iconst 0 C dX10_take_29 rfl ?_
  refine lv_dup2_11 C.1 C.2.1 dX10_take_30 rfl rfl ?_
  refine r_aldN C hK hP 1 rfl ⟨by omega, by omega⟩ dX10_take_31 ?_
  refine r_iconst 1 C dX10_take_32 rfl ?_
  refine r_subN C dX10_take_33 (by omega) ?_
  refine r_astN C hK hP hD hS 1 rfl ⟨by omega, by omega⟩ dX10_take_34 (fun H locs hP hD hS => ?_)
  have hP : va_P g.1 vwCl [(mo0, .inr (8, [nV mL, .ref mA1, nV mAt, .ref mA3, .ref mA4, .ref mA5, .ref mA6, .ref mA7, .ref mA8, .ref mA9, .ref mA10, .ref mA11, .ref mA12, nV kz, nV (ssz 8 dn), .ref mA15, .ref mA16, .ref mA17, mV mAb, mV mBe, .ref mA20, zV mCl])), (mA10, cN g 3 (upN mlv 0 ((mlv 0) - 1))), (mA11, cN g 96 mlf), (mA15, cN g 48 (kset mdi mlf dn 3 xn))] H := hP
  have hD : va_D A [(mo0, .inr (8, [nV mL, .ref mA1, nV mAt, .ref mA3, .ref mA4, .ref mA5, .ref mA6, .ref mA7, .ref mA8, .ref mA9, .ref mA10, .ref mA11, .ref mA12, nV kz, nV (ssz 8 dn), .ref mA15, .ref mA16, .ref mA17, mV mAb, mV mBe, .ref mA20, zV mCl])), (mA10, cN g 3 (upN mlv 0 ((mlv 0) - 1))), (mA11, cN g 96 mlf), (mA15, cN g 48 (kset mdi mlf dn 3 xn))] := hD
  generalize hlv2 : upN mlv 0 ((mlv 0) - 1) = lv2 at hP hD
  have hv0 : lv2 0 = mlv 0 - 1 := by rw [← hlv2]; exact upN_s
  refine r_iconst 4 C dX10_take_35 rfl ?_
  refine lv_iload_n C.1 C.2.1 dX10_take_36 rfl (lv_at hl 2 rfl) ?_
  refine r_mulN C dX10_take_37 ?_
  refine lv_istore_n (lv' := [(3, nV (4 * xn)), (2, nV (mlf (4 * xn))), (0, .ref mo0), (1, nV xn)]) C.1 C.2.1 dX10_take_38 rfl hl (by decide) rfl (fun ls hl => ?_)
  have L39 : ∀ (n_39 : Nat) (i : Nat) (fA : Nat → Nat) (H : Heap) (locs : List Loc) (ls : Array Slot) (hi : 4 * xn ≤ i ∧ i ≤ 4 * (mlv 0 - 1)) (hfA : fA = mmv mlf (4 * xn) i) (hm : 4 * (mlv 0 - 1) - i < n_39) (hP : va_P g.1 vwCl [(mo0, .inr (8, [nV mL, .ref mA1, nV mAt, .ref mA3, .ref mA4, .ref mA5, .ref mA6, .ref mA7, .ref mA8, .ref mA9, .ref mA10, .ref mA11, .ref mA12, nV kz, nV (ssz 8 dn), .ref mA15, .ref mA16, .ref mA17, mV mAb, mV mBe, .ref mA20, zV mCl])), (mA10, cN g 3 lv2), (mA11, cN g 96 fA), (mA15, cN g 48 (kset mdi mlf dn 3 xn))] H) (hD : va_D A [(mo0, .inr (8, [nV mL, .ref mA1, nV mAt, .ref mA3, .ref mA4, .ref mA5, .ref mA6, .ref mA7, .ref mA8, .ref mA9, .ref mA10, .ref mA11, .ref mA12, nV kz, nV (ssz 8 dn), .ref mA15, .ref mA16, .ref mA17, mV mAb, mV mBe, .ref mA20, zV mCl])), (mA10, cN g 3 lv2), (mA11, cN g 96 fA), (mA15, cN g 48 (kset mdi mlf dn 3 xn))]) (hS : va_S A s.heap H locs) (hl : lv_has ls 4 [(3, nV i), (2, nV (mlf (4 * xn))), (0, .ref mo0), (1, nV xn)]), W p l e (rD 3) s m args below meth c H locs 0 0 Q (F0 m 39 ls []) := by
    intro n_39
    induction n_39 with
    | zero => intro i fA H locs ls hi hfA hm hP hD hS hl; exact absurd hm (Nat.not_lt_zero _)
    | succ n_39 ih_39 =>
      intro i fA H locs ls hi hfA hm hP hD hS hl
      refine lv_iload_n C.1 C.2.1 dX10_take_39 rfl (lv_at hl 0 rfl) ?_
      refine r_iconst 4 C dX10_take_40 rfl ?_
      refine lv_aload_n C.1 C.2.1 dX10_take_41 rfl (lv_at hl 2 rfl) ?_
      refine r_get C hK hP kw_X10 (ci := 8) rfl 0 10 (by decide) kf_X10_35 rfl rfl dX10_take_42 ?_
      refine r_iconst 0 C dX10_take_45 rfl ?_
      refine r_aldN C hK hP 1 rfl ⟨by omega, by omega⟩ dX10_take_46 ?_
      refine r_mulN C dX10_take_47 ?_
      refine r_cge 71 C dX10_take_48 rfl ⟨rgN (by omega), rgN (by omega)⟩ (fun h_7 => ?_) (fun h_7 => ?_)
      · skip
        refine lv_iload_n C.1 C.2.1 dX10_take_71 rfl (lv_at hl 1 rfl) ?_
        exact ret (()) dX10_take_72 hS (by rw [hfA, show i = 4 * (mlv 0 - 1) by omega, ← hlv2] at hP; exact hP) (by first | rfl | exact iI_cast (by omega) | exact congrArg lI (by omega) | omega)
      refine lv_aload_n C.1 C.2.1 dX10_take_51 rfl (lv_at hl 2 rfl) ?_
      refine r_get C hK hP kw_X10 (ci := 8) rfl 0 11 (by decide) kf_X10_38 rfl rfl dX10_take_52 ?_
      refine lv_iload_n C.1 C.2.1 dX10_take_55 rfl (lv_at hl 0 rfl) ?_
      refine lv_aload_n C.1 C.2.1 dX10_take_56 rfl (lv_at hl 2 rfl) ?_
      refine r_get C hK hP kw_X10 (ci := 8) rfl 0 11 (by decide) kf_X10_38 rfl rfl dX10_take_57 ?_
      refine lv_iload_n C.1 C.2.1 dX10_take_60 rfl (lv_at hl 0 rfl) ?_
      refine r_iconst 4 C dX10_take_61 rfl ?_
      refine r_addN C dX10_take_62 ?_
      refine r_aldN C hK hP 2 rfl ⟨by omega, by omega⟩ dX10_take_63 ?_
      refine r_astN C hK hP hD hS 2 rfl ⟨by omega, by omega⟩ dX10_take_64 (fun H locs hP hD hS => ?_)
      have hP : va_P g.1 vwCl [(mo0, .inr (8, [nV mL, .ref mA1, nV mAt, .ref mA3, .ref mA4, .ref mA5, .ref mA6, .ref mA7, .ref mA8, .ref mA9, .ref mA10, .ref mA11, .ref mA12, nV kz, nV (ssz 8 dn), .ref mA15, .ref mA16, .ref mA17, mV mAb, mV mBe, .ref mA20, zV mCl])), (mA10, cN g 3 lv2), (mA11, cN g 96 (upN fA i (fA (i + 4)))), (mA15, cN g 48 (kset mdi mlf dn 3 xn))] H := hP
      have hD : va_D A [(mo0, .inr (8, [nV mL, .ref mA1, nV mAt, .ref mA3, .ref mA4, .ref mA5, .ref mA6, .ref mA7, .ref mA8, .ref mA9, .ref mA10, .ref mA11, .ref mA12, nV kz, nV (ssz 8 dn), .ref mA15, .ref mA16, .ref mA17, mV mAb, mV mBe, .ref mA20, zV mCl])), (mA10, cN g 3 lv2), (mA11, cN g 96 (upN fA i (fA (i + 4)))), (mA15, cN g 48 (kset mdi mlf dn 3 xn))] := hD
      refine r_incN (k := 0) (n := 1) [(3, nV (i + 1)), (2, nV (mlf (4 * xn))), (0, .ref mo0), (1, nV xn)] C dX10_take_65 hl rfl rfl (by decide) rfl (fun ls hl => ?_)
      refine r_goto 39 C dX10_take_68 rfl ?_
      exact ih_39 (i + 1) (upN fA i (fA (i + 4))) _ _ _ (by first | assumption | omega) (by rw [hfA]; exact mmv_s (by omega)) (by omega) hP hD hS (lv_sub hl [0, 1, 2, 3] rfl)
  exact L39 (4 * (mlv 0 - 1) - (4 * xn) + 1) (4 * xn) mlf _ _ _ (by first | assumption | omega) (mmv_0.symm) (Nat.lt_succ_self _) hP hD hS (lv_sub hl [0, 1, 2, 3] rfl)
set_option maxHeartbeats 4000000 in
set_option maxRecDepth 100000 in
theorem c_X10_take_no (l : Launch) (g : GG) (mo0 : Nat) (mA1 : Nat) (mA3 : Nat) (mA4 : Nat) (mA5 : Nat) (mA6 : Nat) (mA7 : Nat) (mA8 : Nat) (mA9 : Nat) (mA10 : Nat) (mA11 : Nat) (mA12 : Nat) (mA15 : Nat) (mA16 : Nat) (mA17 : Nat) (mA20 : Nat) (mL : Nat) (mAt : Nat) (kz : Nat) (dn : Nat) (mAb : Nat) (mBe : Nat) (mCl : Int) (mlv : Nat → Nat) (ce : Nat → Nat) (x : Int) (hl0 : mlv 0 = ce 40) (h40 : ce 40 ≤ 8) (hno : ¬ (0 ≤ x ∧ x < (ce 40 : Int))) (hx : rg x) : ROi g l yX10_take cX10_take 4 (some .int) 3 [(mo0, .inr (8, [nV mL, .ref mA1, nV mAt, .ref mA3, .ref mA4, .ref mA5, .ref mA6, .ref mA7, .ref mA8, .ref mA9, .ref mA10, .ref mA11, .ref mA12, nV kz, nV dn, .ref mA15, .ref mA16, .ref mA17, mV mAb, mV mBe, .ref mA20, zV mCl])), (mA10, cN g 3 mlv)] [.ref mo0, zV x] (fun r => r = iI (-1)) := by
  refine ro_startI (by decide +kernel) (Nat.le_of_ble_eq_true rfl) ?_
  intro p e s m args below meth c Q ls C hK hP ret hl
  have C : CT p s m args meth c cX10_take RX10 4 := C
  have hl : lv_has ls 4 [(0, .ref mo0), (1, zV x)] := hl
  refine lv_aload_n C.1 C.2.1 dX10_take_0 rfl (lv_at hl 0 rfl) ?_
  refine lv_iload_n C.1 C.2.1 dX10_take_1 rfl (lv_at hl 1 rfl) ?_
  refine ro_callV (As := [zV x]) (rest := []) C hK (c_X10_isLoaf l g mo0 mA1 mA3 mA4 mA5 mA6 mA7 mA8 mA9 mA10 mA11 mA12 mA15 mA16 mA17 mA20 mL mAt kz dn mAb mBe mCl mlv ce x (by first | assumption | omega) (by first | assumption | omega) (by first | assumption | exact ⟨by omega, by omega⟩)) hP (ci := 8) (q0 := 0) rfl rfl kc_X10_isLoaf kl_X10_150 kn_X10 ki_X10_isLoaf ke_X10_isLoaf nk_X10_isLoaf (rm_lt (by decide) (by decide)) hl rfl (Nat.le_of_ble_eq_true rfl) dX10_take_2 (fun r_1 hr_2 => ?_)
  subst hr_2
  refine r_bne 10 C dX10_take_5 rfl (fun h_3 => ?_) (fun h_3 => ?_)
  · exact absurd h_3 (by omega)
  refine r_iconstZ C dX10_take_8 ?_
  exact ret dX10_take_9 (by first | rfl | exact iI_cast (by omega) | exact congrArg lI (by omega) | omega)
set_option maxHeartbeats 4000000 in
set_option maxRecDepth 100000 in
theorem c_X10_undo_0 (l : Launch) (g : GG) (mo0 : Nat) (mA1 : Nat) (mA3 : Nat) (mA4 : Nat) (mA5 : Nat) (mA6 : Nat) (mA7 : Nat) (mA8 : Nat) (mA9 : Nat) (mA10 : Nat) (mA11 : Nat) (mA12 : Nat) (mA15 : Nat) (mA16 : Nat) (mA17 : Nat) (mA20 : Nat) (mL : Nat) (mAt : Nat) (kz : Nat) (dn : Nat) (mAb : Nat) (mBe : Nat) (mCl : Int) (mws : Nat → Nat) (mwd : Nat → Nat) (mlv : Nat → Nat) (mlf : Nat → Nat) (mfl : Nat → Int) (mdi : Nat → Nat) (sg : Nat → Nat) (k : Nat) (ii : Nat) (wa : Nat) (kd : Nat) (hk0 : mws 0 = k) (hk : k ≤ 8) (hsg : ∀ j, sg j < 72) (hwd : ∀ j, j < k → mwd (2 * j) = sg j) (hdn : 1 ≤ dn ∧ dn ≤ 8) (hkd : mdi (6 * (dn - 1)) = 0) (hki : mdi (6 * (dn - 1) + 1) = ii) (hii : ii < 8) (hlz : 1 ≤ mlv 0 ∧ mlv 0 ≤ 8) (hwa : mlf (4 * (mlv 0 - 1)) = wa) (hkk : mlf (4 * (mlv 0 - 1) + 1) = kd) (hwk : wa < k) (hkd4 : kd < 4) : WRi g l yX10_undo cX10_undo 4 (some .int) 3 [(mo0, .inr (8, [nV mL, .ref mA1, nV mAt, .ref mA3, .ref mA4, .ref mA5, .ref mA6, .ref mA7, .ref mA8, .ref mA9, .ref mA10, .ref mA11, .ref mA12, nV kz, nV dn, .ref mA15, .ref mA16, .ref mA17, mV mAb, mV mBe, .ref mA20, zV mCl])), (mA4, cN g 2 mws), (mA5, cN g 32 mwd), (mA10, cN g 3 mlv), (mA11, cN g 96 mlf), (mA12, cZ g 3 mfl), (mA15, cN g 48 mdi)] [.ref mo0] (fun r (_ : Unit) => r = iI ((dn - 1 : Nat) : Int)) (fun (_ : Unit) => [(mo0, .inr (8, [nV mL, .ref mA1, nV mAt, .ref mA3, .ref mA4, .ref mA5, .ref mA6, .ref mA7, .ref mA8, .ref mA9, .ref mA10, .ref mA11, .ref mA12, nV kz, nV (dn - 1), .ref mA15, .ref mA16, .ref mA17, mV mAb, mV mBe, .ref mA20, zV mCl])), (mA4, cN g 2 mws), (mA5, cN g 32 mwd), (mA10, cN g 3 (upN mlv 0 (mlv 0 - 1))), (mA11, cN g 96 mlf), (mA12, cZ g 3 (upZ mfl 0 (mfl 0 - ((flk (bkd sg k wa kd) kd : Nat) : Int)))), (mA15, cN g 48 mdi)]) := by
  refine wr_startI (by decide +kernel) (Nat.le_of_ble_eq_true rfl) ?_
  intro p e s m args below meth c Q A ls C hK hA ret hP hD hS hl
  have C : CT p s m args meth c cX10_undo RX10 4 := C
  have hl : lv_has ls 4 [(0, .ref mo0)] := hl
  refine lv_aload_n C.1 C.2.1 dX10_undo_0 rfl (lv_at hl 0 rfl) ?_
  refine r_get C hK hP kw_X10 (ci := 8) rfl 0 14 (by decide) kf_X10_98 rfl rfl dX10_undo_1 ?_
  refine r_ine 10 C dX10_undo_4 rfl (rgN (by omega)) (fun h_1 => ?_) (fun h_1 => ?_)
  rotate_left
  · exact absurd h_1 (by omega)
  refine lv_aload_n C.1 C.2.1 dX10_undo_10 rfl (lv_at hl 0 rfl) ?_
  refine lv_dup C.1 C.2.1 dX10_undo_11 rfl ?_
  refine r_get C hK hP kw_X10 (ci := 8) rfl 0 14 (by decide) kf_X10_98 rfl rfl dX10_undo_12 ?_
  refine r_iconst 1 C dX10_undo_15 rfl ?_
  refine r_subN C dX10_undo_16 (by omega) ?_
  refine r_put (v := nV (dn - 1)) C hK hP hD hS kw_X10 tyX10_ok nmX10 (ci := 8) rfl 0 14 (by decide) kf_X10_98 rfl rfl rfl rfl rfl (Nat.le_of_ble_eq_true rfl) dX10_undo_17 (fun H locs hP hD hS => ?_)
  have hP : va_P g.1 vwCl [(mo0, .inr (8, [nV mL, .ref mA1, nV mAt, .ref mA3, .ref mA4, .ref mA5, .ref mA6, .ref mA7, .ref mA8, .ref mA9, .ref mA10, .ref mA11, .ref mA12, nV kz, nV (dn - 1), .ref mA15, .ref mA16, .ref mA17, mV mAb, mV mBe, .ref mA20, zV mCl])), (mA4, cN g 2 mws), (mA5, cN g 32 mwd), (mA10, cN g 3 mlv), (mA11, cN g 96 mlf), (mA12, cZ g 3 mfl), (mA15, cN g 48 mdi)] H := hP
  have hD : va_D A [(mo0, .inr (8, [nV mL, .ref mA1, nV mAt, .ref mA3, .ref mA4, .ref mA5, .ref mA6, .ref mA7, .ref mA8, .ref mA9, .ref mA10, .ref mA11, .ref mA12, nV kz, nV (dn - 1), .ref mA15, .ref mA16, .ref mA17, mV mAb, mV mBe, .ref mA20, zV mCl])), (mA4, cN g 2 mws), (mA5, cN g 32 mwd), (mA10, cN g 3 mlv), (mA11, cN g 96 mlf), (mA12, cZ g 3 mfl), (mA15, cN g 48 mdi)] := hD
  refine lv_aload_n C.1 C.2.1 dX10_undo_20 rfl (lv_at hl 0 rfl) ?_
  refine r_get C hK hP kw_X10 (ci := 8) rfl 0 15 (by decide) kf_X10_44 rfl rfl dX10_undo_21 ?_
  refine r_bipush 6 C dX10_undo_24 (by decide) ?_
  refine lv_aload_n C.1 C.2.1 dX10_undo_26 rfl (lv_at hl 0 rfl) ?_
  refine r_get C hK hP kw_X10 (ci := 8) rfl 0 14 (by decide) kf_X10_98 rfl rfl dX10_undo_27 ?_
  refine r_mulN C dX10_undo_30 ?_
  refine r_aldN C hK hP 6 rfl ⟨by omega, by omega⟩ dX10_undo_31 ?_
  refine r_top (v' := nV 0) (by rw [hkd]) ?_
  refine lv_istore_n (lv' := [(1, nV 0), (0, .ref mo0)]) C.1 C.2.1 dX10_undo_32 rfl hl (by decide) rfl (fun ls hl => ?_)
  refine lv_aload_n C.1 C.2.1 dX10_undo_33 rfl (lv_at hl 1 rfl) ?_
  refine r_get C hK hP kw_X10 (ci := 8) rfl 0 15 (by decide) kf_X10_44 rfl rfl dX10_undo_34 ?_
  refine r_bipush 6 C dX10_undo_37 (by decide) ?_
  refine lv_aload_n C.1 C.2.1 dX10_undo_39 rfl (lv_at hl 1 rfl) ?_
  refine r_get C hK hP kw_X10 (ci := 8) rfl 0 14 (by decide) kf_X10_98 rfl rfl dX10_undo_40 ?_
  refine r_mulN C dX10_undo_43 ?_
  refine r_iconst 1 C dX10_undo_44 rfl ?_
  refine r_addN C dX10_undo_45 ?_
  refine r_aldN C hK hP 6 rfl ⟨by omega, by omega⟩ dX10_undo_46 ?_
  refine r_top (v' := nV ii) (by rw [hki]) ?_
  refine lv_istore_n (lv' := [(2, nV ii), (1, nV 0), (0, .ref mo0)]) C.1 C.2.1 dX10_undo_47 rfl hl (by decide) rfl (fun ls hl => ?_)
  refine lv_iload_n C.1 C.2.1 dX10_undo_48 rfl (lv_at hl 1 rfl) ?_
  refine r_ine 106 C dX10_undo_49 rfl (rgN (by decide)) (fun h_2 => ?_) (fun h_2 => ?_)
  · exact absurd h_2 (by omega)
  refine lv_aload_n C.1 C.2.1 dX10_undo_52 rfl (lv_at hl 2 rfl) ?_
  refine r_get C hK hP kw_X10 (ci := 8) rfl 0 10 (by decide) kf_X10_35 rfl rfl dX10_undo_53 ?_
  refine r_iconst 0 C dX10_undo_56 rfl ?_
  refine lv_dup2_11 C.1 C.2.1 dX10_undo_57 rfl rfl ?_
  refine r_aldN C hK hP 3 rfl ⟨by omega, by omega⟩ dX10_undo_58 ?_
  refine r_iconst 1 C dX10_undo_59 rfl ?_
  refine r_subN C dX10_undo_60 (by omega) ?_
  refine r_astN C hK hP hD hS 3 rfl ⟨by omega, by omega⟩ dX10_undo_61 (fun H locs hP hD hS => ?_)
  have hP : va_P g.1 vwCl [(mo0, .inr (8, [nV mL, .ref mA1, nV mAt, .ref mA3, .ref mA4, .ref mA5, .ref mA6, .ref mA7, .ref mA8, .ref mA9, .ref mA10, .ref mA11, .ref mA12, nV kz, nV (dn - 1), .ref mA15, .ref mA16, .ref mA17, mV mAb, mV mBe, .ref mA20, zV mCl])), (mA4, cN g 2 mws), (mA5, cN g 32 mwd), (mA10, cN g 3 (upN mlv 0 ((mlv 0) - 1))), (mA11, cN g 96 mlf), (mA12, cZ g 3 mfl), (mA15, cN g 48 mdi)] H := hP
  have hD : va_D A [(mo0, .inr (8, [nV mL, .ref mA1, nV mAt, .ref mA3, .ref mA4, .ref mA5, .ref mA6, .ref mA7, .ref mA8, .ref mA9, .ref mA10, .ref mA11, .ref mA12, nV kz, nV (dn - 1), .ref mA15, .ref mA16, .ref mA17, mV mAb, mV mBe, .ref mA20, zV mCl])), (mA4, cN g 2 mws), (mA5, cN g 32 mwd), (mA10, cN g 3 (upN mlv 0 ((mlv 0) - 1))), (mA11, cN g 96 mlf), (mA12, cZ g 3 mfl), (mA15, cN g 48 mdi)] := hD
  generalize hlv2 : upN mlv 0 ((mlv 0) - 1) = lv2 at hP hD
  have hv0 : lv2 0 = (mlv 0 - 1) := by rw [← hlv2]; exact upN_s
  refine lv_aload_n C.1 C.2.1 dX10_undo_62 rfl (lv_at hl 2 rfl) ?_
  refine r_get C hK hP kw_X10 (ci := 8) rfl 0 12 (by decide) kf_X10_41 rfl rfl dX10_undo_63 ?_
  refine r_iconst 0 C dX10_undo_66 rfl ?_
  refine lv_dup2_11 C.1 C.2.1 dX10_undo_67 rfl rfl ?_
  refine r_aldZ C hK hP 5 rfl ⟨by omega, by omega⟩ dX10_undo_68 ?_
  refine lv_aload_n C.1 C.2.1 dX10_undo_69 rfl (lv_at hl 2 rfl) ?_
  refine lv_aload_n C.1 C.2.1 dX10_undo_70 rfl (lv_at hl 2 rfl) ?_
  refine r_get C hK hP kw_X10 (ci := 8) rfl 0 11 (by decide) kf_X10_38 rfl rfl dX10_undo_71 ?_
  refine r_iconst 4 C dX10_undo_74 rfl ?_
  refine lv_aload_n C.1 C.2.1 dX10_undo_75 rfl (lv_at hl 2 rfl) ?_
  refine r_get C hK hP kw_X10 (ci := 8) rfl 0 10 (by decide) kf_X10_35 rfl rfl dX10_undo_76 ?_
  refine r_iconst 0 C dX10_undo_79 rfl ?_
  refine r_aldN C hK hP 3 rfl ⟨by omega, by omega⟩ dX10_undo_80 ?_
  refine r_mulN C dX10_undo_81 ?_
  refine r_aldN C hK hP 4 rfl ⟨by omega, by omega⟩ dX10_undo_82 ?_
  refine r_top (v' := nV wa) (by rw [hv0, hwa]) ?_
  refine lv_aload_n C.1 C.2.1 dX10_undo_83 rfl (lv_at hl 2 rfl) ?_
  refine r_get C hK hP kw_X10 (ci := 8) rfl 0 11 (by decide) kf_X10_38 rfl rfl dX10_undo_84 ?_
  refine r_iconst 4 C dX10_undo_87 rfl ?_
  refine lv_aload_n C.1 C.2.1 dX10_undo_88 rfl (lv_at hl 2 rfl) ?_
  refine r_get C hK hP kw_X10 (ci := 8) rfl 0 10 (by decide) kf_X10_35 rfl rfl dX10_undo_89 ?_
  refine r_iconst 0 C dX10_undo_92 rfl ?_
  refine r_aldN C hK hP 3 rfl ⟨by omega, by omega⟩ dX10_undo_93 ?_
  refine r_mulN C dX10_undo_94 ?_
  refine r_iconst 1 C dX10_undo_95 rfl ?_
  refine r_addN C dX10_undo_96 ?_
  refine r_aldN C hK hP 4 rfl ⟨by omega, by omega⟩ dX10_undo_97 ?_
  refine r_top (v' := nV kd) (by rw [hv0, hkk]) ?_
  refine ro_callV (As := [nV wa, nV kd]) (rest := [zV (mfl 0), nV 0, .ref mA12]) C hK (c_X10_used l g mo0 mA1 mA3 mA4 mA5 mA6 mA7 mA8 mA9 mA10 mA11 mA12 mA15 mA16 mA17 mA20 mL mAt kz (dn - 1) mAb mBe mCl mws mwd sg k wa kd (by first | assumption | omega) (by first | assumption | omega) (by first | assumption | omega) (by first | assumption | omega) (by first | assumption | omega) (by first | assumption | omega)) (hP.sub (ws' := [(mo0, .inr (8, [nV mL, .ref mA1, nV mAt, .ref mA3, .ref mA4, .ref mA5, .ref mA6, .ref mA7, .ref mA8, .ref mA9, .ref mA10, .ref mA11, .ref mA12, nV kz, nV (dn - 1), .ref mA15, .ref mA16, .ref mA17, mV mAb, mV mBe, .ref mA20, zV mCl])), (mA4, cN g 2 mws), (mA5, cN g 32 mwd)]) [0, 1, 2] rfl) (ci := 8) (q0 := 0) rfl rfl kc_X10_used kl_X10_133 kn_X10 ki_X10_used ke_X10_used nk_X10_used (rm_lt (by decide) (by decide)) hl rfl (Nat.le_of_ble_eq_true rfl) dX10_undo_98 (fun r_3 hr_4 => ?_)
  subst hr_4
  have hf_5 := flk_bd (bkd sg k (wa) (kd)) (kd) (hsg _)
  refine r_subZ C dX10_undo_101 ?_
  refine r_astZ C hK hP hD hS 5 rfl ⟨by omega, by omega⟩ dX10_undo_102 (fun H locs hP hD hS => ?_)
  have hP : va_P g.1 vwCl [(mo0, .inr (8, [nV mL, .ref mA1, nV mAt, .ref mA3, .ref mA4, .ref mA5, .ref mA6, .ref mA7, .ref mA8, .ref mA9, .ref mA10, .ref mA11, .ref mA12, nV kz, nV (dn - 1), .ref mA15, .ref mA16, .ref mA17, mV mAb, mV mBe, .ref mA20, zV mCl])), (mA4, cN g 2 mws), (mA5, cN g 32 mwd), (mA10, cN g 3 lv2), (mA11, cN g 96 mlf), (mA12, cZ g 3 (upZ mfl 0 ((mfl 0) - ((flk (bkd sg k wa kd) kd : Nat) : Int)))), (mA15, cN g 48 mdi)] H := hP
  have hD : va_D A [(mo0, .inr (8, [nV mL, .ref mA1, nV mAt, .ref mA3, .ref mA4, .ref mA5, .ref mA6, .ref mA7, .ref mA8, .ref mA9, .ref mA10, .ref mA11, .ref mA12, nV kz, nV (dn - 1), .ref mA15, .ref mA16, .ref mA17, mV mAb, mV mBe, .ref mA20, zV mCl])), (mA4, cN g 2 mws), (mA5, cN g 32 mwd), (mA10, cN g 3 lv2), (mA11, cN g 96 mlf), (mA12, cZ g 3 (upZ mfl 0 ((mfl 0) - ((flk (bkd sg k wa kd) kd : Nat) : Int)))), (mA15, cN g 48 mdi)] := hD
  refine r_goto 228 C dX10_undo_103 rfl ?_
  refine lv_aload_n C.1 C.2.1 dX10_undo_228 rfl (lv_at hl 2 rfl) ?_
  refine r_get C hK hP kw_X10 (ci := 8) rfl 0 14 (by decide) kf_X10_98 rfl rfl dX10_undo_229 ?_
  exact ret (()) dX10_undo_232 hS (by rw [← hlv2] at hP; exact hP) (by first | rfl | exact iI_cast (by omega) | exact congrArg lI (by omega) | omega)
set_option maxHeartbeats 4000000 in
set_option maxRecDepth 100000 in
theorem c_X10_undo_1 (l : Launch) (g : GG) (mo0 : Nat) (mA1 : Nat) (mA3 : Nat) (mA4 : Nat) (mA5 : Nat) (mA6 : Nat) (mA7 : Nat) (mA8 : Nat) (mA9 : Nat) (mA10 : Nat) (mA11 : Nat) (mA12 : Nat) (mA15 : Nat) (mA16 : Nat) (mA17 : Nat) (mA20 : Nat) (mL : Nat) (mAt : Nat) (kz : Nat) (dn : Nat) (mAb : Nat) (mBe : Nat) (mCl : Int) (mlv : Nat → Nat) (mlf : Nat → Nat) (mdi : Nat → Nat) (ii : Nat) (hdn : 1 ≤ dn ∧ dn ≤ 8) (hkd : mdi (6 * (dn - 1)) = 1) (hki : mdi (6 * (dn - 1) + 1) = ii) (hii : ii < 8) (hl8 : mlv 0 ≤ 8) (hge : ∀ i, i < mlv 0 → 1 ≤ mlf (4 * i + 2)) : WRi g l yX10_undo cX10_undo 4 (some .int) 3 [(mo0, .inr (8, [nV mL, .ref mA1, nV mAt, .ref mA3, .ref mA4, .ref mA5, .ref mA6, .ref mA7, .ref mA8, .ref mA9, .ref mA10, .ref mA11, .ref mA12, nV kz, nV dn, .ref mA15, .ref mA16, .ref mA17, mV mAb, mV mBe, .ref mA20, zV mCl])), (mA10, cN g 3 mlv), (mA11, cN g 96 mlf), (mA15, cN g 48 mdi)] [.ref mo0] (fun r (_ : Unit) => r = iI ((dn - 1 : Nat) : Int)) (fun (_ : Unit) => [(mo0, .inr (8, [nV mL, .ref mA1, nV mAt, .ref mA3, .ref mA4, .ref mA5, .ref mA6, .ref mA7, .ref mA8, .ref mA9, .ref mA10, .ref mA11, .ref mA12, nV kz, nV (dn - 1), .ref mA15, .ref mA16, .ref mA17, mV mAb, mV mBe, .ref mA20, zV mCl])), (mA10, cN g 3 mlv), (mA11, cN g 96 (mdad mlf (mlv 0))), (mA15, cN g 48 mdi)]) := by
  refine wr_startI (by decide +kernel) (Nat.le_of_ble_eq_true rfl) ?_
  intro p e s m args below meth c Q A ls C hK hA ret hP hD hS hl
  have C : CT p s m args meth c cX10_undo RX10 4 := C
  have hl : lv_has ls 4 [(0, .ref mo0)] := hl
  refine lv_aload_n C.1 C.2.1 dX10_undo_0 rfl (lv_at hl 0 rfl) ?_
  refine r_get C hK hP kw_X10 (ci := 8) rfl 0 14 (by decide) kf_X10_98 rfl rfl dX10_undo_1 ?_
  refine r_ine 10 C dX10_undo_4 rfl (rgN (by omega)) (fun h_1 => ?_) (fun h_1 => ?_)
  rotate_left
  · exact absurd h_1 (by omega)
  refine lv_aload_n C.1 C.2.1 dX10_undo_10 rfl (lv_at hl 0 rfl) ?_
  refine lv_dup C.1 C.2.1 dX10_undo_11 rfl ?_
  refine r_get C hK hP kw_X10 (ci := 8) rfl 0 14 (by decide) kf_X10_98 rfl rfl dX10_undo_12 ?_
  refine r_iconst 1 C dX10_undo_15 rfl ?_
  refine r_subN C dX10_undo_16 (by omega) ?_
  refine r_put (v := nV (dn - 1)) C hK hP hD hS kw_X10 tyX10_ok nmX10 (ci := 8) rfl 0 14 (by decide) kf_X10_98 rfl rfl rfl rfl rfl (Nat.le_of_ble_eq_true rfl) dX10_undo_17 (fun H locs hP hD hS => ?_)
  have hP : va_P g.1 vwCl [(mo0, .inr (8, [nV mL, .ref mA1, nV mAt, .ref mA3, .ref mA4, .ref mA5, .ref mA6, .ref mA7, .ref mA8, .ref mA9, .ref mA10, .ref mA11, .ref mA12, nV kz, nV (dn - 1), .ref mA15, .ref mA16, .ref mA17, mV mAb, mV mBe, .ref mA20, zV mCl])), (mA10, cN g 3 mlv), (mA11, cN g 96 mlf), (mA15, cN g 48 mdi)] H := hP
  have hD : va_D A [(mo0, .inr (8, [nV mL, .ref mA1, nV mAt, .ref mA3, .ref mA4, .ref mA5, .ref mA6, .ref mA7, .ref mA8, .ref mA9, .ref mA10, .ref mA11, .ref mA12, nV kz, nV (dn - 1), .ref mA15, .ref mA16, .ref mA17, mV mAb, mV mBe, .ref mA20, zV mCl])), (mA10, cN g 3 mlv), (mA11, cN g 96 mlf), (mA15, cN g 48 mdi)] := hD
  refine lv_aload_n C.1 C.2.1 dX10_undo_20 rfl (lv_at hl 0 rfl) ?_
  refine r_get C hK hP kw_X10 (ci := 8) rfl 0 15 (by decide) kf_X10_44 rfl rfl dX10_undo_21 ?_
  refine r_bipush 6 C dX10_undo_24 (by decide) ?_
  refine lv_aload_n C.1 C.2.1 dX10_undo_26 rfl (lv_at hl 0 rfl) ?_
  refine r_get C hK hP kw_X10 (ci := 8) rfl 0 14 (by decide) kf_X10_98 rfl rfl dX10_undo_27 ?_
  refine r_mulN C dX10_undo_30 ?_
  refine r_aldN C hK hP 3 rfl ⟨by omega, by omega⟩ dX10_undo_31 ?_
  refine r_top (v' := nV 1) (by rw [hkd]) ?_
  refine lv_istore_n (lv' := [(1, nV 1), (0, .ref mo0)]) C.1 C.2.1 dX10_undo_32 rfl hl (by decide) rfl (fun ls hl => ?_)
  refine lv_aload_n C.1 C.2.1 dX10_undo_33 rfl (lv_at hl 1 rfl) ?_
  refine r_get C hK hP kw_X10 (ci := 8) rfl 0 15 (by decide) kf_X10_44 rfl rfl dX10_undo_34 ?_
  refine r_bipush 6 C dX10_undo_37 (by decide) ?_
  refine lv_aload_n C.1 C.2.1 dX10_undo_39 rfl (lv_at hl 1 rfl) ?_
  refine r_get C hK hP kw_X10 (ci := 8) rfl 0 14 (by decide) kf_X10_98 rfl rfl dX10_undo_40 ?_
  refine r_mulN C dX10_undo_43 ?_
  refine r_iconst 1 C dX10_undo_44 rfl ?_
  refine r_addN C dX10_undo_45 ?_
  refine r_aldN C hK hP 3 rfl ⟨by omega, by omega⟩ dX10_undo_46 ?_
  refine r_top (v' := nV ii) (by rw [hki]) ?_
  refine lv_istore_n (lv' := [(2, nV ii), (1, nV 1), (0, .ref mo0)]) C.1 C.2.1 dX10_undo_47 rfl hl (by decide) rfl (fun ls hl => ?_)
  refine lv_iload_n C.1 C.2.1 dX10_undo_48 rfl (lv_at hl 1 rfl) ?_
  refine r_ine 106 C dX10_undo_49 rfl (rgN (by decide)) (fun h_2 => ?_) (fun h_2 => ?_)
  rotate_left
  · exact absurd h_2 (by omega)
  refine lv_iload_n C.1 C.2.1 dX10_undo_106 rfl (lv_at hl 1 rfl) ?_
  refine r_iconst 1 C dX10_undo_107 rfl ?_
  refine r_cne 119 C dX10_undo_108 rfl ⟨rgN (by decide), rgN (by decide)⟩ (fun h_3 => ?_) (fun h_3 => ?_)
  · exact absurd h_3 (by omega)
  refine lv_aload_n C.1 C.2.1 dX10_undo_111 rfl (lv_at hl 2 rfl) ?_
  refine r_iconstZ C dX10_undo_112 ?_
  refine wr_callVV (As := [zV (-1)]) (rest := []) C hK (c_X10_ages_d l g mo0 mA1 mA3 mA4 mA5 mA6 mA7 mA8 mA9 mA10 mA11 mA12 mA15 mA16 mA17 mA20 mL mAt kz (dn - 1) mAb mBe mCl mlv mlf (by first | assumption | omega) (by first | assumption | omega)) [0, 1, 2] rfl (fun _ => rfl) (by decide) hP hD hS hA (ci := 8) (q0 := 0) rfl rfl kc_X10_ages kl_X10_140 kn_X10 ki_X10_ages ke_X10_ages nk_X10_ages (rm_lt (by decide) (by decide)) hl rfl (Nat.le_of_ble_eq_true rfl) dX10_undo_113 (fun u_6 H locs hr_5 hP hD hS => ?_)
  have hP : va_P g.1 vwCl [(mo0, .inr (8, [nV mL, .ref mA1, nV mAt, .ref mA3, .ref mA4, .ref mA5, .ref mA6, .ref mA7, .ref mA8, .ref mA9, .ref mA10, .ref mA11, .ref mA12, nV kz, nV (dn - 1), .ref mA15, .ref mA16, .ref mA17, mV mAb, mV mBe, .ref mA20, zV mCl])), (mA10, cN g 3 mlv), (mA11, cN g 96 (mdad mlf (mlv 0))), (mA15, cN g 48 mdi)] H := hP
  have hD : va_D A [(mo0, .inr (8, [nV mL, .ref mA1, nV mAt, .ref mA3, .ref mA4, .ref mA5, .ref mA6, .ref mA7, .ref mA8, .ref mA9, .ref mA10, .ref mA11, .ref mA12, nV kz, nV (dn - 1), .ref mA15, .ref mA16, .ref mA17, mV mAb, mV mBe, .ref mA20, zV mCl])), (mA10, cN g 3 mlv), (mA11, cN g 96 (mdad mlf (mlv 0))), (mA15, cN g 48 mdi)] := hD
  refine r_goto 228 C dX10_undo_116 rfl ?_
  refine lv_aload_n C.1 C.2.1 dX10_undo_228 rfl (lv_at hl 2 rfl) ?_
  refine r_get C hK hP kw_X10 (ci := 8) rfl 0 14 (by decide) kf_X10_98 rfl rfl dX10_undo_229 ?_
  exact ret (()) dX10_undo_232 hS hP (by first | rfl | exact iI_cast (by omega) | exact congrArg lI (by omega) | omega)
set_option maxHeartbeats 4000000 in
set_option maxRecDepth 100000 in
theorem c_X10_undo_2 (l : Launch) (g : GG) (mo0 : Nat) (mA1 : Nat) (mA3 : Nat) (mA4 : Nat) (mA5 : Nat) (mA6 : Nat) (mA7 : Nat) (mA8 : Nat) (mA9 : Nat) (mA10 : Nat) (mA11 : Nat) (mA12 : Nat) (mA15 : Nat) (mA16 : Nat) (mA17 : Nat) (mA20 : Nat) (mL : Nat) (mAt : Nat) (kz : Nat) (dn : Nat) (mAb : Nat) (mBe : Nat) (mCl : Int) (mlf : Nat → Nat) (mdi : Nat → Nat) (ii : Nat) (hdn : 1 ≤ dn ∧ dn ≤ 8) (hkd : mdi (6 * (dn - 1)) = 2) (hki : mdi (6 * (dn - 1) + 1) = ii) (hii : ii < 8) (hge : 1 ≤ mlf (4 * ii + 3)) : WRi g l yX10_undo cX10_undo 4 (some .int) 3 [(mo0, .inr (8, [nV mL, .ref mA1, nV mAt, .ref mA3, .ref mA4, .ref mA5, .ref mA6, .ref mA7, .ref mA8, .ref mA9, .ref mA10, .ref mA11, .ref mA12, nV kz, nV dn, .ref mA15, .ref mA16, .ref mA17, mV mAb, mV mBe, .ref mA20, zV mCl])), (mA11, cN g 96 mlf), (mA15, cN g 48 mdi)] [.ref mo0] (fun r (_ : Unit) => r = iI ((dn - 1 : Nat) : Int)) (fun (_ : Unit) => [(mo0, .inr (8, [nV mL, .ref mA1, nV mAt, .ref mA3, .ref mA4, .ref mA5, .ref mA6, .ref mA7, .ref mA8, .ref mA9, .ref mA10, .ref mA11, .ref mA12, nV kz, nV (dn - 1), .ref mA15, .ref mA16, .ref mA17, mV mAb, mV mBe, .ref mA20, zV mCl])), (mA11, cN g 96 (upN mlf (4 * ii + 3) (mlf (4 * ii + 3) - 1))), (mA15, cN g 48 mdi)]) := by
  refine wr_startI (by decide +kernel) (Nat.le_of_ble_eq_true rfl) ?_
  intro p e s m args below meth c Q A ls C hK hA ret hP hD hS hl
  have C : CT p s m args meth c cX10_undo RX10 4 := C
  have hl : lv_has ls 4 [(0, .ref mo0)] := hl
  refine lv_aload_n C.1 C.2.1 dX10_undo_0 rfl (lv_at hl 0 rfl) ?_
  refine r_get C hK hP kw_X10 (ci := 8) rfl 0 14 (by decide) kf_X10_98 rfl rfl dX10_undo_1 ?_
  refine r_ine 10 C dX10_undo_4 rfl (rgN (by omega)) (fun h_1 => ?_) (fun h_1 => ?_)
  rotate_left
  · exact absurd h_1 (by omega)
  refine lv_aload_n C.1 C.2.1 dX10_undo_10 rfl (lv_at hl 0 rfl) ?_
  refine lv_dup C.1 C.2.1 dX10_undo_11 rfl ?_
  refine r_get C hK hP kw_X10 (ci := 8) rfl 0 14 (by decide) kf_X10_98 rfl rfl dX10_undo_12 ?_
  refine r_iconst 1 C dX10_undo_15 rfl ?_
  refine r_subN C dX10_undo_16 (by omega) ?_
  refine r_put (v := nV (dn - 1)) C hK hP hD hS kw_X10 tyX10_ok nmX10 (ci := 8) rfl 0 14 (by decide) kf_X10_98 rfl rfl rfl rfl rfl (Nat.le_of_ble_eq_true rfl) dX10_undo_17 (fun H locs hP hD hS => ?_)
  have hP : va_P g.1 vwCl [(mo0, .inr (8, [nV mL, .ref mA1, nV mAt, .ref mA3, .ref mA4, .ref mA5, .ref mA6, .ref mA7, .ref mA8, .ref mA9, .ref mA10, .ref mA11, .ref mA12, nV kz, nV (dn - 1), .ref mA15, .ref mA16, .ref mA17, mV mAb, mV mBe, .ref mA20, zV mCl])), (mA11, cN g 96 mlf), (mA15, cN g 48 mdi)] H := hP
  have hD : va_D A [(mo0, .inr (8, [nV mL, .ref mA1, nV mAt, .ref mA3, .ref mA4, .ref mA5, .ref mA6, .ref mA7, .ref mA8, .ref mA9, .ref mA10, .ref mA11, .ref mA12, nV kz, nV (dn - 1), .ref mA15, .ref mA16, .ref mA17, mV mAb, mV mBe, .ref mA20, zV mCl])), (mA11, cN g 96 mlf), (mA15, cN g 48 mdi)] := hD
  refine lv_aload_n C.1 C.2.1 dX10_undo_20 rfl (lv_at hl 0 rfl) ?_
  refine r_get C hK hP kw_X10 (ci := 8) rfl 0 15 (by decide) kf_X10_44 rfl rfl dX10_undo_21 ?_
  refine r_bipush 6 C dX10_undo_24 (by decide) ?_
  refine lv_aload_n C.1 C.2.1 dX10_undo_26 rfl (lv_at hl 0 rfl) ?_
  refine r_get C hK hP kw_X10 (ci := 8) rfl 0 14 (by decide) kf_X10_98 rfl rfl dX10_undo_27 ?_
  refine r_mulN C dX10_undo_30 ?_
  refine r_aldN C hK hP 2 rfl ⟨by omega, by omega⟩ dX10_undo_31 ?_
  refine r_top (v' := nV 2) (by rw [hkd]) ?_
  refine lv_istore_n (lv' := [(1, nV 2), (0, .ref mo0)]) C.1 C.2.1 dX10_undo_32 rfl hl (by decide) rfl (fun ls hl => ?_)
  refine lv_aload_n C.1 C.2.1 dX10_undo_33 rfl (lv_at hl 1 rfl) ?_
  refine r_get C hK hP kw_X10 (ci := 8) rfl 0 15 (by decide) kf_X10_44 rfl rfl dX10_undo_34 ?_
  refine r_bipush 6 C dX10_undo_37 (by decide) ?_
  refine lv_aload_n C.1 C.2.1 dX10_undo_39 rfl (lv_at hl 1 rfl) ?_
  refine r_get C hK hP kw_X10 (ci := 8) rfl 0 14 (by decide) kf_X10_98 rfl rfl dX10_undo_40 ?_
  refine r_mulN C dX10_undo_43 ?_
  refine r_iconst 1 C dX10_undo_44 rfl ?_
  refine r_addN C dX10_undo_45 ?_
  refine r_aldN C hK hP 2 rfl ⟨by omega, by omega⟩ dX10_undo_46 ?_
  refine r_top (v' := nV ii) (by rw [hki]) ?_
  refine lv_istore_n (lv' := [(2, nV ii), (1, nV 2), (0, .ref mo0)]) C.1 C.2.1 dX10_undo_47 rfl hl (by decide) rfl (fun ls hl => ?_)
  refine lv_iload_n C.1 C.2.1 dX10_undo_48 rfl (lv_at hl 1 rfl) ?_
  refine r_ine 106 C dX10_undo_49 rfl (rgN (by decide)) (fun h_2 => ?_) (fun h_2 => ?_)
  rotate_left
  · exact absurd h_2 (by omega)
  refine lv_iload_n C.1 C.2.1 dX10_undo_106 rfl (lv_at hl 1 rfl) ?_
  refine r_iconst 1 C dX10_undo_107 rfl ?_
  refine r_cne 119 C dX10_undo_108 rfl ⟨rgN (by decide), rgN (by decide)⟩ (fun h_3 => ?_) (fun h_3 => ?_)
  rotate_left
  · exact absurd h_3 (by omega)
  refine lv_iload_n C.1 C.2.1 dX10_undo_119 rfl (lv_at hl 1 rfl) ?_
  refine r_iconst 2 C dX10_undo_120 rfl ?_
  refine r_cne 141 C dX10_undo_121 rfl ⟨rgN (by decide), rgN (by decide)⟩ (fun h_4 => ?_) (fun h_4 => ?_)
  · exact absurd h_4 (by omega)
  refine lv_aload_n C.1 C.2.1 dX10_undo_124 rfl (lv_at hl 2 rfl) ?_
  refine r_get C hK hP kw_X10 (ci := 8) rfl 0 11 (by decide) kf_X10_38 rfl rfl dX10_undo_125 ?_
  refine r_iconst 4 C dX10_undo_128 rfl ?_
  refine lv_iload_n C.1 C.2.1 dX10_undo_129 rfl (lv_at hl 0 rfl) ?_
  refine r_mulN C dX10_undo_130 ?_
  refine r_iconst 3 C dX10_undo_131 rfl ?_
  refine r_addN C dX10_undo_132 ?_
  refine lv_dup2_11 C.1 C.2.1 dX10_undo_133 rfl rfl ?_
  refine r_aldN C hK hP 1 rfl ⟨by omega, by omega⟩ dX10_undo_134 ?_
  refine r_iconst 1 C dX10_undo_135 rfl ?_
  refine r_subN C dX10_undo_136 (by omega) ?_
  refine r_astN C hK hP hD hS 1 rfl ⟨by omega, by omega⟩ dX10_undo_137 (fun H locs hP hD hS => ?_)
  have hP : va_P g.1 vwCl [(mo0, .inr (8, [nV mL, .ref mA1, nV mAt, .ref mA3, .ref mA4, .ref mA5, .ref mA6, .ref mA7, .ref mA8, .ref mA9, .ref mA10, .ref mA11, .ref mA12, nV kz, nV (dn - 1), .ref mA15, .ref mA16, .ref mA17, mV mAb, mV mBe, .ref mA20, zV mCl])), (mA11, cN g 96 (upN mlf ((4 * ii) + 3) ((mlf ((4 * ii) + 3)) - 1))), (mA15, cN g 48 mdi)] H := hP
  have hD : va_D A [(mo0, .inr (8, [nV mL, .ref mA1, nV mAt, .ref mA3, .ref mA4, .ref mA5, .ref mA6, .ref mA7, .ref mA8, .ref mA9, .ref mA10, .ref mA11, .ref mA12, nV kz, nV (dn - 1), .ref mA15, .ref mA16, .ref mA17, mV mAb, mV mBe, .ref mA20, zV mCl])), (mA11, cN g 96 (upN mlf ((4 * ii) + 3) ((mlf ((4 * ii) + 3)) - 1))), (mA15, cN g 48 mdi)] := hD
  refine r_goto 228 C dX10_undo_138 rfl ?_
  refine lv_aload_n C.1 C.2.1 dX10_undo_228 rfl (lv_at hl 2 rfl) ?_
  refine r_get C hK hP kw_X10 (ci := 8) rfl 0 14 (by decide) kf_X10_98 rfl rfl dX10_undo_229 ?_
  exact ret (()) dX10_undo_232 hS hP (by first | rfl | exact iI_cast (by omega) | exact congrArg lI (by omega) | omega)
set_option maxHeartbeats 4000000 in
set_option maxRecDepth 100000 in
theorem c_X10_undo_3 (l : Launch) (g : GG) (mo0 : Nat) (mA1 : Nat) (mA3 : Nat) (mA4 : Nat) (mA5 : Nat) (mA6 : Nat) (mA7 : Nat) (mA8 : Nat) (mA9 : Nat) (mA10 : Nat) (mA11 : Nat) (mA12 : Nat) (mA15 : Nat) (mA16 : Nat) (mA17 : Nat) (mA20 : Nat) (mL : Nat) (mAt : Nat) (kz : Nat) (dn : Nat) (mAb : Nat) (mBe : Nat) (mCl : Int) (mlv : Nat → Nat) (mlf : Nat → Nat) (mdi : Nat → Nat) (ii : Nat) (hdn : 1 ≤ dn ∧ dn ≤ 8) (hkd : mdi (6 * (dn - 1)) = 3) (hki : mdi (6 * (dn - 1) + 1) = ii) (hii : ii ≤ mlv 0 ∧ mlv 0 < 8) : WRi g l yX10_undo cX10_undo 4 (some .int) 3 [(mo0, .inr (8, [nV mL, .ref mA1, nV mAt, .ref mA3, .ref mA4, .ref mA5, .ref mA6, .ref mA7, .ref mA8, .ref mA9, .ref mA10, .ref mA11, .ref mA12, nV kz, nV dn, .ref mA15, .ref mA16, .ref mA17, mV mAb, mV mBe, .ref mA20, zV mCl])), (mA10, cN g 3 mlv), (mA11, cN g 96 mlf), (mA15, cN g 48 mdi)] [.ref mo0] (fun r (_ : Unit) => r = iI ((dn - 1 : Nat) : Int)) (fun (_ : Unit) => [(mo0, .inr (8, [nV mL, .ref mA1, nV mAt, .ref mA3, .ref mA4, .ref mA5, .ref mA6, .ref mA7, .ref mA8, .ref mA9, .ref mA10, .ref mA11, .ref mA12, nV kz, nV (dn - 1), .ref mA15, .ref mA16, .ref mA17, mV mAb, mV mBe, .ref mA20, zV mCl])), (mA10, cN g 3 (upN mlv 0 (mlv 0 + 1))), (mA11, cN g 96 (mip (mdn mlf (4 * ii) (4 * mlv 0)) mdi (4 * ii) (6 * (dn - 1) + 2) 4)), (mA15, cN g 48 mdi)]) := by
  refine wr_startI (by decide +kernel) (Nat.le_of_ble_eq_true rfl) ?_
  intro p e s m args below meth c Q A ls C hK hA ret hP hD hS hl
  have C : CT p s m args meth c cX10_undo RX10 4 := C
  have hl : lv_has ls 4 [(0, .ref mo0)] := hl
  refine lv_aload_n C.1 C.2.1 dX10_undo_0 rfl (lv_at hl 0 rfl) ?_
  refine r_get C hK hP kw_X10 (ci := 8) rfl 0 14 (by decide) kf_X10_98 rfl rfl dX10_undo_1 ?_
  refine r_ine 10 C dX10_undo_4 rfl (rgN (by omega)) (fun h_1 => ?_) (fun h_1 => ?_)
  rotate_left
  · exact absurd h_1 (by omega)
  refine lv_aload_n C.1 C.2.1 dX10_undo_10 rfl (lv_at hl 0 rfl) ?_
  refine lv_dup C.1 C.2.1 dX10_undo_11 rfl ?_
  refine r_get C hK hP kw_X10 (ci := 8) rfl 0 14 (by decide) kf_X10_98 rfl rfl dX10_undo_12 ?_
  refine r_iconst 1 C dX10_undo_15 rfl ?_
  refine r_subN C dX10_undo_16 (by omega) ?_
  refine r_put (v := nV (dn - 1)) C hK hP hD hS kw_X10 tyX10_ok nmX10 (ci := 8) rfl 0 14 (by decide) kf_X10_98 rfl rfl rfl rfl rfl (Nat.le_of_ble_eq_true rfl) dX10_undo_17 (fun H locs hP hD hS => ?_)
  have hP : va_P g.1 vwCl [(mo0, .inr (8, [nV mL, .ref mA1, nV mAt, .ref mA3, .ref mA4, .ref mA5, .ref mA6, .ref mA7, .ref mA8, .ref mA9, .ref mA10, .ref mA11, .ref mA12, nV kz, nV (dn - 1), .ref mA15, .ref mA16, .ref mA17, mV mAb, mV mBe, .ref mA20, zV mCl])), (mA10, cN g 3 mlv), (mA11, cN g 96 mlf), (mA15, cN g 48 mdi)] H := hP
  have hD : va_D A [(mo0, .inr (8, [nV mL, .ref mA1, nV mAt, .ref mA3, .ref mA4, .ref mA5, .ref mA6, .ref mA7, .ref mA8, .ref mA9, .ref mA10, .ref mA11, .ref mA12, nV kz, nV (dn - 1), .ref mA15, .ref mA16, .ref mA17, mV mAb, mV mBe, .ref mA20, zV mCl])), (mA10, cN g 3 mlv), (mA11, cN g 96 mlf), (mA15, cN g 48 mdi)] := hD
  refine lv_aload_n C.1 C.2.1 dX10_undo_20 rfl (lv_at hl 0 rfl) ?_
  refine r_get C hK hP kw_X10 (ci := 8) rfl 0 15 (by decide) kf_X10_44 rfl rfl dX10_undo_21 ?_
  refine r_bipush 6 C dX10_undo_24 (by decide) ?_
  refine lv_aload_n C.1 C.2.1 dX10_undo_26 rfl (lv_at hl 0 rfl) ?_
  refine r_get C hK hP kw_X10 (ci := 8) rfl 0 14 (by decide) kf_X10_98 rfl rfl dX10_undo_27 ?_
  refine r_mulN C dX10_undo_30 ?_
  refine r_aldN C hK hP 3 rfl ⟨by omega, by omega⟩ dX10_undo_31 ?_
  refine r_top (v' := nV 3) (by rw [hkd]) ?_
  refine lv_istore_n (lv' := [(1, nV 3), (0, .ref mo0)]) C.1 C.2.1 dX10_undo_32 rfl hl (by decide) rfl (fun ls hl => ?_)
  refine lv_aload_n C.1 C.2.1 dX10_undo_33 rfl (lv_at hl 1 rfl) ?_
  refine r_get C hK hP kw_X10 (ci := 8) rfl 0 15 (by decide) kf_X10_44 rfl rfl dX10_undo_34 ?_
  refine r_bipush 6 C dX10_undo_37 (by decide) ?_
  refine lv_aload_n C.1 C.2.1 dX10_undo_39 rfl (lv_at hl 1 rfl) ?_
  refine r_get C hK hP kw_X10 (ci := 8) rfl 0 14 (by decide) kf_X10_98 rfl rfl dX10_undo_40 ?_
  refine r_mulN C dX10_undo_43 ?_
  refine r_iconst 1 C dX10_undo_44 rfl ?_
  refine r_addN C dX10_undo_45 ?_
  refine r_aldN C hK hP 3 rfl ⟨by omega, by omega⟩ dX10_undo_46 ?_
  refine r_top (v' := nV ii) (by rw [hki]) ?_
  refine lv_istore_n (lv' := [(2, nV ii), (1, nV 3), (0, .ref mo0)]) C.1 C.2.1 dX10_undo_47 rfl hl (by decide) rfl (fun ls hl => ?_)
  refine lv_iload_n C.1 C.2.1 dX10_undo_48 rfl (lv_at hl 1 rfl) ?_
  refine r_ine 106 C dX10_undo_49 rfl (rgN (by decide)) (fun h_2 => ?_) (fun h_2 => ?_)
  rotate_left
  · exact absurd h_2 (by omega)
  refine lv_iload_n C.1 C.2.1 dX10_undo_106 rfl (lv_at hl 1 rfl) ?_
  refine r_iconst 1 C dX10_undo_107 rfl ?_
  refine r_cne 119 C dX10_undo_108 rfl ⟨rgN (by decide), rgN (by decide)⟩ (fun h_3 => ?_) (fun h_3 => ?_)
  rotate_left
  · exact absurd h_3 (by omega)
  refine lv_iload_n C.1 C.2.1 dX10_undo_119 rfl (lv_at hl 1 rfl) ?_
  refine r_iconst 2 C dX10_undo_120 rfl ?_
  refine r_cne 141 C dX10_undo_121 rfl ⟨rgN (by decide), rgN (by decide)⟩ (fun h_4 => ?_) (fun h_4 => ?_)
  rotate_left
  · exact absurd h_4 (by omega)
  refine r_iconst 4 C dX10_undo_141 rfl ?_
  refine lv_aload_n C.1 C.2.1 dX10_undo_142 rfl (lv_at hl 2 rfl) ?_
  refine r_get C hK hP kw_X10 (ci := 8) rfl 0 10 (by decide) kf_X10_35 rfl rfl dX10_undo_143 ?_
  refine r_iconst 0 C dX10_undo_146 rfl ?_
  refine r_aldN C hK hP 1 rfl ⟨by omega, by omega⟩ dX10_undo_147 ?_
  refine r_mulN C dX10_undo_148 ?_
  refine r_iconst 1 C dX10_undo_149 rfl ?_
  refine r_subZ C dX10_undo_150 ?_
  refine lv_istore_n (lv' := [(3, zV (((4 * (mlv 0) : Nat) : Int) - ((1 : Nat) : Int))), (2, nV ii), (1, nV 3), (0, .ref mo0)]) C.1 C.2.1 dX10_undo_151 rfl hl (by decide) rfl (fun ls hl => ?_)
  have L152 : ∀ (n_152 : Nat) (bb : Nat) (z : Int) (fA : Nat → Nat) (H : Heap) (locs : List Loc) (ls : Array Slot) (hb : 4 * ii ≤ bb ∧ bb ≤ 4 * mlv 0) (hz : z = (bb : Int) - 1) (hfA : fA = mdn mlf bb (4 * mlv 0)) (hm : bb < n_152) (hP : va_P g.1 vwCl [(mo0, .inr (8, [nV mL, .ref mA1, nV mAt, .ref mA3, .ref mA4, .ref mA5, .ref mA6, .ref mA7, .ref mA8, .ref mA9, .ref mA10, .ref mA11, .ref mA12, nV kz, nV (dn - 1), .ref mA15, .ref mA16, .ref mA17, mV mAb, mV mBe, .ref mA20, zV mCl])), (mA10, cN g 3 mlv), (mA11, cN g 96 fA), (mA15, cN g 48 mdi)] H) (hD : va_D A [(mo0, .inr (8, [nV mL, .ref mA1, nV mAt, .ref mA3, .ref mA4, .ref mA5, .ref mA6, .ref mA7, .ref mA8, .ref mA9, .ref mA10, .ref mA11, .ref mA12, nV kz, nV (dn - 1), .ref mA15, .ref mA16, .ref mA17, mV mAb, mV mBe, .ref mA20, zV mCl])), (mA10, cN g 3 mlv), (mA11, cN g 96 fA), (mA15, cN g 48 mdi)]) (hS : va_S A s.heap H locs) (hl : lv_has ls 4 [(3, zV z), (2, nV ii), (1, nV 3), (0, .ref mo0)]), W p l e (rD 3) s m args below meth c H locs 0 0 Q (F0 m 152 ls []) := by
    intro n_152
    induction n_152 with
    | zero => intro bb z fA H locs ls hb hz hfA hm hP hD hS hl; exact absurd hm (Nat.not_lt_zero _)
    | succ n_152 ih_152 =>
      intro bb z fA H locs ls hb hz hfA hm hP hD hS hl
      refine lv_iload_n C.1 C.2.1 dX10_undo_152 rfl (lv_at hl 0 rfl) ?_
      refine r_iconst 4 C dX10_undo_153 rfl ?_
      refine lv_iload_n C.1 C.2.1 dX10_undo_154 rfl (lv_at hl 1 rfl) ?_
      refine r_mulN C dX10_undo_155 ?_
      refine r_clt 179 C dX10_undo_156 rfl ⟨⟨by omega, by omega⟩, rgN (by omega)⟩ (fun h_5 => ?_) (fun h_5 => ?_)
      · skip
        obtain rfl : bb = 4 * ii := by omega
        refine r_iconst 0 C dX10_undo_179 rfl ?_
        refine lv_istore_n (lv' := [(3, nV 0), (2, nV ii), (1, nV 3), (0, .ref mo0)]) C.1 C.2.1 dX10_undo_180 rfl hl (by decide) rfl (fun ls hl => ?_)
        have L181 : ∀ (n_181 : Nat) (i : Nat) (fB : Nat → Nat) (H : Heap) (locs : List Loc) (ls : Array Slot) (hi : i ≤ 4) (hfB : fB = mip fA mdi (4 * ii) (6 * (dn - 1) + 2) i) (hm : 4 - i < n_181) (hP : va_P g.1 vwCl [(mo0, .inr (8, [nV mL, .ref mA1, nV mAt, .ref mA3, .ref mA4, .ref mA5, .ref mA6, .ref mA7, .ref mA8, .ref mA9, .ref mA10, .ref mA11, .ref mA12, nV kz, nV (dn - 1), .ref mA15, .ref mA16, .ref mA17, mV mAb, mV mBe, .ref mA20, zV mCl])), (mA10, cN g 3 mlv), (mA11, cN g 96 fB), (mA15, cN g 48 mdi)] H) (hD : va_D A [(mo0, .inr (8, [nV mL, .ref mA1, nV mAt, .ref mA3, .ref mA4, .ref mA5, .ref mA6, .ref mA7, .ref mA8, .ref mA9, .ref mA10, .ref mA11, .ref mA12, nV kz, nV (dn - 1), .ref mA15, .ref mA16, .ref mA17, mV mAb, mV mBe, .ref mA20, zV mCl])), (mA10, cN g 3 mlv), (mA11, cN g 96 fB), (mA15, cN g 48 mdi)]) (hS : va_S A s.heap H locs) (hl : lv_has ls 4 [(3, nV i), (2, nV ii), (1, nV 3), (0, .ref mo0)]), W p l e (rD 3) s m args below meth c H locs 0 0 Q (F0 m 181 ls []) := by
          intro n_181
          induction n_181 with
          | zero => intro i fB H locs ls hi hfB hm hP hD hS hl; exact absurd hm (Nat.not_lt_zero _)
          | succ n_181 ih_181 =>
            intro i fB H locs ls hi hfB hm hP hD hS hl
            refine lv_iload_n C.1 C.2.1 dX10_undo_181 rfl (lv_at hl 0 rfl) ?_
            refine r_iconst 4 C dX10_undo_182 rfl ?_
            refine r_cge 218 C dX10_undo_183 rfl ⟨rgN (by omega), rgN (by decide)⟩ (fun h_6 => ?_) (fun h_6 => ?_)
            · skip
              refine lv_aload_n C.1 C.2.1 dX10_undo_218 rfl (lv_at hl 3 rfl) ?_
              refine r_get C hK hP kw_X10 (ci := 8) rfl 0 10 (by decide) kf_X10_35 rfl rfl dX10_undo_219 ?_
              refine r_iconst 0 C dX10_undo_222 rfl ?_
              refine lv_dup2_11 C.1 C.2.1 dX10_undo_223 rfl rfl ?_
              refine r_aldN C hK hP 1 rfl ⟨by omega, by omega⟩ dX10_undo_224 ?_
              refine r_iconst 1 C dX10_undo_225 rfl ?_
              refine r_addN C dX10_undo_226 ?_
              refine r_astN C hK hP hD hS 1 rfl ⟨by omega, by omega⟩ dX10_undo_227 (fun H locs hP hD hS => ?_)
              have hP : va_P g.1 vwCl [(mo0, .inr (8, [nV mL, .ref mA1, nV mAt, .ref mA3, .ref mA4, .ref mA5, .ref mA6, .ref mA7, .ref mA8, .ref mA9, .ref mA10, .ref mA11, .ref mA12, nV kz, nV (dn - 1), .ref mA15, .ref mA16, .ref mA17, mV mAb, mV mBe, .ref mA20, zV mCl])), (mA10, cN g 3 (upN mlv 0 ((mlv 0) + 1))), (mA11, cN g 96 fB), (mA15, cN g 48 mdi)] H := hP
              have hD : va_D A [(mo0, .inr (8, [nV mL, .ref mA1, nV mAt, .ref mA3, .ref mA4, .ref mA5, .ref mA6, .ref mA7, .ref mA8, .ref mA9, .ref mA10, .ref mA11, .ref mA12, nV kz, nV (dn - 1), .ref mA15, .ref mA16, .ref mA17, mV mAb, mV mBe, .ref mA20, zV mCl])), (mA10, cN g 3 (upN mlv 0 ((mlv 0) + 1))), (mA11, cN g 96 fB), (mA15, cN g 48 mdi)] := hD
              refine lv_aload_n C.1 C.2.1 dX10_undo_228 rfl (lv_at hl 3 rfl) ?_
              refine r_get C hK hP kw_X10 (ci := 8) rfl 0 14 (by decide) kf_X10_98 rfl rfl dX10_undo_229 ?_
              exact ret (()) dX10_undo_232 hS (by rw [hfB, hfA, show i = 4 by omega] at hP; exact hP) (by first | rfl | exact iI_cast (by omega) | exact congrArg lI (by omega) | omega)
            refine lv_aload_n C.1 C.2.1 dX10_undo_186 rfl (lv_at hl 3 rfl) ?_
            refine r_get C hK hP kw_X10 (ci := 8) rfl 0 11 (by decide) kf_X10_38 rfl rfl dX10_undo_187 ?_
            refine r_iconst 4 C dX10_undo_190 rfl ?_
            refine lv_iload_n C.1 C.2.1 dX10_undo_191 rfl (lv_at hl 1 rfl) ?_
            refine r_mulN C dX10_undo_192 ?_
            refine lv_iload_n C.1 C.2.1 dX10_undo_193 rfl (lv_at hl 0 rfl) ?_
            refine r_addN C dX10_undo_194 ?_
            refine lv_aload_n C.1 C.2.1 dX10_undo_195 rfl (lv_at hl 3 rfl) ?_
            refine r_get C hK hP kw_X10 (ci := 8) rfl 0 15 (by decide) kf_X10_44 rfl rfl dX10_undo_196 ?_
            refine r_bipush 6 C dX10_undo_199 (by decide) ?_
            refine lv_aload_n C.1 C.2.1 dX10_undo_201 rfl (lv_at hl 3 rfl) ?_
            refine r_get C hK hP kw_X10 (ci := 8) rfl 0 14 (by decide) kf_X10_98 rfl rfl dX10_undo_202 ?_
            refine r_mulN C dX10_undo_205 ?_
            refine r_iconst 2 C dX10_undo_206 rfl ?_
            refine r_addN C dX10_undo_207 ?_
            refine lv_iload_n C.1 C.2.1 dX10_undo_208 rfl (lv_at hl 0 rfl) ?_
            refine r_addN C dX10_undo_209 ?_
            refine r_aldN C hK hP 3 rfl ⟨by omega, by omega⟩ dX10_undo_210 ?_
            refine r_astN C hK hP hD hS 2 rfl ⟨by omega, by omega⟩ dX10_undo_211 (fun H locs hP hD hS => ?_)
            have hP : va_P g.1 vwCl [(mo0, .inr (8, [nV mL, .ref mA1, nV mAt, .ref mA3, .ref mA4, .ref mA5, .ref mA6, .ref mA7, .ref mA8, .ref mA9, .ref mA10, .ref mA11, .ref mA12, nV kz, nV (dn - 1), .ref mA15, .ref mA16, .ref mA17, mV mAb, mV mBe, .ref mA20, zV mCl])), (mA10, cN g 3 mlv), (mA11, cN g 96 (upN fB ((4 * ii) + i) (mdi (((6 * (dn - 1)) + 2) + i)))), (mA15, cN g 48 mdi)] H := hP
            have hD : va_D A [(mo0, .inr (8, [nV mL, .ref mA1, nV mAt, .ref mA3, .ref mA4, .ref mA5, .ref mA6, .ref mA7, .ref mA8, .ref mA9, .ref mA10, .ref mA11, .ref mA12, nV kz, nV (dn - 1), .ref mA15, .ref mA16, .ref mA17, mV mAb, mV mBe, .ref mA20, zV mCl])), (mA10, cN g 3 mlv), (mA11, cN g 96 (upN fB ((4 * ii) + i) (mdi (((6 * (dn - 1)) + 2) + i)))), (mA15, cN g 48 mdi)] := hD
            refine r_incN (k := 0) (n := 1) [(3, nV (i + 1)), (2, nV ii), (1, nV 3), (0, .ref mo0)] C dX10_undo_212 hl rfl rfl (by decide) rfl (fun ls hl => ?_)
            refine r_goto 181 C dX10_undo_215 rfl ?_
            exact ih_181 (i + 1) (upN fB ((4 * ii) + i) (mdi (((6 * (dn - 1)) + 2) + i))) _ _ _ (by first | assumption | omega) (by rw [hfB]; exact mip_s) (by omega) hP hD hS (lv_sub hl [0, 1, 2, 3] rfl)
        exact L181 (4 - 0 + 1) 0 fA _ _ _ (by first | assumption | omega) (mip_0.symm) (Nat.lt_succ_self _) hP hD hS (lv_sub hl [0, 1, 2, 3] rfl)
      obtain ⟨zn, rfl⟩ : ∃ n : Nat, z = (n : Int) := ⟨z.toNat, by omega⟩
      have hl : lv_has ls 4 [(3, nV zn), (2, nV ii), (1, nV 3), (0, .ref mo0)] := hl
      refine lv_aload_n C.1 C.2.1 dX10_undo_159 rfl (lv_at hl 3 rfl) ?_
      refine r_get C hK hP kw_X10 (ci := 8) rfl 0 11 (by decide) kf_X10_38 rfl rfl dX10_undo_160 ?_
      refine lv_iload_n C.1 C.2.1 dX10_undo_163 rfl (lv_at hl 0 rfl) ?_
      refine r_iconst 4 C dX10_undo_164 rfl ?_
      refine r_addN C dX10_undo_165 ?_
      refine lv_aload_n C.1 C.2.1 dX10_undo_166 rfl (lv_at hl 3 rfl) ?_
      refine r_get C hK hP kw_X10 (ci := 8) rfl 0 11 (by decide) kf_X10_38 rfl rfl dX10_undo_167 ?_
      refine lv_iload_n C.1 C.2.1 dX10_undo_170 rfl (lv_at hl 0 rfl) ?_
      refine r_aldN C hK hP 2 rfl ⟨by omega, by omega⟩ dX10_undo_171 ?_
      refine r_astN C hK hP hD hS 2 rfl ⟨by omega, by omega⟩ dX10_undo_172 (fun H locs hP hD hS => ?_)
      have hP : va_P g.1 vwCl [(mo0, .inr (8, [nV mL, .ref mA1, nV mAt, .ref mA3, .ref mA4, .ref mA5, .ref mA6, .ref mA7, .ref mA8, .ref mA9, .ref mA10, .ref mA11, .ref mA12, nV kz, nV (dn - 1), .ref mA15, .ref mA16, .ref mA17, mV mAb, mV mBe, .ref mA20, zV mCl])), (mA10, cN g 3 mlv), (mA11, cN g 96 (upN fA (zn + 4) (fA zn))), (mA15, cN g 48 mdi)] H := hP
      have hD : va_D A [(mo0, .inr (8, [nV mL, .ref mA1, nV mAt, .ref mA3, .ref mA4, .ref mA5, .ref mA6, .ref mA7, .ref mA8, .ref mA9, .ref mA10, .ref mA11, .ref mA12, nV kz, nV (dn - 1), .ref mA15, .ref mA16, .ref mA17, mV mAb, mV mBe, .ref mA20, zV mCl])), (mA10, cN g 3 mlv), (mA11, cN g 96 (upN fA (zn + 4) (fA zn))), (mA15, cN g 48 mdi)] := hD
      refine r_incZ (k := 0) [(3, zV (((zn : Nat) : Int) + (-1))), (2, nV ii), (1, nV 3), (0, .ref mo0)] C dX10_undo_173 hl rfl (by decide) rfl (fun ls hl => ?_)
      refine r_goto 152 C dX10_undo_176 rfl ?_
      exact ih_152 zn (((zn : Nat) : Int) + (-1)) (upN fA (zn + 4) (fA zn)) _ _ _ (by first | assumption | omega) (by first | assumption | omega) (by rw [hfA, show bb = zn + 1 by omega]; exact mdn_s (by omega)) (by omega) hP hD hS (lv_sub hl [0, 1, 2, 3] rfl)
  exact L152 ((4 * mlv 0) + 1) (4 * mlv 0) (((4 * (mlv 0) : Nat) : Int) - ((1 : Nat) : Int)) mlf _ _ _ (by first | assumption | omega) (by first | assumption | omega) (mdn_0.symm) (Nat.lt_succ_self _) hP hD hS (lv_sub hl [0, 1, 2, 3] rfl)
set_option maxHeartbeats 4000000 in
set_option maxRecDepth 100000 in
theorem c_X10_undo_no (l : Launch) (g : GG) (mo0 : Nat) (mA1 : Nat) (mA3 : Nat) (mA4 : Nat) (mA5 : Nat) (mA6 : Nat) (mA7 : Nat) (mA8 : Nat) (mA9 : Nat) (mA10 : Nat) (mA11 : Nat) (mA12 : Nat) (mA15 : Nat) (mA16 : Nat) (mA17 : Nat) (mA20 : Nat) (mL : Nat) (mAt : Nat) (kz : Nat) (dn : Nat) (mAb : Nat) (mBe : Nat) (mCl : Int) (hz : dn = 0) : ROi g l yX10_undo cX10_undo 4 (some .int) 3 [(mo0, .inr (8, [nV mL, .ref mA1, nV mAt, .ref mA3, .ref mA4, .ref mA5, .ref mA6, .ref mA7, .ref mA8, .ref mA9, .ref mA10, .ref mA11, .ref mA12, nV kz, nV dn, .ref mA15, .ref mA16, .ref mA17, mV mAb, mV mBe, .ref mA20, zV mCl]))] [.ref mo0] (fun r => r = iI (-2)) := by
  refine ro_startI (by decide +kernel) (Nat.le_of_ble_eq_true rfl) ?_
  intro p e s m args below meth c Q ls C hK hP ret hl
  have C : CT p s m args meth c cX10_undo RX10 4 := C
  have hl : lv_has ls 4 [(0, .ref mo0)] := hl
  refine lv_aload_n C.1 C.2.1 dX10_undo_0 rfl (lv_at hl 0 rfl) ?_
  refine r_get C hK hP kw_X10 (ci := 8) rfl 0 14 (by decide) kf_X10_98 rfl rfl dX10_undo_1 ?_
  refine r_ine 10 C dX10_undo_4 rfl (rgN (by omega)) (fun h_1 => ?_) (fun h_1 => ?_)
  · exact absurd h_1 (by omega)
  refine r_bipushZ C dX10_undo_7 (by decide) ?_
  exact ret dX10_undo_9 (by first | rfl | exact iI_cast (by omega) | exact congrArg lI (by omega) | omega)
set_option maxHeartbeats 4000000 in
set_option maxRecDepth 100000 in
theorem c_X10_copies (l : Launch) (g : GG) (mo0 : Nat) (mA1 : Nat) (mA3 : Nat) (mA4 : Nat) (mA5 : Nat) (mA6 : Nat) (mA7 : Nat) (mA8 : Nat) (mA9 : Nat) (mA10 : Nat) (mA11 : Nat) (mA12 : Nat) (mA15 : Nat) (mA16 : Nat) (mA17 : Nat) (mA20 : Nat) (mL : Nat) (mAt : Nat) (kz : Nat) (dn : Nat) (mAb : Nat) (mBe : Nat) (mCl : Int) (mlv : Nat → Nat) (mlf : Nat → Nat) (mfl : Nat → Int) (xa : Nat) (xb : Nat) (hab : xa ≤ 2 ∧ xb ≤ 2 ∧ xa ≠ xb) : WRv g l yX10_copies cX10_copies 4 1 [(mo0, .inr (8, [nV mL, .ref mA1, nV mAt, .ref mA3, .ref mA4, .ref mA5, .ref mA6, .ref mA7, .ref mA8, .ref mA9, .ref mA10, .ref mA11, .ref mA12, nV kz, nV dn, .ref mA15, .ref mA16, .ref mA17, mV mAb, mV mBe, .ref mA20, zV mCl])), (mA10, cN g 3 mlv), (mA11, cN g 96 mlf), (mA12, cZ g 3 mfl)] [.ref mo0, nV xa, nV xb] (fun (_ : Unit) => True) (fun (_ : Unit) => [(mo0, .inr (8, [nV mL, .ref mA1, nV mAt, .ref mA3, .ref mA4, .ref mA5, .ref mA6, .ref mA7, .ref mA8, .ref mA9, .ref mA10, .ref mA11, .ref mA12, nV kz, nV dn, .ref mA15, .ref mA16, .ref mA17, mV mAb, mV mBe, .ref mA20, zV mCl])), (mA10, cN g 3 (upN mlv xb (mlv xa))), (mA11, cN g 96 (mip mlf mlf (32 * xb) (32 * xa) 32)), (mA12, cZ g 3 (upZ mfl xb (mfl xa)))]) := by
  refine wr_startV (by decide +kernel) (Nat.le_of_ble_eq_true rfl) ?_
  intro p e s m args below meth c Q A ls C hK hA ret hP hD hS hl
  have C : CT p s m args meth c cX10_copies RX10 4 := C
  have hl : lv_has ls 4 [(0, .ref mo0), (1, nV xa), (2, nV xb)] := hl
  refine lv_aload_n C.1 C.2.1 dX10_copies_0 rfl (lv_at hl 0 rfl) ?_
  refine r_get C hK hP kw_X10 (ci := 8) rfl 0 10 (by decide) kf_X10_35 rfl rfl dX10_copies_1 ?_
  refine lv_iload_n C.1 C.2.1 dX10_copies_4 rfl (lv_at hl 2 rfl) ?_
  refine lv_aload_n C.1 C.2.1 dX10_copies_5 rfl (lv_at hl 0 rfl) ?_
  refine r_get C hK hP kw_X10 (ci := 8) rfl 0 10 (by decide) kf_X10_35 rfl rfl dX10_copies_6 ?_
  refine lv_iload_n C.1 C.2.1 dX10_copies_9 rfl (lv_at hl 1 rfl) ?_
  refine r_aldN C hK hP 1 rfl ⟨by omega, by omega⟩ dX10_copies_10 ?_
  refine r_astN C hK hP hD hS 1 rfl ⟨by omega, by omega⟩ dX10_copies_11 (fun H locs hP hD hS => ?_)
  have hP : va_P g.1 vwCl [(mo0, .inr (8, [nV mL, .ref mA1, nV mAt, .ref mA3, .ref mA4, .ref mA5, .ref mA6, .ref mA7, .ref mA8, .ref mA9, .ref mA10, .ref mA11, .ref mA12, nV kz, nV dn, .ref mA15, .ref mA16, .ref mA17, mV mAb, mV mBe, .ref mA20, zV mCl])), (mA10, cN g 3 (upN mlv xb (mlv xa))), (mA11, cN g 96 mlf), (mA12, cZ g 3 mfl)] H := hP
  have hD : va_D A [(mo0, .inr (8, [nV mL, .ref mA1, nV mAt, .ref mA3, .ref mA4, .ref mA5, .ref mA6, .ref mA7, .ref mA8, .ref mA9, .ref mA10, .ref mA11, .ref mA12, nV kz, nV dn, .ref mA15, .ref mA16, .ref mA17, mV mAb, mV mBe, .ref mA20, zV mCl])), (mA10, cN g 3 (upN mlv xb (mlv xa))), (mA11, cN g 96 mlf), (mA12, cZ g 3 mfl)] := hD
  refine lv_aload_n C.1 C.2.1 dX10_copies_12 rfl (lv_at hl 0 rfl) ?_
  refine r_get C hK hP kw_X10 (ci := 8) rfl 0 12 (by decide) kf_X10_41 rfl rfl dX10_copies_13 ?_
  refine lv_iload_n C.1 C.2.1 dX10_copies_16 rfl (lv_at hl 2 rfl) ?_
  refine lv_aload_n C.1 C.2.1 dX10_copies_17 rfl (lv_at hl 0 rfl) ?_
  refine r_get C hK hP kw_X10 (ci := 8) rfl 0 12 (by decide) kf_X10_41 rfl rfl dX10_copies_18 ?_
  refine lv_iload_n C.1 C.2.1 dX10_copies_21 rfl (lv_at hl 1 rfl) ?_
  refine r_aldZ C hK hP 3 rfl ⟨by omega, by omega⟩ dX10_copies_22 ?_
  refine r_astZ C hK hP hD hS 3 rfl ⟨by omega, by omega⟩ dX10_copies_23 (fun H locs hP hD hS => ?_)
  have hP : va_P g.1 vwCl [(mo0, .inr (8, [nV mL, .ref mA1, nV mAt, .ref mA3, .ref mA4, .ref mA5, .ref mA6, .ref mA7, .ref mA8, .ref mA9, .ref mA10, .ref mA11, .ref mA12, nV kz, nV dn, .ref mA15, .ref mA16, .ref mA17, mV mAb, mV mBe, .ref mA20, zV mCl])), (mA10, cN g 3 (upN mlv xb (mlv xa))), (mA11, cN g 96 mlf), (mA12, cZ g 3 (upZ mfl xb (mfl xa)))] H := hP
  have hD : va_D A [(mo0, .inr (8, [nV mL, .ref mA1, nV mAt, .ref mA3, .ref mA4, .ref mA5, .ref mA6, .ref mA7, .ref mA8, .ref mA9, .ref mA10, .ref mA11, .ref mA12, nV kz, nV dn, .ref mA15, .ref mA16, .ref mA17, mV mAb, mV mBe, .ref mA20, zV mCl])), (mA10, cN g 3 (upN mlv xb (mlv xa))), (mA11, cN g 96 mlf), (mA12, cZ g 3 (upZ mfl xb (mfl xa)))] := hD
  refine r_iconst 0 C dX10_copies_24 rfl ?_
  refine lv_istore_n (lv' := [(3, nV 0), (0, .ref mo0), (1, nV xa), (2, nV xb)]) C.1 C.2.1 dX10_copies_25 rfl hl (by decide) rfl (fun ls hl => ?_)
  have L26 : ∀ (n_26 : Nat) (i : Nat) (fA : Nat → Nat) (H : Heap) (locs : List Loc) (ls : Array Slot) (hi : i ≤ 32) (hfA : fA = mip mlf mlf (32 * xb) (32 * xa) i) (hm : 32 - i < n_26) (hP : va_P g.1 vwCl [(mo0, .inr (8, [nV mL, .ref mA1, nV mAt, .ref mA3, .ref mA4, .ref mA5, .ref mA6, .ref mA7, .ref mA8, .ref mA9, .ref mA10, .ref mA11, .ref mA12, nV kz, nV dn, .ref mA15, .ref mA16, .ref mA17, mV mAb, mV mBe, .ref mA20, zV mCl])), (mA10, cN g 3 (upN mlv xb (mlv xa))), (mA11, cN g 96 fA), (mA12, cZ g 3 (upZ mfl xb (mfl xa)))] H) (hD : va_D A [(mo0, .inr (8, [nV mL, .ref mA1, nV mAt, .ref mA3, .ref mA4, .ref mA5, .ref mA6, .ref mA7, .ref mA8, .ref mA9, .ref mA10, .ref mA11, .ref mA12, nV kz, nV dn, .ref mA15, .ref mA16, .ref mA17, mV mAb, mV mBe, .ref mA20, zV mCl])), (mA10, cN g 3 (upN mlv xb (mlv xa))), (mA11, cN g 96 fA), (mA12, cZ g 3 (upZ mfl xb (mfl xa)))]) (hS : va_S A s.heap H locs) (hl : lv_has ls 4 [(3, nV i), (0, .ref mo0), (1, nV xa), (2, nV xb)]), W p l e (rD 1) s m args below meth c H locs 0 0 Q (F0 m 26 ls []) := by
    intro n_26
    induction n_26 with
    | zero => intro i fA H locs ls hi hfA hm hP hD hS hl; exact absurd hm (Nat.not_lt_zero _)
    | succ n_26 ih_26 =>
      intro i fA H locs ls hi hfA hm hP hD hS hl
      refine lv_iload_n C.1 C.2.1 dX10_copies_26 rfl (lv_at hl 0 rfl) ?_
      refine r_bipush 32 C dX10_copies_27 (by decide) ?_
      refine r_cge 60 C dX10_copies_29 rfl ⟨rgN (by omega), rgN (by decide)⟩ (fun h_1 => ?_) (fun h_1 => ?_)
      · skip
        exact ret (()) dX10_copies_60 hS (by rw [hfA, show i = 32 by omega] at hP; exact hP) (trivial)
      refine lv_aload_n C.1 C.2.1 dX10_copies_32 rfl (lv_at hl 1 rfl) ?_
      refine r_get C hK hP kw_X10 (ci := 8) rfl 0 11 (by decide) kf_X10_38 rfl rfl dX10_copies_33 ?_
      refine r_bipush 32 C dX10_copies_36 (by decide) ?_
      refine lv_iload_n C.1 C.2.1 dX10_copies_38 rfl (lv_at hl 3 rfl) ?_
      refine r_mulN C dX10_copies_39 ?_
      refine lv_iload_n C.1 C.2.1 dX10_copies_40 rfl (lv_at hl 0 rfl) ?_
      refine r_addN C dX10_copies_41 ?_
      refine lv_aload_n C.1 C.2.1 dX10_copies_42 rfl (lv_at hl 1 rfl) ?_
      refine r_get C hK hP kw_X10 (ci := 8) rfl 0 11 (by decide) kf_X10_38 rfl rfl dX10_copies_43 ?_
      refine r_bipush 32 C dX10_copies_46 (by decide) ?_
      refine lv_iload_n C.1 C.2.1 dX10_copies_48 rfl (lv_at hl 2 rfl) ?_
      refine r_mulN C dX10_copies_49 ?_
      refine lv_iload_n C.1 C.2.1 dX10_copies_50 rfl (lv_at hl 0 rfl) ?_
      refine r_addN C dX10_copies_51 ?_
      refine r_aldN C hK hP 2 rfl ⟨by omega, by omega⟩ dX10_copies_52 ?_
      refine r_astN C hK hP hD hS 2 rfl ⟨by omega, by omega⟩ dX10_copies_53 (fun H locs hP hD hS => ?_)
      have hP : va_P g.1 vwCl [(mo0, .inr (8, [nV mL, .ref mA1, nV mAt, .ref mA3, .ref mA4, .ref mA5, .ref mA6, .ref mA7, .ref mA8, .ref mA9, .ref mA10, .ref mA11, .ref mA12, nV kz, nV dn, .ref mA15, .ref mA16, .ref mA17, mV mAb, mV mBe, .ref mA20, zV mCl])), (mA10, cN g 3 (upN mlv xb (mlv xa))), (mA11, cN g 96 (upN fA ((32 * xb) + i) (fA ((32 * xa) + i)))), (mA12, cZ g 3 (upZ mfl xb (mfl xa)))] H := hP
      have hD : va_D A [(mo0, .inr (8, [nV mL, .ref mA1, nV mAt, .ref mA3, .ref mA4, .ref mA5, .ref mA6, .ref mA7, .ref mA8, .ref mA9, .ref mA10, .ref mA11, .ref mA12, nV kz, nV dn, .ref mA15, .ref mA16, .ref mA17, mV mAb, mV mBe, .ref mA20, zV mCl])), (mA10, cN g 3 (upN mlv xb (mlv xa))), (mA11, cN g 96 (upN fA ((32 * xb) + i) (fA ((32 * xa) + i)))), (mA12, cZ g 3 (upZ mfl xb (mfl xa)))] := hD
      refine r_incN (k := 0) (n := 1) [(3, nV (i + 1)), (0, .ref mo0), (1, nV xa), (2, nV xb)] C dX10_copies_54 hl rfl rfl (by decide) rfl (fun ls hl => ?_)
      refine r_goto 26 C dX10_copies_57 rfl ?_
      exact ih_26 (i + 1) (upN fA ((32 * xb) + i) (fA ((32 * xa) + i))) _ _ _ (by first | assumption | omega) (by rw [hfA, mip_n (by omega)]; exact mip_s) (by omega) hP hD hS (lv_sub hl [0, 1, 2, 3] rfl)
  exact L26 (32 - 0 + 1) 0 mlf _ _ _ (by first | assumption | omega) (mip_0.symm) (Nat.lt_succ_self _) hP hD hS (lv_sub hl [0, 1, 2, 3] rfl)
set_option maxHeartbeats 4000000 in
set_option maxRecDepth 100000 in
theorem c_X10_keep_ok (l : Launch) (g : GG) (mo0 : Nat) (mA1 : Nat) (mA3 : Nat) (mA4 : Nat) (mA5 : Nat) (mA6 : Nat) (mA7 : Nat) (mA8 : Nat) (mA9 : Nat) (mA10 : Nat) (mA11 : Nat) (mA12 : Nat) (mA15 : Nat) (mA16 : Nat) (mA17 : Nat) (mA20 : Nat) (mL : Nat) (mAt : Nat) (kz : Nat) (dn : Nat) (mAb : Nat) (mBe : Nat) (mCl : Int) (mlv : Nat → Nat) (mlf : Nat → Nat) (mfl : Nat → Int) (hz : kz < 2) : WRi g l yX10_keep cX10_keep 1 (some .int) 3 [(mo0, .inr (8, [nV mL, .ref mA1, nV mAt, .ref mA3, .ref mA4, .ref mA5, .ref mA6, .ref mA7, .ref mA8, .ref mA9, .ref mA10, .ref mA11, .ref mA12, nV kz, nV dn, .ref mA15, .ref mA16, .ref mA17, mV mAb, mV mBe, .ref mA20, zV mCl])), (mA10, cN g 3 mlv), (mA11, cN g 96 mlf), (mA12, cZ g 3 mfl)] [.ref mo0] (fun r (_ : Unit) => r = iI ((kz + 1 : Nat) : Int)) (fun (_ : Unit) => [(mo0, .inr (8, [nV mL, .ref mA1, nV mAt, .ref mA3, .ref mA4, .ref mA5, .ref mA6, .ref mA7, .ref mA8, .ref mA9, .ref mA10, .ref mA11, .ref mA12, nV (kz + 1), nV dn, .ref mA15, .ref mA16, .ref mA17, mV mAb, mV mBe, .ref mA20, zV mCl])), (mA10, cN g 3 (upN mlv (kz + 1) (mlv 0))), (mA11, cN g 96 (mip mlf mlf (32 * (kz + 1)) (32 * 0) 32)), (mA12, cZ g 3 (upZ mfl (kz + 1) (mfl 0)))]) := by
  refine wr_startI (by decide +kernel) (Nat.le_of_ble_eq_true rfl) ?_
  intro p e s m args below meth c Q A ls C hK hA ret hP hD hS hl
  have C : CT p s m args meth c cX10_keep RX10 1 := C
  have hl : lv_has ls 1 [(0, .ref mo0)] := hl
  refine lv_aload_n C.1 C.2.1 dX10_keep_0 rfl (lv_at hl 0 rfl) ?_
  refine r_get C hK hP kw_X10 (ci := 8) rfl 0 13 (by decide) kf_X10_101 rfl rfl dX10_keep_1 ?_
  refine r_iconst 2 C dX10_keep_4 rfl ?_
  refine r_cne 11 C dX10_keep_5 rfl ⟨rgN (by omega), rgN (by decide)⟩ (fun h_1 => ?_) (fun h_1 => ?_)
  rotate_left
  · exact absurd h_1 (by omega)
  refine lv_aload_n C.1 C.2.1 dX10_keep_11 rfl (lv_at hl 0 rfl) ?_
  refine lv_dup C.1 C.2.1 dX10_keep_12 rfl ?_
  refine r_get C hK hP kw_X10 (ci := 8) rfl 0 13 (by decide) kf_X10_101 rfl rfl dX10_keep_13 ?_
  refine r_iconst 1 C dX10_keep_16 rfl ?_
  refine r_addN C dX10_keep_17 ?_
  refine r_put (v := nV (kz + 1)) C hK hP hD hS kw_X10 tyX10_ok nmX10 (ci := 8) rfl 0 13 (by decide) kf_X10_101 rfl rfl rfl rfl rfl (Nat.le_of_ble_eq_true rfl) dX10_keep_18 (fun H locs hP hD hS => ?_)
  have hP : va_P g.1 vwCl [(mo0, .inr (8, [nV mL, .ref mA1, nV mAt, .ref mA3, .ref mA4, .ref mA5, .ref mA6, .ref mA7, .ref mA8, .ref mA9, .ref mA10, .ref mA11, .ref mA12, nV (kz + 1), nV dn, .ref mA15, .ref mA16, .ref mA17, mV mAb, mV mBe, .ref mA20, zV mCl])), (mA10, cN g 3 mlv), (mA11, cN g 96 mlf), (mA12, cZ g 3 mfl)] H := hP
  have hD : va_D A [(mo0, .inr (8, [nV mL, .ref mA1, nV mAt, .ref mA3, .ref mA4, .ref mA5, .ref mA6, .ref mA7, .ref mA8, .ref mA9, .ref mA10, .ref mA11, .ref mA12, nV (kz + 1), nV dn, .ref mA15, .ref mA16, .ref mA17, mV mAb, mV mBe, .ref mA20, zV mCl])), (mA10, cN g 3 mlv), (mA11, cN g 96 mlf), (mA12, cZ g 3 mfl)] := hD
  refine lv_aload_n C.1 C.2.1 dX10_keep_21 rfl (lv_at hl 0 rfl) ?_
  refine r_iconst 0 C dX10_keep_22 rfl ?_
  refine lv_aload_n C.1 C.2.1 dX10_keep_23 rfl (lv_at hl 0 rfl) ?_
  refine r_get C hK hP kw_X10 (ci := 8) rfl 0 13 (by decide) kf_X10_101 rfl rfl dX10_keep_24 ?_
  refine wr_callVV (As := [nV 0, nV (kz + 1)]) (rest := []) C hK (c_X10_copies l g mo0 mA1 mA3 mA4 mA5 mA6 mA7 mA8 mA9 mA10 mA11 mA12 mA15 mA16 mA17 mA20 mL mAt (kz + 1) dn mAb mBe mCl mlv mlf mfl 0 (kz + 1) (by first | assumption | omega)) [0, 1, 2, 3] rfl (fun _ => rfl) (by decide) hP hD hS hA (ci := 8) (q0 := 0) rfl rfl kc_X10_copies kl_X10_227 kn_X10 ki_X10_copies ke_X10_copies nk_X10_copies (rm_lt (by decide) (by decide)) hl rfl (Nat.le_of_ble_eq_true rfl) dX10_keep_27 (fun u_4 H locs hr_3 hP hD hS => ?_)
  have hP : va_P g.1 vwCl [(mo0, .inr (8, [nV mL, .ref mA1, nV mAt, .ref mA3, .ref mA4, .ref mA5, .ref mA6, .ref mA7, .ref mA8, .ref mA9, .ref mA10, .ref mA11, .ref mA12, nV (kz + 1), nV dn, .ref mA15, .ref mA16, .ref mA17, mV mAb, mV mBe, .ref mA20, zV mCl])), (mA10, cN g 3 (upN mlv (kz + 1) (mlv 0))), (mA11, cN g 96 (mip mlf mlf (32 * (kz + 1)) (32 * 0) 32)), (mA12, cZ g 3 (upZ mfl (kz + 1) (mfl 0)))] H := hP
  have hD : va_D A [(mo0, .inr (8, [nV mL, .ref mA1, nV mAt, .ref mA3, .ref mA4, .ref mA5, .ref mA6, .ref mA7, .ref mA8, .ref mA9, .ref mA10, .ref mA11, .ref mA12, nV (kz + 1), nV dn, .ref mA15, .ref mA16, .ref mA17, mV mAb, mV mBe, .ref mA20, zV mCl])), (mA10, cN g 3 (upN mlv (kz + 1) (mlv 0))), (mA11, cN g 96 (mip mlf mlf (32 * (kz + 1)) (32 * 0) 32)), (mA12, cZ g 3 (upZ mfl (kz + 1) (mfl 0)))] := hD
  refine lv_aload_n C.1 C.2.1 dX10_keep_30 rfl (lv_at hl 0 rfl) ?_
  refine r_get C hK hP kw_X10 (ci := 8) rfl 0 13 (by decide) kf_X10_101 rfl rfl dX10_keep_31 ?_
  exact ret (()) dX10_keep_34 hS hP (by first | rfl | exact iI_cast (by omega) | exact congrArg lI (by omega) | omega)
set_option maxHeartbeats 4000000 in
set_option maxRecDepth 100000 in
theorem c_X10_keep_no (l : Launch) (g : GG) (mo0 : Nat) (mA1 : Nat) (mA3 : Nat) (mA4 : Nat) (mA5 : Nat) (mA6 : Nat) (mA7 : Nat) (mA8 : Nat) (mA9 : Nat) (mA10 : Nat) (mA11 : Nat) (mA12 : Nat) (mA15 : Nat) (mA16 : Nat) (mA17 : Nat) (mA20 : Nat) (mL : Nat) (mAt : Nat) (kz : Nat) (dn : Nat) (mAb : Nat) (mBe : Nat) (mCl : Int) (hz : kz = 2) : ROi g l yX10_keep cX10_keep 1 (some .int) 3 [(mo0, .inr (8, [nV mL, .ref mA1, nV mAt, .ref mA3, .ref mA4, .ref mA5, .ref mA6, .ref mA7, .ref mA8, .ref mA9, .ref mA10, .ref mA11, .ref mA12, nV kz, nV dn, .ref mA15, .ref mA16, .ref mA17, mV mAb, mV mBe, .ref mA20, zV mCl]))] [.ref mo0] (fun r => r = iI (-3)) := by
  refine ro_startI (by decide +kernel) (Nat.le_of_ble_eq_true rfl) ?_
  intro p e s m args below meth c Q ls C hK hP ret hl
  have C : CT p s m args meth c cX10_keep RX10 1 := C
  have hl : lv_has ls 1 [(0, .ref mo0)] := hl
  refine lv_aload_n C.1 C.2.1 dX10_keep_0 rfl (lv_at hl 0 rfl) ?_
  refine r_get C hK hP kw_X10 (ci := 8) rfl 0 13 (by decide) kf_X10_101 rfl rfl dX10_keep_1 ?_
  refine r_iconst 2 C dX10_keep_4 rfl ?_
  refine r_cne 11 C dX10_keep_5 rfl ⟨rgN (by omega), rgN (by decide)⟩ (fun h_1 => ?_) (fun h_1 => ?_)
  · exact absurd h_1 (by omega)
  refine r_bipushZ C dX10_keep_8 (by decide) ?_
  exact ret dX10_keep_10 (by first | rfl | exact iI_cast (by omega) | exact congrArg lI (by omega) | omega)
set_option maxHeartbeats 4000000 in
set_option maxRecDepth 100000 in
theorem c_X10_back_ok (l : Launch) (g : GG) (mo0 : Nat) (mA1 : Nat) (mA3 : Nat) (mA4 : Nat) (mA5 : Nat) (mA6 : Nat) (mA7 : Nat) (mA8 : Nat) (mA9 : Nat) (mA10 : Nat) (mA11 : Nat) (mA12 : Nat) (mA15 : Nat) (mA16 : Nat) (mA17 : Nat) (mA20 : Nat) (mL : Nat) (mAt : Nat) (kz : Nat) (dn : Nat) (mAb : Nat) (mBe : Nat) (mCl : Int) (mlv : Nat → Nat) (mlf : Nat → Nat) (mfl : Nat → Int) (hz : 1 ≤ kz ∧ kz ≤ 2) : WRi g l yX10_back cX10_back 1 (some .int) 3 [(mo0, .inr (8, [nV mL, .ref mA1, nV mAt, .ref mA3, .ref mA4, .ref mA5, .ref mA6, .ref mA7, .ref mA8, .ref mA9, .ref mA10, .ref mA11, .ref mA12, nV kz, nV dn, .ref mA15, .ref mA16, .ref mA17, mV mAb, mV mBe, .ref mA20, zV mCl])), (mA10, cN g 3 mlv), (mA11, cN g 96 mlf), (mA12, cZ g 3 mfl)] [.ref mo0] (fun r (_ : Unit) => r = iI ((kz - 1 : Nat) : Int)) (fun (_ : Unit) => [(mo0, .inr (8, [nV mL, .ref mA1, nV mAt, .ref mA3, .ref mA4, .ref mA5, .ref mA6, .ref mA7, .ref mA8, .ref mA9, .ref mA10, .ref mA11, .ref mA12, nV (kz - 1), nV 0, .ref mA15, .ref mA16, .ref mA17, mV mAb, mV mBe, .ref mA20, zV mCl])), (mA10, cN g 3 (upN mlv 0 (mlv kz))), (mA11, cN g 96 (mip mlf mlf (32 * 0) (32 * kz) 32)), (mA12, cZ g 3 (upZ mfl 0 (mfl kz)))]) := by
  refine wr_startI (by decide +kernel) (Nat.le_of_ble_eq_true rfl) ?_
  intro p e s m args below meth c Q A ls C hK hA ret hP hD hS hl
  have C : CT p s m args meth c cX10_back RX10 1 := C
  have hl : lv_has ls 1 [(0, .ref mo0)] := hl
  refine lv_aload_n C.1 C.2.1 dX10_back_0 rfl (lv_at hl 0 rfl) ?_
  refine r_get C hK hP kw_X10 (ci := 8) rfl 0 13 (by decide) kf_X10_101 rfl rfl dX10_back_1 ?_
  refine r_ine 10 C dX10_back_4 rfl (rgN (by omega)) (fun h_1 => ?_) (fun h_1 => ?_)
  rotate_left
  · exact absurd h_1 (by omega)
  refine lv_aload_n C.1 C.2.1 dX10_back_10 rfl (lv_at hl 0 rfl) ?_
  refine lv_aload_n C.1 C.2.1 dX10_back_11 rfl (lv_at hl 0 rfl) ?_
  refine r_get C hK hP kw_X10 (ci := 8) rfl 0 13 (by decide) kf_X10_101 rfl rfl dX10_back_12 ?_
  refine r_iconst 0 C dX10_back_15 rfl ?_
  refine wr_callVV (As := [nV kz, nV 0]) (rest := []) C hK (c_X10_copies l g mo0 mA1 mA3 mA4 mA5 mA6 mA7 mA8 mA9 mA10 mA11 mA12 mA15 mA16 mA17 mA20 mL mAt kz dn mAb mBe mCl mlv mlf mfl kz 0 (by first | assumption | omega)) [0, 1, 2, 3] rfl (fun _ => rfl) (by decide) hP hD hS hA (ci := 8) (q0 := 0) rfl rfl kc_X10_copies kl_X10_227 kn_X10 ki_X10_copies ke_X10_copies nk_X10_copies (rm_lt (by decide) (by decide)) hl rfl (Nat.le_of_ble_eq_true rfl) dX10_back_16 (fun u_4 H locs hr_3 hP hD hS => ?_)
  have hP : va_P g.1 vwCl [(mo0, .inr (8, [nV mL, .ref mA1, nV mAt, .ref mA3, .ref mA4, .ref mA5, .ref mA6, .ref mA7, .ref mA8, .ref mA9, .ref mA10, .ref mA11, .ref mA12, nV kz, nV dn, .ref mA15, .ref mA16, .ref mA17, mV mAb, mV mBe, .ref mA20, zV mCl])), (mA10, cN g 3 (upN mlv 0 (mlv kz))), (mA11, cN g 96 (mip mlf mlf (32 * 0) (32 * kz) 32)), (mA12, cZ g 3 (upZ mfl 0 (mfl kz)))] H := hP
  have hD : va_D A [(mo0, .inr (8, [nV mL, .ref mA1, nV mAt, .ref mA3, .ref mA4, .ref mA5, .ref mA6, .ref mA7, .ref mA8, .ref mA9, .ref mA10, .ref mA11, .ref mA12, nV kz, nV dn, .ref mA15, .ref mA16, .ref mA17, mV mAb, mV mBe, .ref mA20, zV mCl])), (mA10, cN g 3 (upN mlv 0 (mlv kz))), (mA11, cN g 96 (mip mlf mlf (32 * 0) (32 * kz) 32)), (mA12, cZ g 3 (upZ mfl 0 (mfl kz)))] := hD
  refine lv_aload_n C.1 C.2.1 dX10_back_19 rfl (lv_at hl 0 rfl) ?_
  refine lv_dup C.1 C.2.1 dX10_back_20 rfl ?_
  refine r_get C hK hP kw_X10 (ci := 8) rfl 0 13 (by decide) kf_X10_101 rfl rfl dX10_back_21 ?_
  refine r_iconst 1 C dX10_back_24 rfl ?_
  refine r_subN C dX10_back_25 (by omega) ?_
  refine r_put (v := nV (kz - 1)) C hK hP hD hS kw_X10 tyX10_ok nmX10 (ci := 8) rfl 0 13 (by decide) kf_X10_101 rfl rfl rfl rfl rfl (Nat.le_of_ble_eq_true rfl) dX10_back_26 (fun H locs hP hD hS => ?_)
  have hP : va_P g.1 vwCl [(mo0, .inr (8, [nV mL, .ref mA1, nV mAt, .ref mA3, .ref mA4, .ref mA5, .ref mA6, .ref mA7, .ref mA8, .ref mA9, .ref mA10, .ref mA11, .ref mA12, nV (kz - 1), nV dn, .ref mA15, .ref mA16, .ref mA17, mV mAb, mV mBe, .ref mA20, zV mCl])), (mA10, cN g 3 (upN mlv 0 (mlv kz))), (mA11, cN g 96 (mip mlf mlf (32 * 0) (32 * kz) 32)), (mA12, cZ g 3 (upZ mfl 0 (mfl kz)))] H := hP
  have hD : va_D A [(mo0, .inr (8, [nV mL, .ref mA1, nV mAt, .ref mA3, .ref mA4, .ref mA5, .ref mA6, .ref mA7, .ref mA8, .ref mA9, .ref mA10, .ref mA11, .ref mA12, nV (kz - 1), nV dn, .ref mA15, .ref mA16, .ref mA17, mV mAb, mV mBe, .ref mA20, zV mCl])), (mA10, cN g 3 (upN mlv 0 (mlv kz))), (mA11, cN g 96 (mip mlf mlf (32 * 0) (32 * kz) 32)), (mA12, cZ g 3 (upZ mfl 0 (mfl kz)))] := hD
  refine lv_aload_n C.1 C.2.1 dX10_back_29 rfl (lv_at hl 0 rfl) ?_
  refine r_iconst 0 C dX10_back_30 rfl ?_
  refine r_put (v := nV 0) C hK hP hD hS kw_X10 tyX10_ok nmX10 (ci := 8) rfl 0 14 (by decide) kf_X10_98 rfl rfl rfl rfl rfl (Nat.le_of_ble_eq_true rfl) dX10_back_31 (fun H locs hP hD hS => ?_)
  have hP : va_P g.1 vwCl [(mo0, .inr (8, [nV mL, .ref mA1, nV mAt, .ref mA3, .ref mA4, .ref mA5, .ref mA6, .ref mA7, .ref mA8, .ref mA9, .ref mA10, .ref mA11, .ref mA12, nV (kz - 1), nV 0, .ref mA15, .ref mA16, .ref mA17, mV mAb, mV mBe, .ref mA20, zV mCl])), (mA10, cN g 3 (upN mlv 0 (mlv kz))), (mA11, cN g 96 (mip mlf mlf (32 * 0) (32 * kz) 32)), (mA12, cZ g 3 (upZ mfl 0 (mfl kz)))] H := hP
  have hD : va_D A [(mo0, .inr (8, [nV mL, .ref mA1, nV mAt, .ref mA3, .ref mA4, .ref mA5, .ref mA6, .ref mA7, .ref mA8, .ref mA9, .ref mA10, .ref mA11, .ref mA12, nV (kz - 1), nV 0, .ref mA15, .ref mA16, .ref mA17, mV mAb, mV mBe, .ref mA20, zV mCl])), (mA10, cN g 3 (upN mlv 0 (mlv kz))), (mA11, cN g 96 (mip mlf mlf (32 * 0) (32 * kz) 32)), (mA12, cZ g 3 (upZ mfl 0 (mfl kz)))] := hD
  refine lv_aload_n C.1 C.2.1 dX10_back_34 rfl (lv_at hl 0 rfl) ?_
  refine r_get C hK hP kw_X10 (ci := 8) rfl 0 13 (by decide) kf_X10_101 rfl rfl dX10_back_35 ?_
  exact ret (()) dX10_back_38 hS hP (by first | rfl | exact iI_cast (by omega) | exact congrArg lI (by omega) | omega)
set_option maxHeartbeats 4000000 in
set_option maxRecDepth 100000 in
theorem c_X10_back_no (l : Launch) (g : GG) (mo0 : Nat) (mA1 : Nat) (mA3 : Nat) (mA4 : Nat) (mA5 : Nat) (mA6 : Nat) (mA7 : Nat) (mA8 : Nat) (mA9 : Nat) (mA10 : Nat) (mA11 : Nat) (mA12 : Nat) (mA15 : Nat) (mA16 : Nat) (mA17 : Nat) (mA20 : Nat) (mL : Nat) (mAt : Nat) (kz : Nat) (dn : Nat) (mAb : Nat) (mBe : Nat) (mCl : Int) (hz : kz = 0) : ROi g l yX10_back cX10_back 1 (some .int) 3 [(mo0, .inr (8, [nV mL, .ref mA1, nV mAt, .ref mA3, .ref mA4, .ref mA5, .ref mA6, .ref mA7, .ref mA8, .ref mA9, .ref mA10, .ref mA11, .ref mA12, nV kz, nV dn, .ref mA15, .ref mA16, .ref mA17, mV mAb, mV mBe, .ref mA20, zV mCl]))] [.ref mo0] (fun r => r = iI (-2)) := by
  refine ro_startI (by decide +kernel) (Nat.le_of_ble_eq_true rfl) ?_
  intro p e s m args below meth c Q ls C hK hP ret hl
  have C : CT p s m args meth c cX10_back RX10 1 := C
  have hl : lv_has ls 1 [(0, .ref mo0)] := hl
  refine lv_aload_n C.1 C.2.1 dX10_back_0 rfl (lv_at hl 0 rfl) ?_
  refine r_get C hK hP kw_X10 (ci := 8) rfl 0 13 (by decide) kf_X10_101 rfl rfl dX10_back_1 ?_
  refine r_ine 10 C dX10_back_4 rfl (rgN (by omega)) (fun h_1 => ?_) (fun h_1 => ?_)
  · exact absurd h_1 (by omega)
  refine r_bipushZ C dX10_back_7 (by decide) ?_
  exact ret dX10_back_9 (by first | rfl | exact iI_cast (by omega) | exact congrArg lI (by omega) | omega)
