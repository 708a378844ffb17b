set_option maxHeartbeats 4000000 in
set_option maxRecDepth 100000 in
theorem c_X10_isItem (l : Launch) (g : GG) (mo0 : Nat) (mA1 : Nat) (mA3 : Nat) (mA4 : Nat) (mA5 : Nat) (mA6 : Nat) (mA7 : Nat) (mA8 : Nat) (mA9 : Nat) (mA10 : Nat) (mA11 : Nat) (mA12 : Nat) (mA15 : Nat) (mA16 : Nat) (mA17 : Nat) (mA20 : Nat) (mL : Nat) (mAt : Nat) (kz : Nat) (dn : Nat) (mAb : Nat) (mBe : Nat) (mCl : Int) (mtx : Nat → Nat) (mtd : Nat → Nat) (mws : Nat → Nat) (mwd : Nat → Nat) (mcs : Nat → Nat) (mca : Nat → Nat) (mbs : Nat → Nat) (mba : Nat → Nat) (mgt : Nat → Int) (vv : VS) (hux : ∀ j, mtx j < 256) (hmL : mL ≤ 300) (hat : mAt < mL) (hDR : DR vv mtd mws mwd mcs mca mbs mba) (hV : VOK vv) : WRi g l yX10_isItem cX10_isItem 5 (some .boolean) 4 [(mo0, .inr (8, [nV mL, .ref mA1, nV mAt, .ref mA3, .ref mA4, .ref mA5, .ref mA6, .ref mA7, .ref mA8, .ref mA9, .ref mA10, .ref mA11, .ref mA12, nV kz, nV dn, .ref mA15, .ref mA16, .ref mA17, mV mAb, mV mBe, .ref mA20, zV mCl])), (mA1, cB g 300 mtx), (mA3, cN g 4 mtd), (mA4, cN g 2 mws), (mA5, cN g 32 mwd), (mA6, cN g 2 mcs), (mA7, cN g 20 mca), (mA8, cN g 2 mbs), (mA9, cN g 10 mba), (mA20, cZ g 4 mgt)] [.ref mo0] (fun r (uq_ : Nat × (Nat → Int) × (Nat → Nat) × (Nat → Nat) × (Nat → Nat) × (Nat → Nat) × (Nat → Nat) × (Nat → Nat) × (Nat → Nat)) => match uq_ with | (at1, gt1, td1, ws1, wd1, cs1, ca1, bs1, ba1) => r = bI ((itm mtx mL mAt vv).1 = true) ∧ ((itm mtx mL mAt vv).1 = true → at1 = (itm mtx mL mAt vv).2.1 ∧ DR (itm mtx mL mAt vv).2.2 td1 ws1 wd1 cs1 ca1 bs1 ba1) ∧ LK mtd mws mwd mcs mca mbs mba td1 ws1 wd1 cs1 ca1 bs1 ba1) (fun (uq_ : Nat × (Nat → Int) × (Nat → Nat) × (Nat → Nat) × (Nat → Nat) × (Nat → Nat) × (Nat → Nat) × (Nat → Nat) × (Nat → Nat)) => match uq_ with | (at1, gt1, td1, ws1, wd1, cs1, ca1, bs1, ba1) => [(mo0, .inr (8, [nV mL, .ref mA1, nV at1, .ref mA3, .ref mA4, .ref mA5, .ref mA6, .ref mA7, .ref mA8, .ref mA9, .ref mA10, .ref mA11, .ref mA12, nV kz, nV dn, .ref mA15, .ref mA16, .ref mA17, mV mAb, mV mBe, .ref mA20, zV mCl])), (mA1, cB g 300 mtx), (mA3, cN g 4 td1), (mA4, cN g 2 ws1), (mA5, cN g 32 wd1), (mA6, cN g 2 cs1), (mA7, cN g 20 ca1), (mA8, cN g 2 bs1), (mA9, cN g 10 ba1), (mA20, cZ g 4 gt1)]) := by
  refine wr_startZ (by decide +kernel) (Nat.le_of_ble_eq_true rfl) ?_
  intro p e s m args below meth c Q A ls C hK hA ret hP hD hS hl
  have C : CT p s m args meth c cX10_isItem RX10 5 := C
  have hl : lv_has ls 5 [(0, .ref mo0)] := hl
  refine lv_aload_n C.1 C.2.1 dX10_isItem_0 rfl (lv_at hl 0 rfl) ?_
  refine r_get C hK hP kw_X10 (ci := 8) rfl 0 1 (by decide) kf_X10_7 rfl rfl dX10_isItem_1 ?_
  refine lv_aload_n C.1 C.2.1 dX10_isItem_4 rfl (lv_at hl 0 rfl) ?_
  refine r_get C hK hP kw_X10 (ci := 8) rfl 0 2 (by decide) kf_X10_73 rfl rfl dX10_isItem_5 ?_
  refine r_aldB C hK hP 1 rfl ⟨by omega, by omega⟩ dX10_isItem_8 ?_
  refine r_top (v' := zV (sbz (mtx mAt))) (congrArg Value.int (sb_z _ (hux mAt))) ?_
  have hf_1 := sbz_f (mtx mAt) (hux mAt)
  refine r_nameZ (fun ll hll => ?_)
  have hle : prt ll = prt (chr mtx mL mAt) ∧ (prt ll ≠ 0 → ll = chr mtx mL mAt) := by rw [hll, chr_lt hat]; exact prt_sb (hux _)
  refine lv_istore_n (lv' := [(1, zV ll), (0, .ref mo0)]) C.1 C.2.1 dX10_isItem_9 rfl hl (by decide) rfl (fun ls hl => ?_)
  refine lv_aload_n C.1 C.2.1 dX10_isItem_10 rfl (lv_at hl 1 rfl) ?_
  refine lv_dup C.1 C.2.1 dX10_isItem_11 rfl ?_
  refine r_get C hK hP kw_X10 (ci := 8) rfl 0 2 (by decide) kf_X10_73 rfl rfl dX10_isItem_12 ?_
  refine r_iconst 1 C dX10_isItem_15 rfl ?_
  refine r_addN C dX10_isItem_16 ?_
  refine r_put (v := nV (mAt + 1)) C hK hP hD hS kw_X10 tyX10_ok nmX10 (ci := 8) rfl 0 2 (by decide) kf_X10_73 rfl rfl rfl rfl rfl (Nat.le_of_ble_eq_true rfl) dX10_isItem_17 (fun H locs hP hD hS => ?_)
  have hP : va_P g.1 vwCl [(mo0, .inr (8, [nV mL, .ref mA1, nV (mAt + 1), .ref mA3, .ref mA4, .ref mA5, .ref mA6, .ref mA7, .ref mA8, .ref mA9, .ref mA10, .ref mA11, .ref mA12, nV kz, nV dn, .ref mA15, .ref mA16, .ref mA17, mV mAb, mV mBe, .ref mA20, zV mCl])), (mA1, cB g 300 mtx), (mA3, cN g 4 mtd), (mA4, cN g 2 mws), (mA5, cN g 32 mwd), (mA6, cN g 2 mcs), (mA7, cN g 20 mca), (mA8, cN g 2 mbs), (mA9, cN g 10 mba), (mA20, cZ g 4 mgt)] H := hP
  have hD : va_D A [(mo0, .inr (8, [nV mL, .ref mA1, nV (mAt + 1), .ref mA3, .ref mA4, .ref mA5, .ref mA6, .ref mA7, .ref mA8, .ref mA9, .ref mA10, .ref mA11, .ref mA12, nV kz, nV dn, .ref mA15, .ref mA16, .ref mA17, mV mAb, mV mBe, .ref mA20, zV mCl])), (mA1, cB g 300 mtx), (mA3, cN g 4 mtd), (mA4, cN g 2 mws), (mA5, cN g 32 mwd), (mA6, cN g 2 mcs), (mA7, cN g 20 mca), (mA8, cN g 2 mbs), (mA9, cN g 10 mba), (mA20, cZ g 4 mgt)] := hD
  refine lv_iload_n C.1 C.2.1 dX10_isItem_20 rfl (lv_at hl 0 rfl) ?_
  refine ro_callS (As := [zV ll]) (rest := []) C hK (c_X10_parts l g ll (by first | assumption | exact ⟨by omega, by omega⟩)) (hP.sub (ws' := []) [] rfl) kc_X10_parts kl_X10_82 kn_X10 ks_X10_parts nk_X10_parts (rm_lt (by decide) (by decide)) hl rfl (Nat.le_of_ble_eq_true rfl) dX10_isItem_21 (fun r_2 hr_3 => ?_)
  subst hr_3
  refine r_nameN (fun cn hcn => ?_)
  have hcb : cn ≤ 4 := by rw [hcn]; exact prt_le _
  have hcl : cn = prt (chr mtx mL mAt) ∧ (cn ≠ 0 → ll = chr mtx mL mAt) := by rw [hcn]; exact hle
  refine lv_istore_n (lv' := [(2, nV cn), (1, zV ll), (0, .ref mo0)]) C.1 C.2.1 dX10_isItem_24 rfl hl (by decide) rfl (fun ls hl => ?_)
  refine lv_iload_n C.1 C.2.1 dX10_isItem_25 rfl (lv_at hl 0 rfl) ?_
  have J34 : ∀ (z0 : Nat) (H : Heap) (locs : List Loc) (ls : Array Slot) (hz0 : (z0 = 1 ∧ 0 < cn) ∨ (z0 = 0 ∧ cn = 0)) (hP : va_P g.1 vwCl [(mo0, .inr (8, [nV mL, .ref mA1, nV (mAt + 1), .ref mA3, .ref mA4, .ref mA5, .ref mA6, .ref mA7, .ref mA8, .ref mA9, .ref mA10, .ref mA11, .ref mA12, nV kz, nV dn, .ref mA15, .ref mA16, .ref mA17, mV mAb, mV mBe, .ref mA20, zV mCl])), (mA1, cB g 300 mtx), (mA3, cN g 4 mtd), (mA4, cN g 2 mws), (mA5, cN g 32 mwd), (mA6, cN g 2 mcs), (mA7, cN g 20 mca), (mA8, cN g 2 mbs), (mA9, cN g 10 mba), (mA20, cZ g 4 mgt)] H) (hD : va_D A [(mo0, .inr (8, [nV mL, .ref mA1, nV (mAt + 1), .ref mA3, .ref mA4, .ref mA5, .ref mA6, .ref mA7, .ref mA8, .ref mA9, .ref mA10, .ref mA11, .ref mA12, nV kz, nV dn, .ref mA15, .ref mA16, .ref mA17, mV mAb, mV mBe, .ref mA20, zV mCl])), (mA1, cB g 300 mtx), (mA3, cN g 4 mtd), (mA4, cN g 2 mws), (mA5, cN g 32 mwd), (mA6, cN g 2 mcs), (mA7, cN g 20 mca), (mA8, cN g 2 mbs), (mA9, cN g 10 mba), (mA20, cZ g 4 mgt)]) (hS : va_S A s.heap H locs) (hl : lv_has ls 5 [(2, nV cn), (1, zV ll), (0, .ref mo0)]), W p l e (rD 4) s m args below meth c H locs 0 0 Q (F0 m 34 ls [nV z0]) := by
    intro z0 H locs ls hz0 hP hD hS hl
    refine lv_istore_n (lv' := [(3, nV z0), (2, nV cn), (1, zV ll), (0, .ref mo0)]) C.1 C.2.1 dX10_isItem_34 rfl hl (by decide) rfl (fun ls hl => ?_)
    refine r_iconst 0 C dX10_isItem_35 rfl ?_
    refine lv_istore (lv' := [(4, nV 0), (3, nV z0), (2, nV cn), (1, zV ll), (0, .ref mo0)]) C.1 C.2.1 dX10_isItem_36 hl (by decide) rfl (fun ls hl => ?_)
    have L38 : ∀ (n_38 : Nat) (i : Nat) (zz : Nat) (pl : Nat) (gt : Nat → Int) (H : Heap) (locs : List Loc) (ls : Array Slot) (hi : i ≤ cn) (hzb : zz ≤ 1) (hzc : zz = 1 → 0 < cn) (hIS : IS mtx mL cn mAt i zz pl gt) (hpl : pl ≤ mL + 1 ∧ (zz = 1 → pl ≤ mL)) (hm : cn - i < n_38) (hP : va_P g.1 vwCl [(mo0, .inr (8, [nV mL, .ref mA1, nV pl, .ref mA3, .ref mA4, .ref mA5, .ref mA6, .ref mA7, .ref mA8, .ref mA9, .ref mA10, .ref mA11, .ref mA12, nV kz, nV dn, .ref mA15, .ref mA16, .ref mA17, mV mAb, mV mBe, .ref mA20, zV mCl])), (mA1, cB g 300 mtx), (mA3, cN g 4 mtd), (mA4, cN g 2 mws), (mA5, cN g 32 mwd), (mA6, cN g 2 mcs), (mA7, cN g 20 mca), (mA8, cN g 2 mbs), (mA9, cN g 10 mba), (mA20, cZ g 4 gt)] H) (hD : va_D A [(mo0, .inr (8, [nV mL, .ref mA1, nV pl, .ref mA3, .ref mA4, .ref mA5, .ref mA6, .ref mA7, .ref mA8, .ref mA9, .ref mA10, .ref mA11, .ref mA12, nV kz, nV dn, .ref mA15, .ref mA16, .ref mA17, mV mAb, mV mBe, .ref mA20, zV mCl])), (mA1, cB g 300 mtx), (mA3, cN g 4 mtd), (mA4, cN g 2 mws), (mA5, cN g 32 mwd), (mA6, cN g 2 mcs), (mA7, cN g 20 mca), (mA8, cN g 2 mbs), (mA9, cN g 10 mba), (mA20, cZ g 4 gt)]) (hS : va_S A s.heap H locs) (hl : lv_has ls 5 [(4, nV i), (3, nV zz), (2, nV cn), (1, zV ll), (0, .ref mo0)]), W p l e (rD 4) s m args below meth c H locs 0 0 Q (F0 m 38 ls []) := by
      intro n_38
      induction n_38 with
      | zero => intro i zz pl gt H locs ls hi hzb hzc hIS hpl hm hP hD hS hl; exact absurd hm (Nat.not_lt_zero _)
      | succ n_38 ih_38 =>
        intro i zz pl gt H locs ls hi hzb hzc hIS hpl hm hP hD hS hl
        refine lv_iload C.1 C.2.1 dX10_isItem_38 (lv_at hl 0 rfl) ?_
        refine lv_iload_n C.1 C.2.1 dX10_isItem_40 rfl (lv_at hl 2 rfl) ?_
        refine r_cge 144 C dX10_isItem_41 rfl ⟨rgN (by omega), rgN (by omega)⟩ (fun h_4 => ?_) (fun h_4 => ?_)
        · skip
          refine lv_iload_n C.1 C.2.1 dX10_isItem_144 rfl (lv_at hl 1 rfl) ?_
          refine r_ieq 177 C dX10_isItem_145 rfl (rgN (by omega)) (fun h_5 => ?_) (fun h_5 => ?_)
          · skip
            refine r_iconst 0 C dX10_isItem_177 rfl ?_
            refine lv_istore_n (lv' := [(3, nV 0), (4, nV i), (2, nV cn), (1, zV ll), (0, .ref mo0)]) C.1 C.2.1 dX10_isItem_178 rfl hl (by decide) rfl (fun ls hl => ?_)
            refine lv_aload_n C.1 C.2.1 dX10_isItem_179 rfl (lv_at hl 4 rfl) ?_
            refine lv_dup C.1 C.2.1 dX10_isItem_180 rfl ?_
            refine r_get C hK hP kw_X10 (ci := 8) rfl 0 2 (by decide) kf_X10_73 rfl rfl dX10_isItem_181 ?_
            refine r_iconst 1 C dX10_isItem_184 rfl ?_
            refine r_addN C dX10_isItem_185 ?_
            refine r_put (v := nV (pl + 1)) C hK hP hD hS kw_X10 tyX10_ok nmX10 (ci := 8) rfl 0 2 (by decide) kf_X10_73 rfl rfl rfl rfl rfl (Nat.le_of_ble_eq_true rfl) dX10_isItem_186 (fun H locs hP hD hS => ?_)
            have hP : va_P g.1 vwCl [(mo0, .inr (8, [nV mL, .ref mA1, nV (pl + 1), .ref mA3, .ref mA4, .ref mA5, .ref mA6, .ref mA7, .ref mA8, .ref mA9, .ref mA10, .ref mA11, .ref mA12, nV kz, nV dn, .ref mA15, .ref mA16, .ref mA17, mV mAb, mV mBe, .ref mA20, zV mCl])), (mA1, cB g 300 mtx), (mA3, cN g 4 mtd), (mA4, cN g 2 mws), (mA5, cN g 32 mwd), (mA6, cN g 2 mcs), (mA7, cN g 20 mca), (mA8, cN g 2 mbs), (mA9, cN g 10 mba), (mA20, cZ g 4 gt)] H := hP
            have hD : va_D A [(mo0, .inr (8, [nV mL, .ref mA1, nV (pl + 1), .ref mA3, .ref mA4, .ref mA5, .ref mA6, .ref mA7, .ref mA8, .ref mA9, .ref mA10, .ref mA11, .ref mA12, nV kz, nV dn, .ref mA15, .ref mA16, .ref mA17, mV mAb, mV mBe, .ref mA20, zV mCl])), (mA1, cB g 300 mtx), (mA3, cN g 4 mtd), (mA4, cN g 2 mws), (mA5, cN g 32 mwd), (mA6, cN g 2 mcs), (mA7, cN g 20 mca), (mA8, cN g 2 mbs), (mA9, cN g 10 mba), (mA20, cZ g 4 gt)] := hD
            refine lv_iload_n C.1 C.2.1 dX10_isItem_189 rfl (lv_at hl 0 rfl) ?_
            refine r_ieq 205 C dX10_isItem_190 rfl (rgN (by decide)) (fun h_6 => ?_) (fun h_6 => ?_)
            rotate_left
            · exact absurd h_6 (by omega)
            refine r_iconst 0 C dX10_isItem_205 rfl ?_
            exact ret ((pl + 1, gt, mtd, mws, mwd, mcs, mca, mbs, mba)) dX10_isItem_206 (by decide) hS hP (by have en : itm mtx mL mAt vv = (false, 0, vv) := itm_z ((by rw [← hcl.1]; exact IS_z hIS (by omega))); exact ⟨bI_z (by rw [en]; exact Bool.false_ne_true), fun q => (by rw [en] at q; cases q), LK_r⟩)
          have hz1 : zz = 1 := by omega
          have hI1 : IS mtx mL cn mAt cn 1 pl gt := by rw [show i = cn by omega, hz1] at hIS; exact hIS
          refine lv_aload_n C.1 C.2.1 dX10_isItem_148 rfl (lv_at hl 4 rfl) ?_
          refine r_get C hK hP kw_X10 (ci := 8) rfl 0 2 (by decide) kf_X10_73 rfl rfl dX10_isItem_149 ?_
          refine lv_aload_n C.1 C.2.1 dX10_isItem_152 rfl (lv_at hl 4 rfl) ?_
          refine r_get C hK hP kw_X10 (ci := 8) rfl 0 0 (by decide) kf_X10_69 rfl rfl dX10_isItem_153 ?_
          refine r_cge 177 C dX10_isItem_156 rfl ⟨rgN (by omega), rgN (by omega)⟩ (fun h_7 => ?_) (fun h_7 => ?_)
          · skip
            refine r_iconst 0 C dX10_isItem_177 rfl ?_
            refine lv_istore_n (lv' := [(3, nV 0), (4, nV i), (2, nV cn), (1, zV ll), (0, .ref mo0)]) C.1 C.2.1 dX10_isItem_178 rfl hl (by decide) rfl (fun ls hl => ?_)
            refine lv_aload_n C.1 C.2.1 dX10_isItem_179 rfl (lv_at hl 4 rfl) ?_
            refine lv_dup C.1 C.2.1 dX10_isItem_180 rfl ?_
            refine r_get C hK hP kw_X10 (ci := 8) rfl 0 2 (by decide) kf_X10_73 rfl rfl dX10_isItem_181 ?_
            refine r_iconst 1 C dX10_isItem_184 rfl ?_
            refine r_addN C dX10_isItem_185 ?_
            refine r_put (v := nV (pl + 1)) C hK hP hD hS kw_X10 tyX10_ok nmX10 (ci := 8) rfl 0 2 (by decide) kf_X10_73 rfl rfl rfl rfl rfl (Nat.le_of_ble_eq_true rfl) dX10_isItem_186 (fun H locs hP hD hS => ?_)
            have hP : va_P g.1 vwCl [(mo0, .inr (8, [nV mL, .ref mA1, nV (pl + 1), .ref mA3, .ref mA4, .ref mA5, .ref mA6, .ref mA7, .ref mA8, .ref mA9, .ref mA10, .ref mA11, .ref mA12, nV kz, nV dn, .ref mA15, .ref mA16, .ref mA17, mV mAb, mV mBe, .ref mA20, zV mCl])), (mA1, cB g 300 mtx), (mA3, cN g 4 mtd), (mA4, cN g 2 mws), (mA5, cN g 32 mwd), (mA6, cN g 2 mcs), (mA7, cN g 20 mca), (mA8, cN g 2 mbs), (mA9, cN g 10 mba), (mA20, cZ g 4 gt)] H := hP
            have hD : va_D A [(mo0, .inr (8, [nV mL, .ref mA1, nV (pl + 1), .ref mA3, .ref mA4, .ref mA5, .ref mA6, .ref mA7, .ref mA8, .ref mA9, .ref mA10, .ref mA11, .ref mA12, nV kz, nV dn, .ref mA15, .ref mA16, .ref mA17, mV mAb, mV mBe, .ref mA20, zV mCl])), (mA1, cB g 300 mtx), (mA3, cN g 4 mtd), (mA4, cN g 2 mws), (mA5, cN g 32 mwd), (mA6, cN g 2 mcs), (mA7, cN g 20 mca), (mA8, cN g 2 mbs), (mA9, cN g 10 mba), (mA20, cZ g 4 gt)] := hD
            refine lv_iload_n C.1 C.2.1 dX10_isItem_189 rfl (lv_at hl 0 rfl) ?_
            refine r_ieq 205 C dX10_isItem_190 rfl (rgN (by decide)) (fun h_8 => ?_) (fun h_8 => ?_)
            rotate_left
            · exact absurd h_8 (by omega)
            refine r_iconst 0 C dX10_isItem_205 rfl ?_
            exact ret ((pl + 1, gt, mtd, mws, mwd, mcs, mca, mbs, mba)) dX10_isItem_206 (by decide) hS hP (by have en : itm mtx mL mAt vv = (false, 0, vv) := itm_z (Or.inr (by have q := IS_fno hI1 (by omega) (fun q => by first | (exfalso; omega) | (intro q2; omega)); rw [← hcl.1]; exact q)); exact ⟨bI_z (by rw [en]; exact Bool.false_ne_true), fun q => (by rw [en] at q; cases q), LK_r⟩)
          refine lv_aload_n C.1 C.2.1 dX10_isItem_159 rfl (lv_at hl 4 rfl) ?_
          refine r_get C hK hP kw_X10 (ci := 8) rfl 0 1 (by decide) kf_X10_7 rfl rfl dX10_isItem_160 ?_
          refine lv_aload_n C.1 C.2.1 dX10_isItem_163 rfl (lv_at hl 4 rfl) ?_
          refine r_get C hK hP kw_X10 (ci := 8) rfl 0 2 (by decide) kf_X10_73 rfl rfl dX10_isItem_164 ?_
          refine r_aldB C hK hP 1 rfl ⟨by omega, by omega⟩ dX10_isItem_167 ?_
          refine r_top (v' := zV (sbz (mtx pl))) (congrArg Value.int (sb_z _ (hux pl))) ?_
          have hf_9 := sbz_f (mtx pl) (hux pl)
          refine r_bipush 59 C dX10_isItem_168 (by decide) ?_
          refine r_cne 177 C dX10_isItem_170 rfl ⟨⟨by omega, by omega⟩, rgN (by decide)⟩ (fun h_10 => ?_) (fun h_10 => ?_)
          · skip
            refine r_iconst 0 C dX10_isItem_177 rfl ?_
            refine lv_istore_n (lv' := [(3, nV 0), (4, nV i), (2, nV cn), (1, zV ll), (0, .ref mo0)]) C.1 C.2.1 dX10_isItem_178 rfl hl (by decide) rfl (fun ls hl => ?_)
            refine lv_aload_n C.1 C.2.1 dX10_isItem_179 rfl (lv_at hl 4 rfl) ?_
            refine lv_dup C.1 C.2.1 dX10_isItem_180 rfl ?_
            refine r_get C hK hP kw_X10 (ci := 8) rfl 0 2 (by decide) kf_X10_73 rfl rfl dX10_isItem_181 ?_
            refine r_iconst 1 C dX10_isItem_184 rfl ?_
            refine r_addN C dX10_isItem_185 ?_
            refine r_put (v := nV (pl + 1)) C hK hP hD hS kw_X10 tyX10_ok nmX10 (ci := 8) rfl 0 2 (by decide) kf_X10_73 rfl rfl rfl rfl rfl (Nat.le_of_ble_eq_true rfl) dX10_isItem_186 (fun H locs hP hD hS => ?_)
            have hP : va_P g.1 vwCl [(mo0, .inr (8, [nV mL, .ref mA1, nV (pl + 1), .ref mA3, .ref mA4, .ref mA5, .ref mA6, .ref mA7, .ref mA8, .ref mA9, .ref mA10, .ref mA11, .ref mA12, nV kz, nV dn, .ref mA15, .ref mA16, .ref mA17, mV mAb, mV mBe, .ref mA20, zV mCl])), (mA1, cB g 300 mtx), (mA3, cN g 4 mtd), (mA4, cN g 2 mws), (mA5, cN g 32 mwd), (mA6, cN g 2 mcs), (mA7, cN g 20 mca), (mA8, cN g 2 mbs), (mA9, cN g 10 mba), (mA20, cZ g 4 gt)] H := hP
            have hD : va_D A [(mo0, .inr (8, [nV mL, .ref mA1, nV (pl + 1), .ref mA3, .ref mA4, .ref mA5, .ref mA6, .ref mA7, .ref mA8, .ref mA9, .ref mA10, .ref mA11, .ref mA12, nV kz, nV dn, .ref mA15, .ref mA16, .ref mA17, mV mAb, mV mBe, .ref mA20, zV mCl])), (mA1, cB g 300 mtx), (mA3, cN g 4 mtd), (mA4, cN g 2 mws), (mA5, cN g 32 mwd), (mA6, cN g 2 mcs), (mA7, cN g 20 mca), (mA8, cN g 2 mbs), (mA9, cN g 10 mba), (mA20, cZ g 4 gt)] := hD
            refine lv_iload_n C.1 C.2.1 dX10_isItem_189 rfl (lv_at hl 0 rfl) ?_
            refine r_ieq 205 C dX10_isItem_190 rfl (rgN (by decide)) (fun h_11 => ?_) (fun h_11 => ?_)
            rotate_left
            · exact absurd h_11 (by omega)
            refine r_iconst 0 C dX10_isItem_205 rfl ?_
            exact ret ((pl + 1, gt, mtd, mws, mwd, mcs, mca, mbs, mba)) dX10_isItem_206 (by decide) hS hP (by have en : itm mtx mL mAt vv = (false, 0, vv) := itm_z (Or.inr (by have q := IS_fno hI1 (by omega) (fun q => by first | (exfalso; omega) | (intro q2; omega)); rw [← hcl.1]; exact q)); exact ⟨bI_z (by rw [en]; exact Bool.false_ne_true), fun q => (by rw [en] at q; cases q), LK_r⟩)
          refine r_iconst 1 C dX10_isItem_173 rfl ?_
          refine r_goto 178 C dX10_isItem_174 rfl ?_
          refine lv_istore_n (lv' := [(3, nV 1), (4, nV i), (2, nV cn), (1, zV ll), (0, .ref mo0)]) C.1 C.2.1 dX10_isItem_178 rfl hl (by decide) rfl (fun ls hl => ?_)
          refine lv_aload_n C.1 C.2.1 dX10_isItem_179 rfl (lv_at hl 4 rfl) ?_
          refine lv_dup C.1 C.2.1 dX10_isItem_180 rfl ?_
          refine r_get C hK hP kw_X10 (ci := 8) rfl 0 2 (by decide) kf_X10_73 rfl rfl dX10_isItem_181 ?_
          refine r_iconst 1 C dX10_isItem_184 rfl ?_
          refine r_addN C dX10_isItem_185 ?_
          refine r_put (v := nV (pl + 1)) C hK hP hD hS kw_X10 tyX10_ok nmX10 (ci := 8) rfl 0 2 (by decide) kf_X10_73 rfl rfl rfl rfl rfl (Nat.le_of_ble_eq_true rfl) dX10_isItem_186 (fun H locs hP hD hS => ?_)
          have hP : va_P g.1 vwCl [(mo0, .inr (8, [nV mL, .ref mA1, nV (pl + 1), .ref mA3, .ref mA4, .ref mA5, .ref mA6, .ref mA7, .ref mA8, .ref mA9, .ref mA10, .ref mA11, .ref mA12, nV kz, nV dn, .ref mA15, .ref mA16, .ref mA17, mV mAb, mV mBe, .ref mA20, zV mCl])), (mA1, cB g 300 mtx), (mA3, cN g 4 mtd), (mA4, cN g 2 mws), (mA5, cN g 32 mwd), (mA6, cN g 2 mcs), (mA7, cN g 20 mca), (mA8, cN g 2 mbs), (mA9, cN g 10 mba), (mA20, cZ g 4 gt)] H := hP
          have hD : va_D A [(mo0, .inr (8, [nV mL, .ref mA1, nV (pl + 1), .ref mA3, .ref mA4, .ref mA5, .ref mA6, .ref mA7, .ref mA8, .ref mA9, .ref mA10, .ref mA11, .ref mA12, nV kz, nV dn, .ref mA15, .ref mA16, .ref mA17, mV mAb, mV mBe, .ref mA20, zV mCl])), (mA1, cB g 300 mtx), (mA3, cN g 4 mtd), (mA4, cN g 2 mws), (mA5, cN g 32 mwd), (mA6, cN g 2 mcs), (mA7, cN g 20 mca), (mA8, cN g 2 mbs), (mA9, cN g 10 mba), (mA20, cZ g 4 gt)] := hD
          refine lv_iload_n C.1 C.2.1 dX10_isItem_189 rfl (lv_at hl 0 rfl) ?_
          refine r_ieq 205 C dX10_isItem_190 rfl (rgN (by decide)) (fun h_12 => ?_) (fun h_12 => ?_)
          · exact absurd h_12 (by omega)
          have hcn0 : cn ≠ 0 := by omega
          obtain ⟨nu, hr, hg⟩ := IS_fin hI1 (by omega) (by omega) (by omega)
          refine lv_aload_n C.1 C.2.1 dX10_isItem_193 rfl (lv_at hl 4 rfl) ?_
          refine lv_iload_n C.1 C.2.1 dX10_isItem_194 rfl (lv_at hl 3 rfl) ?_
          refine wr_callV (As := [zV ll]) (rest := []) C hK (c_X10_isGood l g mo0 mA1 mA3 mA4 mA5 mA6 mA7 mA8 mA9 mA10 mA11 mA12 mA15 mA16 mA17 mA20 mL (pl + 1) kz dn mAb mBe mCl mtd mws mwd mcs mca mbs mba gt vv ll nu cn (by first | assumption | omega) (by first | assumption | omega) (hcn) (hcn0) (hg) ((rna_ok hr).1) (by first | assumption | exact ⟨by omega, by omega⟩)) [0, 2, 3, 4, 5, 6, 7, 8, 9] rfl (fun _ => rfl) (by decide) hP hD hS hA (ci := 8) (q0 := 0) rfl rfl kc_X10_isGood kl_X10_90 kn_X10 ki_X10_isGood ke_X10_isGood nk_X10_isGood (rm_lt (by decide) (by decide)) hl rfl (Nat.le_of_ble_eq_true rfl) dX10_isItem_195 (fun r_13 u_15 H locs hr_14 hP hD hS => ?_)
          obtain ⟨td1_b, ws1_b, wd1_b, cs1_b, ca1_b, bs1_b, ba1_b⟩ := u_15
          have hP : va_P g.1 vwCl [(mo0, .inr (8, [nV mL, .ref mA1, nV (pl + 1), .ref mA3, .ref mA4, .ref mA5, .ref mA6, .ref mA7, .ref mA8, .ref mA9, .ref mA10, .ref mA11, .ref mA12, nV kz, nV dn, .ref mA15, .ref mA16, .ref mA17, mV mAb, mV mBe, .ref mA20, zV mCl])), (mA1, cB g 300 mtx), (mA3, cN g 4 td1_b), (mA4, cN g 2 ws1_b), (mA5, cN g 32 wd1_b), (mA6, cN g 2 cs1_b), (mA7, cN g 20 ca1_b), (mA8, cN g 2 bs1_b), (mA9, cN g 10 ba1_b), (mA20, cZ g 4 gt)] H := hP
          have hD : va_D A [(mo0, .inr (8, [nV mL, .ref mA1, nV (pl + 1), .ref mA3, .ref mA4, .ref mA5, .ref mA6, .ref mA7, .ref mA8, .ref mA9, .ref mA10, .ref mA11, .ref mA12, nV kz, nV dn, .ref mA15, .ref mA16, .ref mA17, mV mAb, mV mBe, .ref mA20, zV mCl])), (mA1, cB g 300 mtx), (mA3, cN g 4 td1_b), (mA4, cN g 2 ws1_b), (mA5, cN g 32 wd1_b), (mA6, cN g 2 cs1_b), (mA7, cN g 20 ca1_b), (mA8, cN g 2 bs1_b), (mA9, cN g 10 ba1_b), (mA20, cZ g 4 gt)] := hD
          try dsimp only at hr_14
          obtain ⟨hxr_13, hr_14⟩ := hr_14
          subst hxr_13
          have hgd := hr_14
          refine r_beq 205 C dX10_isItem_198 rfl (fun g8 => ?_) (fun g8 => ?_)
          · skip
            refine r_iconst 0 C dX10_isItem_205 rfl ?_
            exact ret (((pl + 1), gt, td1_b, ws1_b, wd1_b, cs1_b, ca1_b, bs1_b, ba1_b)) dX10_isItem_206 (by decide) hS hP (by have ei : itm mtx mL mAt vv = ((gd vv ll nu).1, pl + 1, (gd vv ll nu).2) := (by have e := itm_gd (u := mtx) (L := mL) (p := mAt) (v := vv) (by rw [← hcl.1]; exact hcn0) (by rw [← hcl.1]; exact hr); rw [← hcl.2 hcn0] at e; exact e); exact ⟨bI_z (by rw [ei]; exact g8), fun q => by rw [ei] at q; exact absurd q g8, hgd.2⟩)
          refine r_iconst 1 C dX10_isItem_201 rfl ?_
          refine r_goto 206 C dX10_isItem_202 rfl ?_
          exact ret (((pl + 1), gt, td1_b, ws1_b, wd1_b, cs1_b, ca1_b, bs1_b, ba1_b)) dX10_isItem_206 (by decide) hS hP (by have ei : itm mtx mL mAt vv = ((gd vv ll nu).1, pl + 1, (gd vv ll nu).2) := (by have e := itm_gd (u := mtx) (L := mL) (p := mAt) (v := vv) (by rw [← hcl.1]; exact hcn0) (by rw [← hcl.1]; exact hr); rw [← hcl.2 hcn0] at e; exact e); exact ⟨bI_1 (by rw [ei]; exact g8), fun _ => by rw [ei]; exact ⟨rfl, hgd.1 g8⟩, hgd.2⟩)
        refine lv_iload_n C.1 C.2.1 dX10_isItem_44 rfl (lv_at hl 1 rfl) ?_
        refine r_ieq 144 C dX10_isItem_45 rfl (rgN (by omega)) (fun h_16 => ?_) (fun h_16 => ?_)
        · skip
          refine lv_iload_n C.1 C.2.1 dX10_isItem_144 rfl (lv_at hl 1 rfl) ?_
          refine r_ieq 177 C dX10_isItem_145 rfl (rgN (by omega)) (fun h_17 => ?_) (fun h_17 => ?_)
          rotate_left
          · exact absurd h_17 (by omega)
          refine r_iconst 0 C dX10_isItem_177 rfl ?_
          refine lv_istore_n (lv' := [(3, nV 0), (4, nV i), (2, nV cn), (1, zV ll), (0, .ref mo0)]) C.1 C.2.1 dX10_isItem_178 rfl hl (by decide) rfl (fun ls hl => ?_)
          refine lv_aload_n C.1 C.2.1 dX10_isItem_179 rfl (lv_at hl 4 rfl) ?_
          refine lv_dup C.1 C.2.1 dX10_isItem_180 rfl ?_
          refine r_get C hK hP kw_X10 (ci := 8) rfl 0 2 (by decide) kf_X10_73 rfl rfl dX10_isItem_181 ?_
          refine r_iconst 1 C dX10_isItem_184 rfl ?_
          refine r_addN C dX10_isItem_185 ?_
          refine r_put (v := nV (pl + 1)) C hK hP hD hS kw_X10 tyX10_ok nmX10 (ci := 8) rfl 0 2 (by decide) kf_X10_73 rfl rfl rfl rfl rfl (Nat.le_of_ble_eq_true rfl) dX10_isItem_186 (fun H locs hP hD hS => ?_)
          have hP : va_P g.1 vwCl [(mo0, .inr (8, [nV mL, .ref mA1, nV (pl + 1), .ref mA3, .ref mA4, .ref mA5, .ref mA6, .ref mA7, .ref mA8, .ref mA9, .ref mA10, .ref mA11, .ref mA12, nV kz, nV dn, .ref mA15, .ref mA16, .ref mA17, mV mAb, mV mBe, .ref mA20, zV mCl])), (mA1, cB g 300 mtx), (mA3, cN g 4 mtd), (mA4, cN g 2 mws), (mA5, cN g 32 mwd), (mA6, cN g 2 mcs), (mA7, cN g 20 mca), (mA8, cN g 2 mbs), (mA9, cN g 10 mba), (mA20, cZ g 4 gt)] H := hP
          have hD : va_D A [(mo0, .inr (8, [nV mL, .ref mA1, nV (pl + 1), .ref mA3, .ref mA4, .ref mA5, .ref mA6, .ref mA7, .ref mA8, .ref mA9, .ref mA10, .ref mA11, .ref mA12, nV kz, nV dn, .ref mA15, .ref mA16, .ref mA17, mV mAb, mV mBe, .ref mA20, zV mCl])), (mA1, cB g 300 mtx), (mA3, cN g 4 mtd), (mA4, cN g 2 mws), (mA5, cN g 32 mwd), (mA6, cN g 2 mcs), (mA7, cN g 20 mca), (mA8, cN g 2 mbs), (mA9, cN g 10 mba), (mA20, cZ g 4 gt)] := hD
          refine lv_iload_n C.1 C.2.1 dX10_isItem_189 rfl (lv_at hl 0 rfl) ?_
          refine r_ieq 205 C dX10_isItem_190 rfl (rgN (by decide)) (fun h_18 => ?_) (fun h_18 => ?_)
          rotate_left
          · exact absurd h_18 (by omega)
          refine r_iconst 0 C dX10_isItem_205 rfl ?_
          exact ret ((pl + 1, gt, mtd, mws, mwd, mcs, mca, mbs, mba)) dX10_isItem_206 (by decide) hS hP (by have en : itm mtx mL mAt vv = (false, 0, vv) := itm_z ((by rw [← hcl.1]; exact IS_z hIS (by omega))); exact ⟨bI_z (by rw [en]; exact Bool.false_ne_true), fun q => (by rw [en] at q; cases q), LK_r⟩)
        have hz1 : zz = 1 := by omega
        have hI1 : IS mtx mL cn mAt i 1 pl gt := by rw [← hz1]; exact hIS
        refine lv_iload C.1 C.2.1 dX10_isItem_48 (lv_at hl 0 rfl) ?_
        refine r_ieq 78 C dX10_isItem_50 rfl (rgN (by omega)) (fun h_19 => ?_) (fun h_19 => ?_)
        · skip
          refine r_iconst 1 C dX10_isItem_78 rfl ?_
          refine r_goto 83 C dX10_isItem_79 rfl ?_
          refine lv_istore_n (lv' := [(3, nV 1), (4, nV i), (2, nV cn), (1, zV ll), (0, .ref mo0)]) C.1 C.2.1 dX10_isItem_83 rfl hl (by decide) rfl (fun ls hl => ?_)
          refine lv_aload_n C.1 C.2.1 dX10_isItem_84 rfl (lv_at hl 4 rfl) ?_
          refine lv_dup C.1 C.2.1 dX10_isItem_85 rfl ?_
          refine r_get C hK hP kw_X10 (ci := 8) rfl 0 2 (by decide) kf_X10_73 rfl rfl dX10_isItem_86 ?_
          refine lv_iload C.1 C.2.1 dX10_isItem_89 (lv_at hl 1 rfl) ?_
          refine r_ine 98 C dX10_isItem_91 rfl (rgN (by omega)) (fun h_20 => ?_) (fun h_20 => ?_)
          · exact absurd h_20 (by omega)
          refine r_iconst 0 C dX10_isItem_94 rfl ?_
          refine r_goto 99 C dX10_isItem_95 rfl ?_
          refine r_addN C dX10_isItem_99 ?_
          refine r_put (v := nV (pl + 0)) C hK hP hD hS kw_X10 tyX10_ok nmX10 (ci := 8) rfl 0 2 (by decide) kf_X10_73 rfl rfl rfl rfl rfl (Nat.le_of_ble_eq_true rfl) dX10_isItem_100 (fun H locs hP hD hS => ?_)
          have hP : va_P g.1 vwCl [(mo0, .inr (8, [nV mL, .ref mA1, nV (pl + 0), .ref mA3, .ref mA4, .ref mA5, .ref mA6, .ref mA7, .ref mA8, .ref mA9, .ref mA10, .ref mA11, .ref mA12, nV kz, nV dn, .ref mA15, .ref mA16, .ref mA17, mV mAb, mV mBe, .ref mA20, zV mCl])), (mA1, cB g 300 mtx), (mA3, cN g 4 mtd), (mA4, cN g 2 mws), (mA5, cN g 32 mwd), (mA6, cN g 2 mcs), (mA7, cN g 20 mca), (mA8, cN g 2 mbs), (mA9, cN g 10 mba), (mA20, cZ g 4 gt)] H := hP
          have hD : va_D A [(mo0, .inr (8, [nV mL, .ref mA1, nV (pl + 0), .ref mA3, .ref mA4, .ref mA5, .ref mA6, .ref mA7, .ref mA8, .ref mA9, .ref mA10, .ref mA11, .ref mA12, nV kz, nV dn, .ref mA15, .ref mA16, .ref mA17, mV mAb, mV mBe, .ref mA20, zV mCl])), (mA1, cB g 300 mtx), (mA3, cN g 4 mtd), (mA4, cN g 2 mws), (mA5, cN g 32 mwd), (mA6, cN g 2 mcs), (mA7, cN g 20 mca), (mA8, cN g 2 mbs), (mA9, cN g 10 mba), (mA20, cZ g 4 gt)] := hD
          refine lv_aload_n C.1 C.2.1 dX10_isItem_103 rfl (lv_at hl 4 rfl) ?_
          refine r_get C hK hP kw_X10 (ci := 8) rfl 0 20 (by decide) kf_X10_54 rfl rfl dX10_isItem_104 ?_
          refine lv_iload C.1 C.2.1 dX10_isItem_107 (lv_at hl 1 rfl) ?_
          refine lv_iload_n C.1 C.2.1 dX10_isItem_109 rfl (lv_at hl 0 rfl) ?_
          refine r_ieq 120 C dX10_isItem_110 rfl (rgN (by decide)) (fun h_21 => ?_) (fun h_21 => ?_)
          · exact absurd h_21 (by omega)
          refine lv_aload_n C.1 C.2.1 dX10_isItem_113 rfl (lv_at hl 4 rfl) ?_
          refine wr_callV (As := []) (rest := [nV i, .ref mA20]) C hK (c_X10_number l g mo0 mA1 mA3 mA4 mA5 mA6 mA7 mA8 mA9 mA10 mA11 mA12 mA15 mA16 mA17 mA20 mL (pl + 0) kz dn mAb mBe mCl mtx (by first | assumption | omega) (by first | assumption | omega) (by first | assumption | omega)) [0, 1] rfl (fun _ => rfl) (by decide) hP hD hS hA (ci := 8) (q0 := 0) rfl rfl kc_X10_number kl_X10_86 kn_X10 ki_X10_number ke_X10_number nk_X10_number (rm_lt (by decide) (by decide)) hl rfl (Nat.le_of_ble_eq_true rfl) dX10_isItem_114 (fun r_22 at1_a H locs hr_23 hP hD hS => ?_)
          have hP : va_P g.1 vwCl [(mo0, .inr (8, [nV mL, .ref mA1, nV at1_a, .ref mA3, .ref mA4, .ref mA5, .ref mA6, .ref mA7, .ref mA8, .ref mA9, .ref mA10, .ref mA11, .ref mA12, nV kz, nV dn, .ref mA15, .ref mA16, .ref mA17, mV mAb, mV mBe, .ref mA20, zV mCl])), (mA1, cB g 300 mtx), (mA3, cN g 4 mtd), (mA4, cN g 2 mws), (mA5, cN g 32 mwd), (mA6, cN g 2 mcs), (mA7, cN g 20 mca), (mA8, cN g 2 mbs), (mA9, cN g 10 mba), (mA20, cZ g 4 gt)] H := hP
          have hD : va_D A [(mo0, .inr (8, [nV mL, .ref mA1, nV at1_a, .ref mA3, .ref mA4, .ref mA5, .ref mA6, .ref mA7, .ref mA8, .ref mA9, .ref mA10, .ref mA11, .ref mA12, nV kz, nV dn, .ref mA15, .ref mA16, .ref mA17, mV mAb, mV mBe, .ref mA20, zV mCl])), (mA1, cB g 300 mtx), (mA3, cN g 4 mtd), (mA4, cN g 2 mws), (mA5, cN g 32 mwd), (mA6, cN g 2 mcs), (mA7, cN g 20 mca), (mA8, cN g 2 mbs), (mA9, cN g 10 mba), (mA20, cZ g 4 gt)] := hD
          try dsimp only at hr_23
          obtain ⟨hxr_22, hr_23⟩ := hr_23
          subst hxr_22
          have hnm := hr_23
          have hf_24 := nmI_bd mtx (mL) ((pl + 0))
          refine r_goto 121 C dX10_isItem_117 rfl ?_
          refine r_astZ C hK hP hD hS 9 rfl ⟨by omega, by omega⟩ dX10_isItem_121 (fun H locs hP hD hS => ?_)
          have hP : va_P g.1 vwCl [(mo0, .inr (8, [nV mL, .ref mA1, nV at1_a, .ref mA3, .ref mA4, .ref mA5, .ref mA6, .ref mA7, .ref mA8, .ref mA9, .ref mA10, .ref mA11, .ref mA12, nV kz, nV dn, .ref mA15, .ref mA16, .ref mA17, mV mAb, mV mBe, .ref mA20, zV mCl])), (mA1, cB g 300 mtx), (mA3, cN g 4 mtd), (mA4, cN g 2 mws), (mA5, cN g 32 mwd), (mA6, cN g 2 mcs), (mA7, cN g 20 mca), (mA8, cN g 2 mbs), (mA9, cN g 10 mba), (mA20, cZ g 4 (upZ gt i (nmI mtx mL (pl + 0))))] H := hP
          have hD : va_D A [(mo0, .inr (8, [nV mL, .ref mA1, nV at1_a, .ref mA3, .ref mA4, .ref mA5, .ref mA6, .ref mA7, .ref mA8, .ref mA9, .ref mA10, .ref mA11, .ref mA12, nV kz, nV dn, .ref mA15, .ref mA16, .ref mA17, mV mAb, mV mBe, .ref mA20, zV mCl])), (mA1, cB g 300 mtx), (mA3, cN g 4 mtd), (mA4, cN g 2 mws), (mA5, cN g 32 mwd), (mA6, cN g 2 mcs), (mA7, cN g 20 mca), (mA8, cN g 2 mbs), (mA9, cN g 10 mba), (mA20, cZ g 4 (upZ gt i (nmI mtx mL (pl + 0))))] := hD
          generalize hgt2 : upZ gt i (nmI mtx mL (pl + 0)) = gt2 at hP hD
          have hgi := congrFun hgt2 i
          rw [upZ_s] at hgi
          have hgo : ∀ j, j < i → gt2 j = gt j := fun j hj => by rw [← hgt2]; exact upZ_n (by omega)
          refine lv_aload_n C.1 C.2.1 dX10_isItem_122 rfl (lv_at hl 4 rfl) ?_
          refine r_get C hK hP kw_X10 (ci := 8) rfl 0 20 (by decide) kf_X10_54 rfl rfl dX10_isItem_123 ?_
          refine lv_iload C.1 C.2.1 dX10_isItem_126 (lv_at hl 1 rfl) ?_
          refine r_aldZ C hK hP 9 rfl ⟨by omega, by omega⟩ dX10_isItem_128 ?_
          refine r_ilt 136 C dX10_isItem_129 rfl (⟨by omega, by omega⟩) (fun h_25 => ?_) (fun h_25 => ?_)
          · skip
            refine r_iconst 0 C dX10_isItem_136 rfl ?_
            refine lv_istore_n (lv' := [(3, nV 0), (4, nV i), (2, nV cn), (1, zV ll), (0, .ref mo0)]) C.1 C.2.1 dX10_isItem_137 rfl hl (by decide) rfl (fun ls hl => ?_)
            refine r_incN (k := 1) (n := 1) [(4, nV (i + 1)), (3, nV 0), (2, nV cn), (1, zV ll), (0, .ref mo0)] C dX10_isItem_138 hl rfl rfl (by decide) rfl (fun ls hl => ?_)
            refine r_goto 38 C dX10_isItem_141 rfl ?_
            exact ih_38 (i + 1) 0 at1_a gt2 _ _ _ (by first | assumption | omega) (by first | assumption | omega) (by first | assumption | omega) (by have hr0 : rna mtx mL cn (mAt + 1) (fun _ => 0) i = some (pl, fun _ => 0) := (by rw [IS_0 hI1 (by omega), show i = 0 by omega]; rfl); have hnu := IS_num (pl := at1_a) (gt := gt2) (show i < cn by omega) hr0 (fun j hj => by exfalso; omega) hgi.symm; exact hnu.2 (by omega)) (by first | assumption | omega) (by omega) hP hD hS (lv_sub hl [0, 1, 2, 3, 4] rfl)
          refine r_iconst 1 C dX10_isItem_132 rfl ?_
          refine r_goto 137 C dX10_isItem_133 rfl ?_
          refine lv_istore_n (lv' := [(3, nV 1), (4, nV i), (2, nV cn), (1, zV ll), (0, .ref mo0)]) C.1 C.2.1 dX10_isItem_137 rfl hl (by decide) rfl (fun ls hl => ?_)
          refine r_incN (k := 1) (n := 1) [(4, nV (i + 1)), (3, nV 1), (2, nV cn), (1, zV ll), (0, .ref mo0)] C dX10_isItem_138 hl rfl rfl (by decide) rfl (fun ls hl => ?_)
          refine r_goto 38 C dX10_isItem_141 rfl ?_
          exact ih_38 (i + 1) 1 at1_a gt2 _ _ _ (by first | assumption | omega) (by first | assumption | omega) (by first | assumption | omega) (by have hr0 : rna mtx mL cn (mAt + 1) (fun _ => 0) i = some (pl, fun _ => 0) := (by rw [IS_0 hI1 (by omega), show i = 0 by omega]; rfl); have hnu := IS_num (pl := at1_a) (gt := gt2) (show i < cn by omega) hr0 (fun j hj => by exfalso; omega) hgi.symm; exact hnu.1 (by omega) (hnm.1 (by omega))) (by first | assumption | omega) (by omega) hP hD hS (lv_sub hl [0, 1, 2, 3, 4] rfl)
        refine lv_aload_n C.1 C.2.1 dX10_isItem_53 rfl (lv_at hl 4 rfl) ?_
        refine r_get C hK hP kw_X10 (ci := 8) rfl 0 2 (by decide) kf_X10_73 rfl rfl dX10_isItem_54 ?_
        refine lv_aload_n C.1 C.2.1 dX10_isItem_57 rfl (lv_at hl 4 rfl) ?_
        refine r_get C hK hP kw_X10 (ci := 8) rfl 0 0 (by decide) kf_X10_69 rfl rfl dX10_isItem_58 ?_
        refine r_cge 82 C dX10_isItem_61 rfl ⟨rgN (by omega), rgN (by omega)⟩ (fun h_26 => ?_) (fun h_26 => ?_)
        · skip
          refine r_iconst 0 C dX10_isItem_82 rfl ?_
          refine lv_istore_n (lv' := [(3, nV 0), (4, nV i), (2, nV cn), (1, zV ll), (0, .ref mo0)]) C.1 C.2.1 dX10_isItem_83 rfl hl (by decide) rfl (fun ls hl => ?_)
          refine lv_aload_n C.1 C.2.1 dX10_isItem_84 rfl (lv_at hl 4 rfl) ?_
          refine lv_dup C.1 C.2.1 dX10_isItem_85 rfl ?_
          refine r_get C hK hP kw_X10 (ci := 8) rfl 0 2 (by decide) kf_X10_73 rfl rfl dX10_isItem_86 ?_
          refine lv_iload C.1 C.2.1 dX10_isItem_89 (lv_at hl 1 rfl) ?_
          refine r_ine 98 C dX10_isItem_91 rfl (rgN (by omega)) (fun h_27 => ?_) (fun h_27 => ?_)
          rotate_left
          · exact absurd h_27 (by omega)
          refine r_iconst 1 C dX10_isItem_98 rfl ?_
          refine r_addN C dX10_isItem_99 ?_
          refine r_put (v := nV (pl + 1)) C hK hP hD hS kw_X10 tyX10_ok nmX10 (ci := 8) rfl 0 2 (by decide) kf_X10_73 rfl rfl rfl rfl rfl (Nat.le_of_ble_eq_true rfl) dX10_isItem_100 (fun H locs hP hD hS => ?_)
          have hP : va_P g.1 vwCl [(mo0, .inr (8, [nV mL, .ref mA1, nV (pl + 1), .ref mA3, .ref mA4, .ref mA5, .ref mA6, .ref mA7, .ref mA8, .ref mA9, .ref mA10, .ref mA11, .ref mA12, nV kz, nV dn, .ref mA15, .ref mA16, .ref mA17, mV mAb, mV mBe, .ref mA20, zV mCl])), (mA1, cB g 300 mtx), (mA3, cN g 4 mtd), (mA4, cN g 2 mws), (mA5, cN g 32 mwd), (mA6, cN g 2 mcs), (mA7, cN g 20 mca), (mA8, cN g 2 mbs), (mA9, cN g 10 mba), (mA20, cZ g 4 gt)] H := hP
          have hD : va_D A [(mo0, .inr (8, [nV mL, .ref mA1, nV (pl + 1), .ref mA3, .ref mA4, .ref mA5, .ref mA6, .ref mA7, .ref mA8, .ref mA9, .ref mA10, .ref mA11, .ref mA12, nV kz, nV dn, .ref mA15, .ref mA16, .ref mA17, mV mAb, mV mBe, .ref mA20, zV mCl])), (mA1, cB g 300 mtx), (mA3, cN g 4 mtd), (mA4, cN g 2 mws), (mA5, cN g 32 mwd), (mA6, cN g 2 mcs), (mA7, cN g 20 mca), (mA8, cN g 2 mbs), (mA9, cN g 10 mba), (mA20, cZ g 4 gt)] := hD
          refine lv_aload_n C.1 C.2.1 dX10_isItem_103 rfl (lv_at hl 4 rfl) ?_
          refine r_get C hK hP kw_X10 (ci := 8) rfl 0 20 (by decide) kf_X10_54 rfl rfl dX10_isItem_104 ?_
          refine lv_iload C.1 C.2.1 dX10_isItem_107 (lv_at hl 1 rfl) ?_
          refine lv_iload_n C.1 C.2.1 dX10_isItem_109 rfl (lv_at hl 0 rfl) ?_
          refine r_ieq 120 C dX10_isItem_110 rfl (rgN (by decide)) (fun h_28 => ?_) (fun h_28 => ?_)
          rotate_left
          · exact absurd h_28 (by omega)
          refine r_iconstZ C dX10_isItem_120 ?_
          refine r_astZ C hK hP hD hS 9 rfl ⟨by omega, by omega⟩ dX10_isItem_121 (fun H locs hP hD hS => ?_)
          have hP : va_P g.1 vwCl [(mo0, .inr (8, [nV mL, .ref mA1, nV (pl + 1), .ref mA3, .ref mA4, .ref mA5, .ref mA6, .ref mA7, .ref mA8, .ref mA9, .ref mA10, .ref mA11, .ref mA12, nV kz, nV dn, .ref mA15, .ref mA16, .ref mA17, mV mAb, mV mBe, .ref mA20, zV mCl])), (mA1, cB g 300 mtx), (mA3, cN g 4 mtd), (mA4, cN g 2 mws), (mA5, cN g 32 mwd), (mA6, cN g 2 mcs), (mA7, cN g 20 mca), (mA8, cN g 2 mbs), (mA9, cN g 10 mba), (mA20, cZ g 4 (upZ gt i (-1)))] H := hP
          have hD : va_D A [(mo0, .inr (8, [nV mL, .ref mA1, nV (pl + 1), .ref mA3, .ref mA4, .ref mA5, .ref mA6, .ref mA7, .ref mA8, .ref mA9, .ref mA10, .ref mA11, .ref mA12, nV kz, nV dn, .ref mA15, .ref mA16, .ref mA17, mV mAb, mV mBe, .ref mA20, zV mCl])), (mA1, cB g 300 mtx), (mA3, cN g 4 mtd), (mA4, cN g 2 mws), (mA5, cN g 32 mwd), (mA6, cN g 2 mcs), (mA7, cN g 20 mca), (mA8, cN g 2 mbs), (mA9, cN g 10 mba), (mA20, cZ g 4 (upZ gt i (-1)))] := hD
          generalize hgt2 : upZ gt i (-1) = gt2 at hP hD
          have hgi := congrFun hgt2 i
          rw [upZ_s] at hgi
          have hgo : ∀ j, j < i → gt2 j = gt j := fun j hj => by rw [← hgt2]; exact upZ_n (by omega)
          refine lv_aload_n C.1 C.2.1 dX10_isItem_122 rfl (lv_at hl 4 rfl) ?_
          refine r_get C hK hP kw_X10 (ci := 8) rfl 0 20 (by decide) kf_X10_54 rfl rfl dX10_isItem_123 ?_
          refine lv_iload C.1 C.2.1 dX10_isItem_126 (lv_at hl 1 rfl) ?_
          refine r_aldZ C hK hP 9 rfl ⟨by omega, by omega⟩ dX10_isItem_128 ?_
          refine r_ilt 136 C dX10_isItem_129 rfl (⟨by omega, by omega⟩) (fun h_29 => ?_) (fun h_29 => ?_)
          rotate_left
          · exact absurd h_29 (by omega)
          refine r_iconst 0 C dX10_isItem_136 rfl ?_
          refine lv_istore_n (lv' := [(3, nV 0), (4, nV i), (2, nV cn), (1, zV ll), (0, .ref mo0)]) C.1 C.2.1 dX10_isItem_137 rfl hl (by decide) rfl (fun ls hl => ?_)
          refine r_incN (k := 1) (n := 1) [(4, nV (i + 1)), (3, nV 0), (2, nV cn), (1, zV ll), (0, .ref mo0)] C dX10_isItem_138 hl rfl rfl (by decide) rfl (fun ls hl => ?_)
          refine r_goto 38 C dX10_isItem_141 rfl ?_
          exact ih_38 (i + 1) 0 (pl + 1) gt2 _ _ _ (by first | assumption | omega) (by first | assumption | omega) (by first | assumption | omega) (Or.inr ⟨rfl, Or.inr (IS_no hI1 (by omega) (by omega) (fun q => by first | (exfalso; omega) | (intro q2; omega)))⟩) (by first | assumption | omega) (by omega) hP hD hS (lv_sub hl [0, 1, 2, 3, 4] rfl)
        refine lv_aload_n C.1 C.2.1 dX10_isItem_64 rfl (lv_at hl 4 rfl) ?_
        refine r_get C hK hP kw_X10 (ci := 8) rfl 0 1 (by decide) kf_X10_7 rfl rfl dX10_isItem_65 ?_
        refine lv_aload_n C.1 C.2.1 dX10_isItem_68 rfl (lv_at hl 4 rfl) ?_
        refine r_get C hK hP kw_X10 (ci := 8) rfl 0 2 (by decide) kf_X10_73 rfl rfl dX10_isItem_69 ?_
        refine r_aldB C hK hP 1 rfl ⟨by omega, by omega⟩ dX10_isItem_72 ?_
        refine r_top (v' := zV (sbz (mtx pl))) (congrArg Value.int (sb_z _ (hux pl))) ?_
        have hf_30 := sbz_f (mtx pl) (hux pl)
        refine r_bipush 44 C dX10_isItem_73 (by decide) ?_
        refine r_cne 82 C dX10_isItem_75 rfl ⟨⟨by omega, by omega⟩, rgN (by decide)⟩ (fun h_31 => ?_) (fun h_31 => ?_)
        · skip
          refine r_iconst 0 C dX10_isItem_82 rfl ?_
          refine lv_istore_n (lv' := [(3, nV 0), (4, nV i), (2, nV cn), (1, zV ll), (0, .ref mo0)]) C.1 C.2.1 dX10_isItem_83 rfl hl (by decide) rfl (fun ls hl => ?_)
          refine lv_aload_n C.1 C.2.1 dX10_isItem_84 rfl (lv_at hl 4 rfl) ?_
          refine lv_dup C.1 C.2.1 dX10_isItem_85 rfl ?_
          refine r_get C hK hP kw_X10 (ci := 8) rfl 0 2 (by decide) kf_X10_73 rfl rfl dX10_isItem_86 ?_
          refine lv_iload C.1 C.2.1 dX10_isItem_89 (lv_at hl 1 rfl) ?_
          refine r_ine 98 C dX10_isItem_91 rfl (rgN (by omega)) (fun h_32 => ?_) (fun h_32 => ?_)
          rotate_left
          · exact absurd h_32 (by omega)
          refine r_iconst 1 C dX10_isItem_98 rfl ?_
          refine r_addN C dX10_isItem_99 ?_
          refine r_put (v := nV (pl + 1)) C hK hP hD hS kw_X10 tyX10_ok nmX10 (ci := 8) rfl 0 2 (by decide) kf_X10_73 rfl rfl rfl rfl rfl (Nat.le_of_ble_eq_true rfl) dX10_isItem_100 (fun H locs hP hD hS => ?_)
          have hP : va_P g.1 vwCl [(mo0, .inr (8, [nV mL, .ref mA1, nV (pl + 1), .ref mA3, .ref mA4, .ref mA5, .ref mA6, .ref mA7, .ref mA8, .ref mA9, .ref mA10, .ref mA11, .ref mA12, nV kz, nV dn, .ref mA15, .ref mA16, .ref mA17, mV mAb, mV mBe, .ref mA20, zV mCl])), (mA1, cB g 300 mtx), (mA3, cN g 4 mtd), (mA4, cN g 2 mws), (mA5, cN g 32 mwd), (mA6, cN g 2 mcs), (mA7, cN g 20 mca), (mA8, cN g 2 mbs), (mA9, cN g 10 mba), (mA20, cZ g 4 gt)] H := hP
          have hD : va_D A [(mo0, .inr (8, [nV mL, .ref mA1, nV (pl + 1), .ref mA3, .ref mA4, .ref mA5, .ref mA6, .ref mA7, .ref mA8, .ref mA9, .ref mA10, .ref mA11, .ref mA12, nV kz, nV dn, .ref mA15, .ref mA16, .ref mA17, mV mAb, mV mBe, .ref mA20, zV mCl])), (mA1, cB g 300 mtx), (mA3, cN g 4 mtd), (mA4, cN g 2 mws), (mA5, cN g 32 mwd), (mA6, cN g 2 mcs), (mA7, cN g 20 mca), (mA8, cN g 2 mbs), (mA9, cN g 10 mba), (mA20, cZ g 4 gt)] := hD
          refine lv_aload_n C.1 C.2.1 dX10_isItem_103 rfl (lv_at hl 4 rfl) ?_
          refine r_get C hK hP kw_X10 (ci := 8) rfl 0 20 (by decide) kf_X10_54 rfl rfl dX10_isItem_104 ?_
          refine lv_iload C.1 C.2.1 dX10_isItem_107 (lv_at hl 1 rfl) ?_
          refine lv_iload_n C.1 C.2.1 dX10_isItem_109 rfl (lv_at hl 0 rfl) ?_
          refine r_ieq 120 C dX10_isItem_110 rfl (rgN (by decide)) (fun h_33 => ?_) (fun h_33 => ?_)
          rotate_left
          · exact absurd h_33 (by omega)
          refine r_iconstZ C dX10_isItem_120 ?_
          refine r_astZ C hK hP hD hS 9 rfl ⟨by omega, by omega⟩ dX10_isItem_121 (fun H locs hP hD hS => ?_)
          have hP : va_P g.1 vwCl [(mo0, .inr (8, [nV mL, .ref mA1, nV (pl + 1), .ref mA3, .ref mA4, .ref mA5, .ref mA6, .ref mA7, .ref mA8, .ref mA9, .ref mA10, .ref mA11, .ref mA12, nV kz, nV dn, .ref mA15, .ref mA16, .ref mA17, mV mAb, mV mBe, .ref mA20, zV mCl])), (mA1, cB g 300 mtx), (mA3, cN g 4 mtd), (mA4, cN g 2 mws), (mA5, cN g 32 mwd), (mA6, cN g 2 mcs), (mA7, cN g 20 mca), (mA8, cN g 2 mbs), (mA9, cN g 10 mba), (mA20, cZ g 4 (upZ gt i (-1)))] H := hP
          have hD : va_D A [(mo0, .inr (8, [nV mL, .ref mA1, nV (pl + 1), .ref mA3, .ref mA4, .ref mA5, .ref mA6, .ref mA7, .ref mA8, .ref mA9, .ref mA10, .ref mA11, .ref mA12, nV kz, nV dn, .ref mA15, .ref mA16, .ref mA17, mV mAb, mV mBe, .ref mA20, zV mCl])), (mA1, cB g 300 mtx), (mA3, cN g 4 mtd), (mA4, cN g 2 mws), (mA5, cN g 32 mwd), (mA6, cN g 2 mcs), (mA7, cN g 20 mca), (mA8, cN g 2 mbs), (mA9, cN g 10 mba), (mA20, cZ g 4 (upZ gt i (-1)))] := hD
          generalize hgt2 : upZ gt i (-1) = gt2 at hP hD
          have hgi := congrFun hgt2 i
          rw [upZ_s] at hgi
          have hgo : ∀ j, j < i → gt2 j = gt j := fun j hj => by rw [← hgt2]; exact upZ_n (by omega)
          refine lv_aload_n C.1 C.2.1 dX10_isItem_122 rfl (lv_at hl 4 rfl) ?_
          refine r_get C hK hP kw_X10 (ci := 8) rfl 0 20 (by decide) kf_X10_54 rfl rfl dX10_isItem_123 ?_
          refine lv_iload C.1 C.2.1 dX10_isItem_126 (lv_at hl 1 rfl) ?_
          refine r_aldZ C hK hP 9 rfl ⟨by omega, by omega⟩ dX10_isItem_128 ?_
          refine r_ilt 136 C dX10_isItem_129 rfl (⟨by omega, by omega⟩) (fun h_34 => ?_) (fun h_34 => ?_)
          rotate_left
          · exact absurd h_34 (by omega)
          refine r_iconst 0 C dX10_isItem_136 rfl ?_
          refine lv_istore_n (lv' := [(3, nV 0), (4, nV i), (2, nV cn), (1, zV ll), (0, .ref mo0)]) C.1 C.2.1 dX10_isItem_137 rfl hl (by decide) rfl (fun ls hl => ?_)
          refine r_incN (k := 1) (n := 1) [(4, nV (i + 1)), (3, nV 0), (2, nV cn), (1, zV ll), (0, .ref mo0)] C dX10_isItem_138 hl rfl rfl (by decide) rfl (fun ls hl => ?_)
          refine r_goto 38 C dX10_isItem_141 rfl ?_
          exact ih_38 (i + 1) 0 (pl + 1) gt2 _ _ _ (by first | assumption | omega) (by first | assumption | omega) (by first | assumption | omega) (Or.inr ⟨rfl, Or.inr (IS_no hI1 (by omega) (by omega) (fun q => by first | (exfalso; omega) | (intro q2; omega)))⟩) (by first | assumption | omega) (by omega) hP hD hS (lv_sub hl [0, 1, 2, 3, 4] rfl)
        refine r_iconst 1 C dX10_isItem_78 rfl ?_
        refine r_goto 83 C dX10_isItem_79 rfl ?_
        refine lv_istore_n (lv' := [(3, nV 1), (4, nV i), (2, nV cn), (1, zV ll), (0, .ref mo0)]) C.1 C.2.1 dX10_isItem_83 rfl hl (by decide) rfl (fun ls hl => ?_)
        refine lv_aload_n C.1 C.2.1 dX10_isItem_84 rfl (lv_at hl 4 rfl) ?_
        refine lv_dup C.1 C.2.1 dX10_isItem_85 rfl ?_
        refine r_get C hK hP kw_X10 (ci := 8) rfl 0 2 (by decide) kf_X10_73 rfl rfl dX10_isItem_86 ?_
        refine lv_iload C.1 C.2.1 dX10_isItem_89 (lv_at hl 1 rfl) ?_
        refine r_ine 98 C dX10_isItem_91 rfl (rgN (by omega)) (fun h_35 => ?_) (fun h_35 => ?_)
        rotate_left
        · exact absurd h_35 (by omega)
        refine r_iconst 1 C dX10_isItem_98 rfl ?_
        refine r_addN C dX10_isItem_99 ?_
        refine r_put (v := nV (pl + 1)) C hK hP hD hS kw_X10 tyX10_ok nmX10 (ci := 8) rfl 0 2 (by decide) kf_X10_73 rfl rfl rfl rfl rfl (Nat.le_of_ble_eq_true rfl) dX10_isItem_100 (fun H locs hP hD hS => ?_)
        have hP : va_P g.1 vwCl [(mo0, .inr (8, [nV mL, .ref mA1, nV (pl + 1), .ref mA3, .ref mA4, .ref mA5, .ref mA6, .ref mA7, .ref mA8, .ref mA9, .ref mA10, .ref mA11, .ref mA12, nV kz, nV dn, .ref mA15, .ref mA16, .ref mA17, mV mAb, mV mBe, .ref mA20, zV mCl])), (mA1, cB g 300 mtx), (mA3, cN g 4 mtd), (mA4, cN g 2 mws), (mA5, cN g 32 mwd), (mA6, cN g 2 mcs), (mA7, cN g 20 mca), (mA8, cN g 2 mbs), (mA9, cN g 10 mba), (mA20, cZ g 4 gt)] H := hP
        have hD : va_D A [(mo0, .inr (8, [nV mL, .ref mA1, nV (pl + 1), .ref mA3, .ref mA4, .ref mA5, .ref mA6, .ref mA7, .ref mA8, .ref mA9, .ref mA10, .ref mA11, .ref mA12, nV kz, nV dn, .ref mA15, .ref mA16, .ref mA17, mV mAb, mV mBe, .ref mA20, zV mCl])), (mA1, cB g 300 mtx), (mA3, cN g 4 mtd), (mA4, cN g 2 mws), (mA5, cN g 32 mwd), (mA6, cN g 2 mcs), (mA7, cN g 20 mca), (mA8, cN g 2 mbs), (mA9, cN g 10 mba), (mA20, cZ g 4 gt)] := hD
        refine lv_aload_n C.1 C.2.1 dX10_isItem_103 rfl (lv_at hl 4 rfl) ?_
        refine r_get C hK hP kw_X10 (ci := 8) rfl 0 20 (by decide) kf_X10_54 rfl rfl dX10_isItem_104 ?_
        refine lv_iload C.1 C.2.1 dX10_isItem_107 (lv_at hl 1 rfl) ?_
        refine lv_iload_n C.1 C.2.1 dX10_isItem_109 rfl (lv_at hl 0 rfl) ?_
        refine r_ieq 120 C dX10_isItem_110 rfl (rgN (by decide)) (fun h_36 => ?_) (fun h_36 => ?_)
        · exact absurd h_36 (by omega)
        refine lv_aload_n C.1 C.2.1 dX10_isItem_113 rfl (lv_at hl 4 rfl) ?_
        refine wr_callV (As := []) (rest := [nV i, .ref mA20]) C hK (c_X10_number l g mo0 mA1 mA3 mA4 mA5 mA6 mA7 mA8 mA9 mA10 mA11 mA12 mA15 mA16 mA17 mA20 mL (pl + 1) kz dn mAb mBe mCl mtx (by first | assumption | omega) (by first | assumption | omega) (by first | assumption | omega)) [0, 1] rfl (fun _ => rfl) (by decide) hP hD hS hA (ci := 8) (q0 := 0) rfl rfl kc_X10_number kl_X10_86 kn_X10 ki_X10_number ke_X10_number nk_X10_number (rm_lt (by decide) (by decide)) hl rfl (Nat.le_of_ble_eq_true rfl) dX10_isItem_114 (fun r_37 at1_a H locs hr_38 hP hD hS => ?_)
        have hP : va_P g.1 vwCl [(mo0, .inr (8, [nV mL, .ref mA1, nV at1_a, .ref mA3, .ref mA4, .ref mA5, .ref mA6, .ref mA7, .ref mA8, .ref mA9, .ref mA10, .ref mA11, .ref mA12, nV kz, nV dn, .ref mA15, .ref mA16, .ref mA17, mV mAb, mV mBe, .ref mA20, zV mCl])), (mA1, cB g 300 mtx), (mA3, cN g 4 mtd), (mA4, cN g 2 mws), (mA5, cN g 32 mwd), (mA6, cN g 2 mcs), (mA7, cN g 20 mca), (mA8, cN g 2 mbs), (mA9, cN g 10 mba), (mA20, cZ g 4 gt)] H := hP
        have hD : va_D A [(mo0, .inr (8, [nV mL, .ref mA1, nV at1_a, .ref mA3, .ref mA4, .ref mA5, .ref mA6, .ref mA7, .ref mA8, .ref mA9, .ref mA10, .ref mA11, .ref mA12, nV kz, nV dn, .ref mA15, .ref mA16, .ref mA17, mV mAb, mV mBe, .ref mA20, zV mCl])), (mA1, cB g 300 mtx), (mA3, cN g 4 mtd), (mA4, cN g 2 mws), (mA5, cN g 32 mwd), (mA6, cN g 2 mcs), (mA7, cN g 20 mca), (mA8, cN g 2 mbs), (mA9, cN g 10 mba), (mA20, cZ g 4 gt)] := hD
        try dsimp only at hr_38
        obtain ⟨hxr_37, hr_38⟩ := hr_38
        subst hxr_37
        have hnm := hr_38
        have hf_39 := nmI_bd mtx (mL) ((pl + 1))
        refine r_goto 121 C dX10_isItem_117 rfl ?_
        refine r_astZ C hK hP hD hS 9 rfl ⟨by omega, by omega⟩ dX10_isItem_121 (fun H locs hP hD hS => ?_)
        have hP : va_P g.1 vwCl [(mo0, .inr (8, [nV mL, .ref mA1, nV at1_a, .ref mA3, .ref mA4, .ref mA5, .ref mA6, .ref mA7, .ref mA8, .ref mA9, .ref mA10, .ref mA11, .ref mA12, nV kz, nV dn, .ref mA15, .ref mA16, .ref mA17, mV mAb, mV mBe, .ref mA20, zV mCl])), (mA1, cB g 300 mtx), (mA3, cN g 4 mtd), (mA4, cN g 2 mws), (mA5, cN g 32 mwd), (mA6, cN g 2 mcs), (mA7, cN g 20 mca), (mA8, cN g 2 mbs), (mA9, cN g 10 mba), (mA20, cZ g 4 (upZ gt i (nmI mtx mL (pl + 1))))] H := hP
        have hD : va_D A [(mo0, .inr (8, [nV mL, .ref mA1, nV at1_a, .ref mA3, .ref mA4, .ref mA5, .ref mA6, .ref mA7, .ref mA8, .ref mA9, .ref mA10, .ref mA11, .ref mA12, nV kz, nV dn, .ref mA15, .ref mA16, .ref mA17, mV mAb, mV mBe, .ref mA20, zV mCl])), (mA1, cB g 300 mtx), (mA3, cN g 4 mtd), (mA4, cN g 2 mws), (mA5, cN g 32 mwd), (mA6, cN g 2 mcs), (mA7, cN g 20 mca), (mA8, cN g 2 mbs), (mA9, cN g 10 mba), (mA20, cZ g 4 (upZ gt i (nmI mtx mL (pl + 1))))] := hD
        generalize hgt2 : upZ gt i (nmI mtx mL (pl + 1)) = gt2 at hP hD
        have hgi := congrFun hgt2 i
        rw [upZ_s] at hgi
        have hgo : ∀ j, j < i → gt2 j = gt j := fun j hj => by rw [← hgt2]; exact upZ_n (by omega)
        refine lv_aload_n C.1 C.2.1 dX10_isItem_122 rfl (lv_at hl 4 rfl) ?_
        refine r_get C hK hP kw_X10 (ci := 8) rfl 0 20 (by decide) kf_X10_54 rfl rfl dX10_isItem_123 ?_
        refine lv_iload C.1 C.2.1 dX10_isItem_126 (lv_at hl 1 rfl) ?_
        refine r_aldZ C hK hP 9 rfl ⟨by omega, by omega⟩ dX10_isItem_128 ?_
        refine r_ilt 136 C dX10_isItem_129 rfl (⟨by omega, by omega⟩) (fun h_40 => ?_) (fun h_40 => ?_)
        · skip
          refine r_iconst 0 C dX10_isItem_136 rfl ?_
          refine lv_istore_n (lv' := [(3, nV 0), (4, nV i), (2, nV cn), (1, zV ll), (0, .ref mo0)]) C.1 C.2.1 dX10_isItem_137 rfl hl (by decide) rfl (fun ls hl => ?_)
          refine r_incN (k := 1) (n := 1) [(4, nV (i + 1)), (3, nV 0), (2, nV cn), (1, zV ll), (0, .ref mo0)] C dX10_isItem_138 hl rfl rfl (by decide) rfl (fun ls hl => ?_)
          refine r_goto 38 C dX10_isItem_141 rfl ?_
          exact ih_38 (i + 1) 0 at1_a gt2 _ _ _ (by first | assumption | omega) (by first | assumption | omega) (by first | assumption | omega) (by obtain ⟨nz, hr0, hg0⟩ := IS_go hI1 (by omega) (by omega) (by omega) (by omega); have hnu := IS_num (pl := at1_a) (gt := gt2) (show i < cn by omega) hr0 (fun j hj => (hgo j hj).trans (hg0 j hj)) hgi.symm; exact hnu.2 (by omega)) (by first | assumption | omega) (by omega) hP hD hS (lv_sub hl [0, 1, 2, 3, 4] rfl)
        refine r_iconst 1 C dX10_isItem_132 rfl ?_
        refine r_goto 137 C dX10_isItem_133 rfl ?_
        refine lv_istore_n (lv' := [(3, nV 1), (4, nV i), (2, nV cn), (1, zV ll), (0, .ref mo0)]) C.1 C.2.1 dX10_isItem_137 rfl hl (by decide) rfl (fun ls hl => ?_)
        refine r_incN (k := 1) (n := 1) [(4, nV (i + 1)), (3, nV 1), (2, nV cn), (1, zV ll), (0, .ref mo0)] C dX10_isItem_138 hl rfl rfl (by decide) rfl (fun ls hl => ?_)
        refine r_goto 38 C dX10_isItem_141 rfl ?_
        exact ih_38 (i + 1) 1 at1_a gt2 _ _ _ (by first | assumption | omega) (by first | assumption | omega) (by first | assumption | omega) (by obtain ⟨nz, hr0, hg0⟩ := IS_go hI1 (by omega) (by omega) (by omega) (by omega); have hnu := IS_num (pl := at1_a) (gt := gt2) (show i < cn by omega) hr0 (fun j hj => (hgo j hj).trans (hg0 j hj)) hgi.symm; exact hnu.1 (by omega) (hnm.1 (by omega))) (by first | assumption | omega) (by omega) hP hD hS (lv_sub hl [0, 1, 2, 3, 4] rfl)
    exact L38 (cn - 0 + 1) 0 z0 (mAt + 1) mgt _ _ _ (by first | assumption | omega) (by first | assumption | omega) (by first | assumption | omega) (by rcases hz0 with q | q; (rw [q.1]; exact Or.inl ⟨rfl, Or.inl ⟨rfl, rfl⟩⟩); (rw [q.1]; exact Or.inr ⟨rfl, Or.inl q.2⟩)) (by first | assumption | omega) (Nat.lt_succ_self _) hP hD hS (lv_sub hl [0, 1, 2, 3, 4] rfl)
  refine r_ile 33 C dX10_isItem_26 rfl (rgN (by omega)) (fun h_41 => ?_) (fun h_41 => ?_)
  · skip
    refine r_iconst 0 C dX10_isItem_33 rfl ?_
    exact J34 0 _ _ _ (by first | assumption | omega) hP hD hS (lv_sub hl [0, 1, 2] rfl)
  refine r_iconst 1 C dX10_isItem_29 rfl ?_
  refine r_goto 34 C dX10_isItem_30 rfl ?_
  exact J34 1 _ _ _ (by first | assumption | omega) hP hD hS (lv_sub hl [0, 1, 2] rfl)
