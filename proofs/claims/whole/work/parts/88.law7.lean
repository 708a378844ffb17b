theorem cod_eq {bi mo K x2 x3 : Nat} {c1 b1 : Nat → Nat} {z4 : Int} (hq : (1 ≤ ((K : Nat) : Int) ∧ ((K : Nat) : Int) ≤ 3) ∧ ((0 ≤ ((x2 : Nat) : Int) ∧ ((x2 : Nat) : Int) ≤ 20) ∧ (0 ≤ ((x3 : Nat) : Int) ∧ ((x3 : Nat) : Int) ≤ 3)) ∧ (-1 ≤ z4 ∧ z4 ≤ ((K : Nat) : Int) - 1)) : iI (sCodC bi mo c1 b1 ((K : Nat) : Int) ((x2 : Nat) : Int) ((x3 : Nat) : Int) z4) = iI (if (mnS (fun y1 t => rc bi mo y1 x3 t (x2 + 1)) K).1 < 0 ∨ z4 < 0 then (mnS (fun y1 t => rc bi mo y1 x3 t (x2 + 1)) K).1 else (((mnS (fun y1 t => rc bi mo y1 x3 t (x2 + 1)) K).2 z4.toNat : Nat) : Int)) := by
  rw [sCod_C]; unfold sCod; rw [if_pos hq]; simp only [Int.toNat_natCast]
set_option maxHeartbeats 4000000 in
set_option maxRecDepth 100000 in
theorem lw_16 {p : Program} {l : Launch} {e : Env} {s : State} {m : MethodId} {below : List Frame} {meth : Method} {c : Code} {Q : State → Prop} {b : Nat} {L : Nat} {xs : Nat → Int32} {A : Nat → Prop} {g : GG} {x0 : Nat} {t : Nat} {t0 : Nat} {rd0 : Nat} {rd1 : Nat} {q : Nat} {q0 : Nat} {us : Nat} {ur0 : Nat} {ks : Nat} {kr0 : Nat} {rc0 : Nat} {rl0 : Nat} {rh0 : Nat} {se : Nat} {ca : Nat} {ba : Nat} {mo0 : Nat} {mA1 : Nat} {mA3 : Nat} {mA4 : Nat} {mA5 : Nat} {mA6 : Nat} {mA7 : Nat} {mA8 : Nat} {mA9 : Nat} {mA10 : Nat} {mA11 : Nat} {mA12 : Nat} {mA15 : Nat} {mA16 : Nat} {mA17 : Nat} {mA20 : Nat} (hC : LWC p l e s m below meth c Q b L xs A g x0 t t0 rd0 rd1 q q0 us ur0 ks kr0 rc0 rl0 rh0 se ca ba mo0 mA1 mA3 mA4 mA5 mA6 mA7 mA8 mA9 mA10 mA11 mA12 mA15 mA16 mA17 mA20) {v : Nat} {v0 : Nat} {v1 : Nat} {v2 : Nat} {v3 : Nat} {v4 : Nat} {vd : Nat} {d0 : Nat} {d1 : Nat} {d2 : Nat} {d3 : Nat} {d4 : Nat} {Lt : Nat} {u : Nat → Nat} {pl : Nat} {nu : Nat → Nat} {ce : Nat → Nat} {uz : Nat} {ur : Nat → Nat} {kz : Nat} {kr : Nat → Nat} {lw : Nat → Nat} {hg : Nat → Nat} {wt : Nat} {le : Nat} {c1 : Nat → Nat} {b1 : Nat → Nat} {sg : Nat → Nat} {wo : Nat → Nat} {hu : Nat → Nat} {mi : Nat → Nat} {kn : Nat → Nat} {k : Nat} {nc : Nat} {nb : Nat} {bi : Nat} {mo : Nat} {dsg : Nat → Nat} {dwo : Nat → Nat} {dhu : Nat → Nat} {dmi : Nat → Nat} {dkn : Nat → Nat} {dk : Nat} {dnc : Nat} {dnb : Nat} {dbi : Nat} {dmo : Nat} {mAt : Nat} {mtd : Nat → Nat} {mws : Nat → Nat} {mwd : Nat → Nat} {mcs : Nat → Nat} {mca : Nat → Nat} {mbs : Nat → Nat} {mba : Nat → Nat} {mlv : Nat → Nat} {mlf : Nat → Nat} {mfl : Nat → Int} {mdi : Nat → Nat} {mre : Nat → Bool} {mbe : Nat → Int} {mgt : Nat → Int} {mAb : Nat} {mBe : Nat} {mCl : Int} {n : Nat} {H : Heap} {locs : List Loc} {ls : Array Slot} (hn : 6 * n + 6 ≤ L) (hR : REL n sg wo hu mi kn k nc nb bi mo Lt u dsg dwo dhu dmi dkn ce uz ur kz kr c1 mtd mws mwd mcs mca mbs mba mlv mlf mfl mdi) (hP : va_P g.1 vwCl [(x0, .inr (7, [.ref t, .ref rd0, .ref q, .ref us, .ref ks, .ref rc0, .ref se, .ref v, .ref vd])), (t, .inr (5, [.ref t0, nV Lt])), (t0, cB g 300 u), (rd0, .inr (3, [.ref rd1, nV pl])), (rd1, cN g 4 nu), (q, .inr (1, [.ref q0])), (q0, cN g 42 ce), (us, .inr (4, [nV 8, .ref ur0, nV uz])), (ur0, cN g 336 ur), (ks, .inr (4, [nV 2, .ref kr0, nV kz])), (kr0, cN g 84 kr), (rc0, .inr (2, [.ref rl0, .ref rh0])), (rl0, cM g 72 lw), (rh0, cM g 72 hg), (se, .inr (0, [.ref rc0, .ref ca, .ref ba, nV wt, nV le])), (ca, cN g 3 c1), (ba, cN g 3 b1), (v, .inr (6, [.ref v0, .ref v1, .ref v2, .ref v3, .ref v4, nV k, nV nc, nV nb, nV bi, nV mo])), (v0, cN g 8 sg), (v1, cN g 8 wo), (v2, cN g 5 hu), (v3, cN g 5 mi), (v4, cN g 5 kn), (vd, .inr (6, [.ref d0, .ref d1, .ref d2, .ref d3, .ref d4, nV dk, nV dnc, nV dnb, nV dbi, nV dmo])), (d0, cN g 8 dsg), (d1, cN g 8 dwo), (d2, cN g 5 dhu), (d3, cN g 5 dmi), (d4, cN g 5 dkn), (mo0, .inr (8, [nV Lt, .ref mA1, nV mAt, .ref mA3, .ref mA4, .ref mA5, .ref mA6, .ref mA7, .ref mA8, .ref mA9, .ref mA10, .ref mA11, .ref mA12, nV kz, nV uz, .ref mA15, .ref mA16, .ref mA17, mV mAb, mV mBe, .ref mA20, zV mCl])), (mA1, cB g 300 u), (mA3, cN g 4 mtd), (mA4, cN g 2 mws), (mA5, cN g 32 mwd), (mA6, cN g 2 mcs), (mA7, cN g 20 mca), (mA8, cN g 2 mbs), (mA9, cN g 10 mba), (mA10, cN g 3 mlv), (mA11, cN g 96 mlf), (mA12, cZ g 3 mfl), (mA15, cN g 48 mdi), (mA16, cO g 5184 mre), (mA17, cZ g 3 mbe), (mA20, cZ g 4 mgt)] H) (hD : va_D A [(x0, .inr (7, [.ref t, .ref rd0, .ref q, .ref us, .ref ks, .ref rc0, .ref se, .ref v, .ref vd])), (t, .inr (5, [.ref t0, nV Lt])), (t0, cB g 300 u), (rd0, .inr (3, [.ref rd1, nV pl])), (rd1, cN g 4 nu), (q, .inr (1, [.ref q0])), (q0, cN g 42 ce), (us, .inr (4, [nV 8, .ref ur0, nV uz])), (ur0, cN g 336 ur), (ks, .inr (4, [nV 2, .ref kr0, nV kz])), (kr0, cN g 84 kr), (rc0, .inr (2, [.ref rl0, .ref rh0])), (rl0, cM g 72 lw), (rh0, cM g 72 hg), (se, .inr (0, [.ref rc0, .ref ca, .ref ba, nV wt, nV le])), (ca, cN g 3 c1), (ba, cN g 3 b1), (v, .inr (6, [.ref v0, .ref v1, .ref v2, .ref v3, .ref v4, nV k, nV nc, nV nb, nV bi, nV mo])), (v0, cN g 8 sg), (v1, cN g 8 wo), (v2, cN g 5 hu), (v3, cN g 5 mi), (v4, cN g 5 kn), (vd, .inr (6, [.ref d0, .ref d1, .ref d2, .ref d3, .ref d4, nV dk, nV dnc, nV dnb, nV dbi, nV dmo])), (d0, cN g 8 dsg), (d1, cN g 8 dwo), (d2, cN g 5 dhu), (d3, cN g 5 dmi), (d4, cN g 5 dkn), (mo0, .inr (8, [nV Lt, .ref mA1, nV mAt, .ref mA3, .ref mA4, .ref mA5, .ref mA6, .ref mA7, .ref mA8, .ref mA9, .ref mA10, .ref mA11, .ref mA12, nV kz, nV uz, .ref mA15, .ref mA16, .ref mA17, mV mAb, mV mBe, .ref mA20, zV mCl])), (mA1, cB g 300 u), (mA3, cN g 4 mtd), (mA4, cN g 2 mws), (mA5, cN g 32 mwd), (mA6, cN g 2 mcs), (mA7, cN g 20 mca), (mA8, cN g 2 mbs), (mA9, cN g 10 mba), (mA10, cN g 3 mlv), (mA11, cN g 96 mlf), (mA12, cZ g 3 mfl), (mA15, cN g 48 mdi), (mA16, cO g 5184 mre), (mA17, cZ g 3 mbe), (mA20, cZ g 4 mgt)]) (hS : va_S A s.heap H locs) (hl : lv_has ls 4 [(0, .ref b), (1, .ref x0), (2, .ref mo0), (3, nV (6 * n))]) (kk : LWK p l e s m below meth c Q b L xs A g x0 t t0 rd0 rd1 q q0 us ur0 ks kr0 rc0 rl0 rh0 se ca ba mo0 mA1 mA3 mA4 mA5 mA6 mA7 mA8 mA9 mA10 mA11 mA12 mA15 mA16 mA17 mA20 n) : W p l e room_1 s m #[Value.ref b] below meth c H locs 600000 7302250 Q (F0 m 650 ls []) := by
  obtain ⟨C, hK, hX, hbl, hbA, hA, hL⟩ := hC
  have hf := REL_f hR
  obtain ⟨hk, hk1, hsg, hwo, hhu, hmi, hkn, hnc, hnb, hbm, hb0, hb1, hk0, hwd, hwv, hc0, hch, hcm, hn0, hba, hux, hLt, hdsg, hdwo, hdhu, hdmi, hdkn, huz, hkz, hlo, h40, hbk, hl0, hf0, hlf, hBB, hc⟩ := hf
  obtain ⟨z1, hz1, rz1⟩ := scr_z (xs ((6 * n) + 1))
  obtain ⟨z2, hz2, rz2⟩ := scr_z (xs ((6 * n) + 2))
  obtain ⟨z3, hz3, rz3⟩ := scr_z (xs ((6 * n) + 3))
  obtain ⟨z4, hz4, rz4⟩ := scr_z (xs ((6 * n) + 4))
  by_cases hq : (1 ≤ z1 ∧ z1 ≤ 3) ∧ ((0 ≤ z2 ∧ z2 ≤ 20) ∧ (0 ≤ z3 ∧ z3 ≤ 3)) ∧ (-1 ≤ z4 ∧ z4 ≤ z1 - 1)
  · obtain ⟨x2, rfl⟩ : ∃ n : Nat, z2 = (n : Int) := ⟨z2.toNat, by omega⟩
    obtain ⟨x3, rfl⟩ : ∃ n : Nat, z3 = (n : Int) := ⟨z3.toNat, by omega⟩
    obtain hk3 | hk3 | hk3 : z1 = ((1 : Nat) : Int) ∨ z1 = ((2 : Nat) : Int) ∨ z1 = ((3 : Nat) : Int) := by omega
    · subst hk3
      refine lv_aload_n C.1 C.2.1 dL_law_650 rfl (lv_at hl 1 rfl) ?_
      refine lv_aload_n C.1 C.2.1 dL_law_651 rfl (lv_at hl 0 rfl) ?_
      refine lv_iload_n C.1 C.2.1 dL_law_652 rfl (lv_at hl 3 rfl) ?_
      refine r_iconst 1 C dL_law_653 rfl ?_
      refine r_addN C dL_law_654 ?_
      refine r_sld C hX hbl hbA hS (by omega) hL hz1 dL_law_655 ?_
      refine lv_aload_n C.1 C.2.1 dL_law_656 rfl (lv_at hl 0 rfl) ?_
      refine lv_iload_n C.1 C.2.1 dL_law_657 rfl (lv_at hl 3 rfl) ?_
      refine r_iconst 2 C dL_law_658 rfl ?_
      refine r_addN C dL_law_659 ?_
      refine r_sld C hX hbl hbA hS (by omega) hL hz2 dL_law_660 ?_
      refine lv_aload_n C.1 C.2.1 dL_law_661 rfl (lv_at hl 0 rfl) ?_
      refine lv_iload_n C.1 C.2.1 dL_law_662 rfl (lv_at hl 3 rfl) ?_
      refine r_iconst 3 C dL_law_663 rfl ?_
      refine r_addN C dL_law_664 ?_
      refine r_sld C hX hbl hbA hS (by omega) hL hz3 dL_law_665 ?_
      refine lv_aload_n C.1 C.2.1 dL_law_666 rfl (lv_at hl 0 rfl) ?_
      refine lv_iload_n C.1 C.2.1 dL_law_667 rfl (lv_at hl 3 rfl) ?_
      refine r_iconst 4 C dL_law_668 rfl ?_
      refine r_addN C dL_law_669 ?_
      refine r_sld C hX hbl hbA hS (by omega) hL hz4 dL_law_670 ?_
      refine wr_callV (As := [nV 1, nV x2, nV x3, zV z4]) (rest := []) C hK (c_X9_code l g x0 t rd0 q us ks rc0 se v vd ca ba wt le c1 b1 rl0 rh0 lw hg v0 v1 v2 v3 v4 k nc nb bi mo ((1 : Nat) : Int) ((x2 : Nat) : Int) ((x3 : Nat) : Int) z4 (by first | assumption | omega) (by first | assumption | omega) (by first | assumption | exact ⟨by omega, by omega⟩) (by first | assumption | exact ⟨by omega, by omega⟩) (by first | assumption | exact ⟨by omega, by omega⟩) (by first | assumption | exact ⟨by omega, by omega⟩)) [0, 14, 15, 16, 11, 12, 13, 17] rfl (fun _ => rfl) (by decide) hP hD hS hA (ci := 7) (q0 := 0) rfl rfl kc_X9_code kl_L_85 kn_X9 ki_X9_code ke_X9_code nk_X9_code ⟨Nat.le_of_ble_eq_true rfl, Nat.le_of_ble_eq_true rfl, Nat.le_of_ble_eq_true rfl, Nat.le_of_ble_eq_true rfl⟩ hl rfl (Nat.le_of_ble_eq_true rfl) dL_law_671 (fun r_1 u_3 H locs hr_2 hP hD hS => ?_)
      obtain ⟨wt1, le1, ca1, ba1, lw1, hg1⟩ := u_3
      have hP : va_P g.1 vwCl [(x0, .inr (7, [.ref t, .ref rd0, .ref q, .ref us, .ref ks, .ref rc0, .ref se, .ref v, .ref vd])), (t, .inr (5, [.ref t0, nV Lt])), (t0, cB g 300 u), (rd0, .inr (3, [.ref rd1, nV pl])), (rd1, cN g 4 nu), (q, .inr (1, [.ref q0])), (q0, cN g 42 ce), (us, .inr (4, [nV 8, .ref ur0, nV uz])), (ur0, cN g 336 ur), (ks, .inr (4, [nV 2, .ref kr0, nV kz])), (kr0, cN g 84 kr), (rc0, .inr (2, [.ref rl0, .ref rh0])), (rl0, cM g 72 lw1), (rh0, cM g 72 hg1), (se, .inr (0, [.ref rc0, .ref ca, .ref ba, nV wt1, nV le1])), (ca, cN g 3 ca1), (ba, cN g 3 ba1), (v, .inr (6, [.ref v0, .ref v1, .ref v2, .ref v3, .ref v4, nV k, nV nc, nV nb, nV bi, nV mo])), (v0, cN g 8 sg), (v1, cN g 8 wo), (v2, cN g 5 hu), (v3, cN g 5 mi), (v4, cN g 5 kn), (vd, .inr (6, [.ref d0, .ref d1, .ref d2, .ref d3, .ref d4, nV dk, nV dnc, nV dnb, nV dbi, nV dmo])), (d0, cN g 8 dsg), (d1, cN g 8 dwo), (d2, cN g 5 dhu), (d3, cN g 5 dmi), (d4, cN g 5 dkn), (mo0, .inr (8, [nV Lt, .ref mA1, nV mAt, .ref mA3, .ref mA4, .ref mA5, .ref mA6, .ref mA7, .ref mA8, .ref mA9, .ref mA10, .ref mA11, .ref mA12, nV kz, nV uz, .ref mA15, .ref mA16, .ref mA17, mV mAb, mV mBe, .ref mA20, zV mCl])), (mA1, cB g 300 u), (mA3, cN g 4 mtd), (mA4, cN g 2 mws), (mA5, cN g 32 mwd), (mA6, cN g 2 mcs), (mA7, cN g 20 mca), (mA8, cN g 2 mbs), (mA9, cN g 10 mba), (mA10, cN g 3 mlv), (mA11, cN g 96 mlf), (mA12, cZ g 3 mfl), (mA15, cN g 48 mdi), (mA16, cO g 5184 mre), (mA17, cZ g 3 mbe), (mA20, cZ g 4 mgt)] H := hP
      have hD : va_D A [(x0, .inr (7, [.ref t, .ref rd0, .ref q, .ref us, .ref ks, .ref rc0, .ref se, .ref v, .ref vd])), (t, .inr (5, [.ref t0, nV Lt])), (t0, cB g 300 u), (rd0, .inr (3, [.ref rd1, nV pl])), (rd1, cN g 4 nu), (q, .inr (1, [.ref q0])), (q0, cN g 42 ce), (us, .inr (4, [nV 8, .ref ur0, nV uz])), (ur0, cN g 336 ur), (ks, .inr (4, [nV 2, .ref kr0, nV kz])), (kr0, cN g 84 kr), (rc0, .inr (2, [.ref rl0, .ref rh0])), (rl0, cM g 72 lw1), (rh0, cM g 72 hg1), (se, .inr (0, [.ref rc0, .ref ca, .ref ba, nV wt1, nV le1])), (ca, cN g 3 ca1), (ba, cN g 3 ba1), (v, .inr (6, [.ref v0, .ref v1, .ref v2, .ref v3, .ref v4, nV k, nV nc, nV nb, nV bi, nV mo])), (v0, cN g 8 sg), (v1, cN g 8 wo), (v2, cN g 5 hu), (v3, cN g 5 mi), (v4, cN g 5 kn), (vd, .inr (6, [.ref d0, .ref d1, .ref d2, .ref d3, .ref d4, nV dk, nV dnc, nV dnb, nV dbi, nV dmo])), (d0, cN g 8 dsg), (d1, cN g 8 dwo), (d2, cN g 5 dhu), (d3, cN g 5 dmi), (d4, cN g 5 dkn), (mo0, .inr (8, [nV Lt, .ref mA1, nV mAt, .ref mA3, .ref mA4, .ref mA5, .ref mA6, .ref mA7, .ref mA8, .ref mA9, .ref mA10, .ref mA11, .ref mA12, nV kz, nV uz, .ref mA15, .ref mA16, .ref mA17, mV mAb, mV mBe, .ref mA20, zV mCl])), (mA1, cB g 300 u), (mA3, cN g 4 mtd), (mA4, cN g 2 mws), (mA5, cN g 32 mwd), (mA6, cN g 2 mcs), (mA7, cN g 20 mca), (mA8, cN g 2 mbs), (mA9, cN g 10 mba), (mA10, cN g 3 mlv), (mA11, cN g 96 mlf), (mA12, cZ g 3 mfl), (mA15, cN g 48 mdi), (mA16, cO g 5184 mre), (mA17, cZ g 3 mbe), (mA20, cZ g 4 mgt)] := hD
      try dsimp only at hr_2
      obtain ⟨hxr_1, hr_2⟩ := hr_2
      subst hxr_1
      have hca := hr_2
      refine lv_aload_n C.1 C.2.1 dL_law_674 rfl (lv_at hl 2 rfl) ?_
      refine lv_aload_n C.1 C.2.1 dL_law_675 rfl (lv_at hl 0 rfl) ?_
      refine lv_iload_n C.1 C.2.1 dL_law_676 rfl (lv_at hl 3 rfl) ?_
      refine r_iconst 1 C dL_law_677 rfl ?_
      refine r_addN C dL_law_678 ?_
      refine r_sld C hX hbl hbA hS (by omega) hL hz1 dL_law_679 ?_
      refine lv_aload_n C.1 C.2.1 dL_law_680 rfl (lv_at hl 0 rfl) ?_
      refine lv_iload_n C.1 C.2.1 dL_law_681 rfl (lv_at hl 3 rfl) ?_
      refine r_iconst 2 C dL_law_682 rfl ?_
      refine r_addN C dL_law_683 ?_
      refine r_sld C hX hbl hbA hS (by omega) hL hz2 dL_law_684 ?_
      refine lv_aload_n C.1 C.2.1 dL_law_685 rfl (lv_at hl 0 rfl) ?_
      refine lv_iload_n C.1 C.2.1 dL_law_686 rfl (lv_at hl 3 rfl) ?_
      refine r_iconst 3 C dL_law_687 rfl ?_
      refine r_addN C dL_law_688 ?_
      refine r_sld C hX hbl hbA hS (by omega) hL hz3 dL_law_689 ?_
      refine lv_aload_n C.1 C.2.1 dL_law_690 rfl (lv_at hl 0 rfl) ?_
      refine lv_iload_n C.1 C.2.1 dL_law_691 rfl (lv_at hl 3 rfl) ?_
      refine r_iconst 4 C dL_law_692 rfl ?_
      refine r_addN C dL_law_693 ?_
      refine r_sld C hX hbl hbA hS (by omega) hL hz4 dL_law_694 ?_
      refine wr_callV (As := [nV 1, nV x2, nV x3, zV z4]) (rest := [zV (sCodC bi mo c1 b1 ((1 : Nat) : Int) ((x2 : Nat) : Int) ((x3 : Nat) : Int) z4)]) C hK (c_X10_code_1 l g mo0 mA1 mA3 mA4 mA5 mA6 mA7 mA8 mA9 mA10 mA11 mA12 mA15 mA16 mA17 mA20 Lt mAt kz uz mAb mBe mCl mtd mre mbe bi mo x2 x3 z4 (by first | assumption | omega) (by first | assumption | omega) (by first | assumption | omega) (by first | assumption | omega) (by first | assumption | omega) (by first | assumption | omega)) [29, 31, 42, 43] rfl (fun _ => rfl) (by decide) hP hD hS hA (ci := 8) (q0 := 0) rfl rfl kc_X10_code kl_L_88 kn_X10 ki_X10_code ke_X10_code nk_X10_code ⟨Nat.le_of_ble_eq_true rfl, Nat.le_of_ble_eq_true rfl, Nat.le_of_ble_eq_true rfl, Nat.le_of_ble_eq_true rfl⟩ hl rfl (Nat.le_of_ble_eq_true rfl) dL_law_695 (fun r_4 u_6 H locs hr_5 hP hD hS => ?_)
      obtain ⟨cl1, re1, be1⟩ := u_6
      have hP : va_P g.1 vwCl [(x0, .inr (7, [.ref t, .ref rd0, .ref q, .ref us, .ref ks, .ref rc0, .ref se, .ref v, .ref vd])), (t, .inr (5, [.ref t0, nV Lt])), (t0, cB g 300 u), (rd0, .inr (3, [.ref rd1, nV pl])), (rd1, cN g 4 nu), (q, .inr (1, [.ref q0])), (q0, cN g 42 ce), (us, .inr (4, [nV 8, .ref ur0, nV uz])), (ur0, cN g 336 ur), (ks, .inr (4, [nV 2, .ref kr0, nV kz])), (kr0, cN g 84 kr), (rc0, .inr (2, [.ref rl0, .ref rh0])), (rl0, cM g 72 lw1), (rh0, cM g 72 hg1), (se, .inr (0, [.ref rc0, .ref ca, .ref ba, nV wt1, nV le1])), (ca, cN g 3 ca1), (ba, cN g 3 ba1), (v, .inr (6, [.ref v0, .ref v1, .ref v2, .ref v3, .ref v4, nV k, nV nc, nV nb, nV bi, nV mo])), (v0, cN g 8 sg), (v1, cN g 8 wo), (v2, cN g 5 hu), (v3, cN g 5 mi), (v4, cN g 5 kn), (vd, .inr (6, [.ref d0, .ref d1, .ref d2, .ref d3, .ref d4, nV dk, nV dnc, nV dnb, nV dbi, nV dmo])), (d0, cN g 8 dsg), (d1, cN g 8 dwo), (d2, cN g 5 dhu), (d3, cN g 5 dmi), (d4, cN g 5 dkn), (mo0, .inr (8, [nV Lt, .ref mA1, nV mAt, .ref mA3, .ref mA4, .ref mA5, .ref mA6, .ref mA7, .ref mA8, .ref mA9, .ref mA10, .ref mA11, .ref mA12, nV kz, nV uz, .ref mA15, .ref mA16, .ref mA17, mV mAb, mV mBe, .ref mA20, zV cl1])), (mA1, cB g 300 u), (mA3, cN g 4 mtd), (mA4, cN g 2 mws), (mA5, cN g 32 mwd), (mA6, cN g 2 mcs), (mA7, cN g 20 mca), (mA8, cN g 2 mbs), (mA9, cN g 10 mba), (mA10, cN g 3 mlv), (mA11, cN g 96 mlf), (mA12, cZ g 3 mfl), (mA15, cN g 48 mdi), (mA16, cO g 5184 re1), (mA17, cZ g 3 be1), (mA20, cZ g 4 mgt)] H := hP
      have hD : va_D A [(x0, .inr (7, [.ref t, .ref rd0, .ref q, .ref us, .ref ks, .ref rc0, .ref se, .ref v, .ref vd])), (t, .inr (5, [.ref t0, nV Lt])), (t0, cB g 300 u), (rd0, .inr (3, [.ref rd1, nV pl])), (rd1, cN g 4 nu), (q, .inr (1, [.ref q0])), (q0, cN g 42 ce), (us, .inr (4, [nV 8, .ref ur0, nV uz])), (ur0, cN g 336 ur), (ks, .inr (4, [nV 2, .ref kr0, nV kz])), (kr0, cN g 84 kr), (rc0, .inr (2, [.ref rl0, .ref rh0])), (rl0, cM g 72 lw1), (rh0, cM g 72 hg1), (se, .inr (0, [.ref rc0, .ref ca, .ref ba, nV wt1, nV le1])), (ca, cN g 3 ca1), (ba, cN g 3 ba1), (v, .inr (6, [.ref v0, .ref v1, .ref v2, .ref v3, .ref v4, nV k, nV nc, nV nb, nV bi, nV mo])), (v0, cN g 8 sg), (v1, cN g 8 wo), (v2, cN g 5 hu), (v3, cN g 5 mi), (v4, cN g 5 kn), (vd, .inr (6, [.ref d0, .ref d1, .ref d2, .ref d3, .ref d4, nV dk, nV dnc, nV dnb, nV dbi, nV dmo])), (d0, cN g 8 dsg), (d1, cN g 8 dwo), (d2, cN g 5 dhu), (d3, cN g 5 dmi), (d4, cN g 5 dkn), (mo0, .inr (8, [nV Lt, .ref mA1, nV mAt, .ref mA3, .ref mA4, .ref mA5, .ref mA6, .ref mA7, .ref mA8, .ref mA9, .ref mA10, .ref mA11, .ref mA12, nV kz, nV uz, .ref mA15, .ref mA16, .ref mA17, mV mAb, mV mBe, .ref mA20, zV cl1])), (mA1, cB g 300 u), (mA3, cN g 4 mtd), (mA4, cN g 2 mws), (mA5, cN g 32 mwd), (mA6, cN g 2 mcs), (mA7, cN g 20 mca), (mA8, cN g 2 mbs), (mA9, cN g 10 mba), (mA10, cN g 3 mlv), (mA11, cN g 96 mlf), (mA12, cZ g 3 mfl), (mA15, cN g 48 mdi), (mA16, cO g 5184 re1), (mA17, cZ g 3 be1), (mA20, cZ g 4 mgt)] := hD
      try dsimp only at hr_5
      subst hr_5
      refine r_same 1011 C dL_law_698 rfl (cod_eq (K := 1) (x2 := x2) (x3 := x3) hq) ?_
      exact kk v v0 v1 v2 v3 v4 vd d0 d1 d2 d3 d4 Lt u pl nu ce uz ur kz kr lw1 hg1 wt1 le1 ca1 ba1 sg wo hu mi kn k nc nb bi mo dsg dwo dhu dmi dkn dk dnc dnb dbi dmo mAt mtd mws mwd mcs mca mbs mba mlv mlf mfl mdi re1 be1 mgt mAb mBe cl1 H locs ls (REL_c hR hca) hP hD hS hl
    · subst hk3
      refine lv_aload_n C.1 C.2.1 dL_law_650 rfl (lv_at hl 1 rfl) ?_
      refine lv_aload_n C.1 C.2.1 dL_law_651 rfl (lv_at hl 0 rfl) ?_
      refine lv_iload_n C.1 C.2.1 dL_law_652 rfl (lv_at hl 3 rfl) ?_
      refine r_iconst 1 C dL_law_653 rfl ?_
      refine r_addN C dL_law_654 ?_
      refine r_sld C hX hbl hbA hS (by omega) hL hz1 dL_law_655 ?_
      refine lv_aload_n C.1 C.2.1 dL_law_656 rfl (lv_at hl 0 rfl) ?_
      refine lv_iload_n C.1 C.2.1 dL_law_657 rfl (lv_at hl 3 rfl) ?_
      refine r_iconst 2 C dL_law_658 rfl ?_
      refine r_addN C dL_law_659 ?_
      refine r_sld C hX hbl hbA hS (by omega) hL hz2 dL_law_660 ?_
      refine lv_aload_n C.1 C.2.1 dL_law_661 rfl (lv_at hl 0 rfl) ?_
      refine lv_iload_n C.1 C.2.1 dL_law_662 rfl (lv_at hl 3 rfl) ?_
      refine r_iconst 3 C dL_law_663 rfl ?_
      refine r_addN C dL_law_664 ?_
      refine r_sld C hX hbl hbA hS (by omega) hL hz3 dL_law_665 ?_
      refine lv_aload_n C.1 C.2.1 dL_law_666 rfl (lv_at hl 0 rfl) ?_
      refine lv_iload_n C.1 C.2.1 dL_law_667 rfl (lv_at hl 3 rfl) ?_
      refine r_iconst 4 C dL_law_668 rfl ?_
      refine r_addN C dL_law_669 ?_
      refine r_sld C hX hbl hbA hS (by omega) hL hz4 dL_law_670 ?_
      refine wr_callV (As := [nV 2, nV x2, nV x3, zV z4]) (rest := []) C hK (c_X9_code l g x0 t rd0 q us ks rc0 se v vd ca ba wt le c1 b1 rl0 rh0 lw hg v0 v1 v2 v3 v4 k nc nb bi mo ((2 : Nat) : Int) ((x2 : Nat) : Int) ((x3 : Nat) : Int) z4 (by first | assumption | omega) (by first | assumption | omega) (by first | assumption | exact ⟨by omega, by omega⟩) (by first | assumption | exact ⟨by omega, by omega⟩) (by first | assumption | exact ⟨by omega, by omega⟩) (by first | assumption | exact ⟨by omega, by omega⟩)) [0, 14, 15, 16, 11, 12, 13, 17] rfl (fun _ => rfl) (by decide) hP hD hS hA (ci := 7) (q0 := 0) rfl rfl kc_X9_code kl_L_85 kn_X9 ki_X9_code ke_X9_code nk_X9_code ⟨Nat.le_of_ble_eq_true rfl, Nat.le_of_ble_eq_true rfl, Nat.le_of_ble_eq_true rfl, Nat.le_of_ble_eq_true rfl⟩ hl rfl (Nat.le_of_ble_eq_true rfl) dL_law_671 (fun r_1 u_3 H locs hr_2 hP hD hS => ?_)
      obtain ⟨wt1, le1, ca1, ba1, lw1, hg1⟩ := u_3
      have hP : va_P g.1 vwCl [(x0, .inr (7, [.ref t, .ref rd0, .ref q, .ref us, .ref ks, .ref rc0, .ref se, .ref v, .ref vd])), (t, .inr (5, [.ref t0, nV Lt])), (t0, cB g 300 u), (rd0, .inr (3, [.ref rd1, nV pl])), (rd1, cN g 4 nu), (q, .inr (1, [.ref q0])), (q0, cN g 42 ce), (us, .inr (4, [nV 8, .ref ur0, nV uz])), (ur0, cN g 336 ur), (ks, .inr (4, [nV 2, .ref kr0, nV kz])), (kr0, cN g 84 kr), (rc0, .inr (2, [.ref rl0, .ref rh0])), (rl0, cM g 72 lw1), (rh0, cM g 72 hg1), (se, .inr (0, [.ref rc0, .ref ca, .ref ba, nV wt1, nV le1])), (ca, cN g 3 ca1), (ba, cN g 3 ba1), (v, .inr (6, [.ref v0, .ref v1, .ref v2, .ref v3, .ref v4, nV k, nV nc, nV nb, nV bi, nV mo])), (v0, cN g 8 sg), (v1, cN g 8 wo), (v2, cN g 5 hu), (v3, cN g 5 mi), (v4, cN g 5 kn), (vd, .inr (6, [.ref d0, .ref d1, .ref d2, .ref d3, .ref d4, nV dk, nV dnc, nV dnb, nV dbi, nV dmo])), (d0, cN g 8 dsg), (d1, cN g 8 dwo), (d2, cN g 5 dhu), (d3, cN g 5 dmi), (d4, cN g 5 dkn), (mo0, .inr (8, [nV Lt, .ref mA1, nV mAt, .ref mA3, .ref mA4, .ref mA5, .ref mA6, .ref mA7, .ref mA8, .ref mA9, .ref mA10, .ref mA11, .ref mA12, nV kz, nV uz, .ref mA15, .ref mA16, .ref mA17, mV mAb, mV mBe, .ref mA20, zV mCl])), (mA1, cB g 300 u), (mA3, cN g 4 mtd), (mA4, cN g 2 mws), (mA5, cN g 32 mwd), (mA6, cN g 2 mcs), (mA7, cN g 20 mca), (mA8, cN g 2 mbs), (mA9, cN g 10 mba), (mA10, cN g 3 mlv), (mA11, cN g 96 mlf), (mA12, cZ g 3 mfl), (mA15, cN g 48 mdi), (mA16, cO g 5184 mre), (mA17, cZ g 3 mbe), (mA20, cZ g 4 mgt)] H := hP
      have hD : va_D A [(x0, .inr (7, [.ref t, .ref rd0, .ref q, .ref us, .ref ks, .ref rc0, .ref se, .ref v, .ref vd])), (t, .inr (5, [.ref t0, nV Lt])), (t0, cB g 300 u), (rd0, .inr (3, [.ref rd1, nV pl])), (rd1, cN g 4 nu), (q, .inr (1, [.ref q0])), (q0, cN g 42 ce), (us, .inr (4, [nV 8, .ref ur0, nV uz])), (ur0, cN g 336 ur), (ks, .inr (4, [nV 2, .ref kr0, nV kz])), (kr0, cN g 84 kr), (rc0, .inr (2, [.ref rl0, .ref rh0])), (rl0, cM g 72 lw1), (rh0, cM g 72 hg1), (se, .inr (0, [.ref rc0, .ref ca, .ref ba, nV wt1, nV le1])), (ca, cN g 3 ca1), (ba, cN g 3 ba1), (v, .inr (6, [.ref v0, .ref v1, .ref v2, .ref v3, .ref v4, nV k, nV nc, nV nb, nV bi, nV mo])), (v0, cN g 8 sg), (v1, cN g 8 wo), (v2, cN g 5 hu), (v3, cN g 5 mi), (v4, cN g 5 kn), (vd, .inr (6, [.ref d0, .ref d1, .ref d2, .ref d3, .ref d4, nV dk, nV dnc, nV dnb, nV dbi, nV dmo])), (d0, cN g 8 dsg), (d1, cN g 8 dwo), (d2, cN g 5 dhu), (d3, cN g 5 dmi), (d4, cN g 5 dkn), (mo0, .inr (8, [nV Lt, .ref mA1, nV mAt, .ref mA3, .ref mA4, .ref mA5, .ref mA6, .ref mA7, .ref mA8, .ref mA9, .ref mA10, .ref mA11, .ref mA12, nV kz, nV uz, .ref mA15, .ref mA16, .ref mA17, mV mAb, mV mBe, .ref mA20, zV mCl])), (mA1, cB g 300 u), (mA3, cN g 4 mtd), (mA4, cN g 2 mws), (mA5, cN g 32 mwd), (mA6, cN g 2 mcs), (mA7, cN g 20 mca), (mA8, cN g 2 mbs), (mA9, cN g 10 mba), (mA10, cN g 3 mlv), (mA11, cN g 96 mlf), (mA12, cZ g 3 mfl), (mA15, cN g 48 mdi), (mA16, cO g 5184 mre), (mA17, cZ g 3 mbe), (mA20, cZ g 4 mgt)] := hD
      try dsimp only at hr_2
      obtain ⟨hxr_1, hr_2⟩ := hr_2
      subst hxr_1
      have hca := hr_2
      refine lv_aload_n C.1 C.2.1 dL_law_674 rfl (lv_at hl 2 rfl) ?_
      refine lv_aload_n C.1 C.2.1 dL_law_675 rfl (lv_at hl 0 rfl) ?_
      refine lv_iload_n C.1 C.2.1 dL_law_676 rfl (lv_at hl 3 rfl) ?_
      refine r_iconst 1 C dL_law_677 rfl ?_
      refine r_addN C dL_law_678 ?_
      refine r_sld C hX hbl hbA hS (by omega) hL hz1 dL_law_679 ?_
      refine lv_aload_n C.1 C.2.1 dL_law_680 rfl (lv_at hl 0 rfl) ?_
      refine lv_iload_n C.1 C.2.1 dL_law_681 rfl (lv_at hl 3 rfl) ?_
      refine r_iconst 2 C dL_law_682 rfl ?_
      refine r_addN C dL_law_683 ?_
      refine r_sld C hX hbl hbA hS (by omega) hL hz2 dL_law_684 ?_
      refine lv_aload_n C.1 C.2.1 dL_law_685 rfl (lv_at hl 0 rfl) ?_
      refine lv_iload_n C.1 C.2.1 dL_law_686 rfl (lv_at hl 3 rfl) ?_
      refine r_iconst 3 C dL_law_687 rfl ?_
      refine r_addN C dL_law_688 ?_
      refine r_sld C hX hbl hbA hS (by omega) hL hz3 dL_law_689 ?_
      refine lv_aload_n C.1 C.2.1 dL_law_690 rfl (lv_at hl 0 rfl) ?_
      refine lv_iload_n C.1 C.2.1 dL_law_691 rfl (lv_at hl 3 rfl) ?_
      refine r_iconst 4 C dL_law_692 rfl ?_
      refine r_addN C dL_law_693 ?_
      refine r_sld C hX hbl hbA hS (by omega) hL hz4 dL_law_694 ?_
      refine wr_callV (As := [nV 2, nV x2, nV x3, zV z4]) (rest := [zV (sCodC bi mo c1 b1 ((2 : Nat) : Int) ((x2 : Nat) : Int) ((x3 : Nat) : Int) z4)]) C hK (c_X10_code_2 l g mo0 mA1 mA3 mA4 mA5 mA6 mA7 mA8 mA9 mA10 mA11 mA12 mA15 mA16 mA17 mA20 Lt mAt kz uz mAb mBe mCl mtd mre mbe bi mo x2 x3 z4 (by first | assumption | omega) (by first | assumption | omega) (by first | assumption | omega) (by first | assumption | omega) (by first | assumption | omega) (by first | assumption | omega)) [29, 31, 42, 43] rfl (fun _ => rfl) (by decide) hP hD hS hA (ci := 8) (q0 := 0) rfl rfl kc_X10_code kl_L_88 kn_X10 ki_X10_code ke_X10_code nk_X10_code ⟨Nat.le_of_ble_eq_true rfl, Nat.le_of_ble_eq_true rfl, Nat.le_of_ble_eq_true rfl, Nat.le_of_ble_eq_true rfl⟩ hl rfl (Nat.le_of_ble_eq_true rfl) dL_law_695 (fun r_4 u_6 H locs hr_5 hP hD hS => ?_)
      obtain ⟨cl1, re1, be1⟩ := u_6
      have hP : va_P g.1 vwCl [(x0, .inr (7, [.ref t, .ref rd0, .ref q, .ref us, .ref ks, .ref rc0, .ref se, .ref v, .ref vd])), (t, .inr (5, [.ref t0, nV Lt])), (t0, cB g 300 u), (rd0, .inr (3, [.ref rd1, nV pl])), (rd1, cN g 4 nu), (q, .inr (1, [.ref q0])), (q0, cN g 42 ce), (us, .inr (4, [nV 8, .ref ur0, nV uz])), (ur0, cN g 336 ur), (ks, .inr (4, [nV 2, .ref kr0, nV kz])), (kr0, cN g 84 kr), (rc0, .inr (2, [.ref rl0, .ref rh0])), (rl0, cM g 72 lw1), (rh0, cM g 72 hg1), (se, .inr (0, [.ref rc0, .ref ca, .ref ba, nV wt1, nV le1])), (ca, cN g 3 ca1), (ba, cN g 3 ba1), (v, .inr (6, [.ref v0, .ref v1, .ref v2, .ref v3, .ref v4, nV k, nV nc, nV nb, nV bi, nV mo])), (v0, cN g 8 sg), (v1, cN g 8 wo), (v2, cN g 5 hu), (v3, cN g 5 mi), (v4, cN g 5 kn), (vd, .inr (6, [.ref d0, .ref d1, .ref d2, .ref d3, .ref d4, nV dk, nV dnc, nV dnb, nV dbi, nV dmo])), (d0, cN g 8 dsg), (d1, cN g 8 dwo), (d2, cN g 5 dhu), (d3, cN g 5 dmi), (d4, cN g 5 dkn), (mo0, .inr (8, [nV Lt, .ref mA1, nV mAt, .ref mA3, .ref mA4, .ref mA5, .ref mA6, .ref mA7, .ref mA8, .ref mA9, .ref mA10, .ref mA11, .ref mA12, nV kz, nV uz, .ref mA15, .ref mA16, .ref mA17, mV mAb, mV mBe, .ref mA20, zV cl1])), (mA1, cB g 300 u), (mA3, cN g 4 mtd), (mA4, cN g 2 mws), (mA5, cN g 32 mwd), (mA6, cN g 2 mcs), (mA7, cN g 20 mca), (mA8, cN g 2 mbs), (mA9, cN g 10 mba), (mA10, cN g 3 mlv), (mA11, cN g 96 mlf), (mA12, cZ g 3 mfl), (mA15, cN g 48 mdi), (mA16, cO g 5184 re1), (mA17, cZ g 3 be1), (mA20, cZ g 4 mgt)] H := hP
      have hD : va_D A [(x0, .inr (7, [.ref t, .ref rd0, .ref q, .ref us, .ref ks, .ref rc0, .ref se, .ref v, .ref vd])), (t, .inr (5, [.ref t0, nV Lt])), (t0, cB g 300 u), (rd0, .inr (3, [.ref rd1, nV pl])), (rd1, cN g 4 nu), (q, .inr (1, [.ref q0])), (q0, cN g 42 ce), (us, .inr (4, [nV 8, .ref ur0, nV uz])), (ur0, cN g 336 ur), (ks, .inr (4, [nV 2, .ref kr0, nV kz])), (kr0, cN g 84 kr), (rc0, .inr (2, [.ref rl0, .ref rh0])), (rl0, cM g 72 lw1), (rh0, cM g 72 hg1), (se, .inr (0, [.ref rc0, .ref ca, .ref ba, nV wt1, nV le1])), (ca, cN g 3 ca1), (ba, cN g 3 ba1), (v, .inr (6, [.ref v0, .ref v1, .ref v2, .ref v3, .ref v4, nV k, nV nc, nV nb, nV bi, nV mo])), (v0, cN g 8 sg), (v1, cN g 8 wo), (v2, cN g 5 hu), (v3, cN g 5 mi), (v4, cN g 5 kn), (vd, .inr (6, [.ref d0, .ref d1, .ref d2, .ref d3, .ref d4, nV dk, nV dnc, nV dnb, nV dbi, nV dmo])), (d0, cN g 8 dsg), (d1, cN g 8 dwo), (d2, cN g 5 dhu), (d3, cN g 5 dmi), (d4, cN g 5 dkn), (mo0, .inr (8, [nV Lt, .ref mA1, nV mAt, .ref mA3, .ref mA4, .ref mA5, .ref mA6, .ref mA7, .ref mA8, .ref mA9, .ref mA10, .ref mA11, .ref mA12, nV kz, nV uz, .ref mA15, .ref mA16, .ref mA17, mV mAb, mV mBe, .ref mA20, zV cl1])), (mA1, cB g 300 u), (mA3, cN g 4 mtd), (mA4, cN g 2 mws), (mA5, cN g 32 mwd), (mA6, cN g 2 mcs), (mA7, cN g 20 mca), (mA8, cN g 2 mbs), (mA9, cN g 10 mba), (mA10, cN g 3 mlv), (mA11, cN g 96 mlf), (mA12, cZ g 3 mfl), (mA15, cN g 48 mdi), (mA16, cO g 5184 re1), (mA17, cZ g 3 be1), (mA20, cZ g 4 mgt)] := hD
      try dsimp only at hr_5
      subst hr_5
      refine r_same 1011 C dL_law_698 rfl (cod_eq (K := 2) (x2 := x2) (x3 := x3) hq) ?_
      exact kk v v0 v1 v2 v3 v4 vd d0 d1 d2 d3 d4 Lt u pl nu ce uz ur kz kr lw1 hg1 wt1 le1 ca1 ba1 sg wo hu mi kn k nc nb bi mo dsg dwo dhu dmi dkn dk dnc dnb dbi dmo mAt mtd mws mwd mcs mca mbs mba mlv mlf mfl mdi re1 be1 mgt mAb mBe cl1 H locs ls (REL_c hR hca) hP hD hS hl
    · subst hk3
      refine lv_aload_n C.1 C.2.1 dL_law_650 rfl (lv_at hl 1 rfl) ?_
      refine lv_aload_n C.1 C.2.1 dL_law_651 rfl (lv_at hl 0 rfl) ?_
      refine lv_iload_n C.1 C.2.1 dL_law_652 rfl (lv_at hl 3 rfl) ?_
      refine r_iconst 1 C dL_law_653 rfl ?_
      refine r_addN C dL_law_654 ?_
      refine r_sld C hX hbl hbA hS (by omega) hL hz1 dL_law_655 ?_
      refine lv_aload_n C.1 C.2.1 dL_law_656 rfl (lv_at hl 0 rfl) ?_
      refine lv_iload_n C.1 C.2.1 dL_law_657 rfl (lv_at hl 3 rfl) ?_
      refine r_iconst 2 C dL_law_658 rfl ?_
      refine r_addN C dL_law_659 ?_
      refine r_sld C hX hbl hbA hS (by omega) hL hz2 dL_law_660 ?_
      refine lv_aload_n C.1 C.2.1 dL_law_661 rfl (lv_at hl 0 rfl) ?_
      refine lv_iload_n C.1 C.2.1 dL_law_662 rfl (lv_at hl 3 rfl) ?_
      refine r_iconst 3 C dL_law_663 rfl ?_
      refine r_addN C dL_law_664 ?_
      refine r_sld C hX hbl hbA hS (by omega) hL hz3 dL_law_665 ?_
      refine lv_aload_n C.1 C.2.1 dL_law_666 rfl (lv_at hl 0 rfl) ?_
      refine lv_iload_n C.1 C.2.1 dL_law_667 rfl (lv_at hl 3 rfl) ?_
      refine r_iconst 4 C dL_law_668 rfl ?_
      refine r_addN C dL_law_669 ?_
      refine r_sld C hX hbl hbA hS (by omega) hL hz4 dL_law_670 ?_
      refine wr_callV (As := [nV 3, nV x2, nV x3, zV z4]) (rest := []) C hK (c_X9_code l g x0 t rd0 q us ks rc0 se v vd ca ba wt le c1 b1 rl0 rh0 lw hg v0 v1 v2 v3 v4 k nc nb bi mo ((3 : Nat) : Int) ((x2 : Nat) : Int) ((x3 : Nat) : Int) z4 (by first | assumption | omega) (by first | assumption | omega) (by first | assumption | exact ⟨by omega, by omega⟩) (by first | assumption | exact ⟨by omega, by omega⟩) (by first | assumption | exact ⟨by omega, by omega⟩) (by first | assumption | exact ⟨by omega, by omega⟩)) [0, 14, 15, 16, 11, 12, 13, 17] rfl (fun _ => rfl) (by decide) hP hD hS hA (ci := 7) (q0 := 0) rfl rfl kc_X9_code kl_L_85 kn_X9 ki_X9_code ke_X9_code nk_X9_code ⟨Nat.le_of_ble_eq_true rfl, Nat.le_of_ble_eq_true rfl, Nat.le_of_ble_eq_true rfl, Nat.le_of_ble_eq_true rfl⟩ hl rfl (Nat.le_of_ble_eq_true rfl) dL_law_671 (fun r_1 u_3 H locs hr_2 hP hD hS => ?_)
      obtain ⟨wt1, le1, ca1, ba1, lw1, hg1⟩ := u_3
      have hP : va_P g.1 vwCl [(x0, .inr (7, [.ref t, .ref rd0, .ref q, .ref us, .ref ks, .ref rc0, .ref se, .ref v, .ref vd])), (t, .inr (5, [.ref t0, nV Lt])), (t0, cB g 300 u), (rd0, .inr (3, [.ref rd1, nV pl])), (rd1, cN g 4 nu), (q, .inr (1, [.ref q0])), (q0, cN g 42 ce), (us, .inr (4, [nV 8, .ref ur0, nV uz])), (ur0, cN g 336 ur), (ks, .inr (4, [nV 2, .ref kr0, nV kz])), (kr0, cN g 84 kr), (rc0, .inr (2, [.ref rl0, .ref rh0])), (rl0, cM g 72 lw1), (rh0, cM g 72 hg1), (se, .inr (0, [.ref rc0, .ref ca, .ref ba, nV wt1, nV le1])), (ca, cN g 3 ca1), (ba, cN g 3 ba1), (v, .inr (6, [.ref v0, .ref v1, .ref v2, .ref v3, .ref v4, nV k, nV nc, nV nb, nV bi, nV mo])), (v0, cN g 8 sg), (v1, cN g 8 wo), (v2, cN g 5 hu), (v3, cN g 5 mi), (v4, cN g 5 kn), (vd, .inr (6, [.ref d0, .ref d1, .ref d2, .ref d3, .ref d4, nV dk, nV dnc, nV dnb, nV dbi, nV dmo])), (d0, cN g 8 dsg), (d1, cN g 8 dwo), (d2, cN g 5 dhu), (d3, cN g 5 dmi), (d4, cN g 5 dkn), (mo0, .inr (8, [nV Lt, .ref mA1, nV mAt, .ref mA3, .ref mA4, .ref mA5, .ref mA6, .ref mA7, .ref mA8, .ref mA9, .ref mA10, .ref mA11, .ref mA12, nV kz, nV uz, .ref mA15, .ref mA16, .ref mA17, mV mAb, mV mBe, .ref mA20, zV mCl])), (mA1, cB g 300 u), (mA3, cN g 4 mtd), (mA4, cN g 2 mws), (mA5, cN g 32 mwd), (mA6, cN g 2 mcs), (mA7, cN g 20 mca), (mA8, cN g 2 mbs), (mA9, cN g 10 mba), (mA10, cN g 3 mlv), (mA11, cN g 96 mlf), (mA12, cZ g 3 mfl), (mA15, cN g 48 mdi), (mA16, cO g 5184 mre), (mA17, cZ g 3 mbe), (mA20, cZ g 4 mgt)] H := hP
      have hD : va_D A [(x0, .inr (7, [.ref t, .ref rd0, .ref q, .ref us, .ref ks, .ref rc0, .ref se, .ref v, .ref vd])), (t, .inr (5, [.ref t0, nV Lt])), (t0, cB g 300 u), (rd0, .inr (3, [.ref rd1, nV pl])), (rd1, cN g 4 nu), (q, .inr (1, [.ref q0])), (q0, cN g 42 ce), (us, .inr (4, [nV 8, .ref ur0, nV uz])), (ur0, cN g 336 ur), (ks, .inr (4, [nV 2, .ref kr0, nV kz])), (kr0, cN g 84 kr), (rc0, .inr (2, [.ref rl0, .ref rh0])), (rl0, cM g 72 lw1), (rh0, cM g 72 hg1), (se, .inr (0, [.ref rc0, .ref ca, .ref ba, nV wt1, nV le1])), (ca, cN g 3 ca1), (ba, cN g 3 ba1), (v, .inr (6, [.ref v0, .ref v1, .ref v2, .ref v3, .ref v4, nV k, nV nc, nV nb, nV bi, nV mo])), (v0, cN g 8 sg), (v1, cN g 8 wo), (v2, cN g 5 hu), (v3, cN g 5 mi), (v4, cN g 5 kn), (vd, .inr (6, [.ref d0, .ref d1, .ref d2, .ref d3, .ref d4, nV dk, nV dnc, nV dnb, nV dbi, nV dmo])), (d0, cN g 8 dsg), (d1, cN g 8 dwo), (d2, cN g 5 dhu), (d3, cN g 5 dmi), (d4, cN g 5 dkn), (mo0, .inr (8, [nV Lt, .ref mA1, nV mAt, .ref mA3, .ref mA4, .ref mA5, .ref mA6, .ref mA7, .ref mA8, .ref mA9, .ref mA10, .ref mA11, .ref mA12, nV kz, nV uz, .ref mA15, .ref mA16, .ref mA17, mV mAb, mV mBe, .ref mA20, zV mCl])), (mA1, cB g 300 u), (mA3, cN g 4 mtd), (mA4, cN g 2 mws), (mA5, cN g 32 mwd), (mA6, cN g 2 mcs), (mA7, cN g 20 mca), (mA8, cN g 2 mbs), (mA9, cN g 10 mba), (mA10, cN g 3 mlv), (mA11, cN g 96 mlf), (mA12, cZ g 3 mfl), (mA15, cN g 48 mdi), (mA16, cO g 5184 mre), (mA17, cZ g 3 mbe), (mA20, cZ g 4 mgt)] := hD
      try dsimp only at hr_2
      obtain ⟨hxr_1, hr_2⟩ := hr_2
      subst hxr_1
      have hca := hr_2
      refine lv_aload_n C.1 C.2.1 dL_law_674 rfl (lv_at hl 2 rfl) ?_
      refine lv_aload_n C.1 C.2.1 dL_law_675 rfl (lv_at hl 0 rfl) ?_
      refine lv_iload_n C.1 C.2.1 dL_law_676 rfl (lv_at hl 3 rfl) ?_
      refine r_iconst 1 C dL_law_677 rfl ?_
      refine r_addN C dL_law_678 ?_
      refine r_sld C hX hbl hbA hS (by omega) hL hz1 dL_law_679 ?_
      refine lv_aload_n C.1 C.2.1 dL_law_680 rfl (lv_at hl 0 rfl) ?_
      refine lv_iload_n C.1 C.2.1 dL_law_681 rfl (lv_at hl 3 rfl) ?_
      refine r_iconst 2 C dL_law_682 rfl ?_
      refine r_addN C dL_law_683 ?_
      refine r_sld C hX hbl hbA hS (by omega) hL hz2 dL_law_684 ?_
      refine lv_aload_n C.1 C.2.1 dL_law_685 rfl (lv_at hl 0 rfl) ?_
      refine lv_iload_n C.1 C.2.1 dL_law_686 rfl (lv_at hl 3 rfl) ?_
      refine r_iconst 3 C dL_law_687 rfl ?_
      refine r_addN C dL_law_688 ?_
      refine r_sld C hX hbl hbA hS (by omega) hL hz3 dL_law_689 ?_
      refine lv_aload_n C.1 C.2.1 dL_law_690 rfl (lv_at hl 0 rfl) ?_
      refine lv_iload_n C.1 C.2.1 dL_law_691 rfl (lv_at hl 3 rfl) ?_
      refine r_iconst 4 C dL_law_692 rfl ?_
      refine r_addN C dL_law_693 ?_
      refine r_sld C hX hbl hbA hS (by omega) hL hz4 dL_law_694 ?_
      refine wr_callV (As := [nV 3, nV x2, nV x3, zV z4]) (rest := [zV (sCodC bi mo c1 b1 ((3 : Nat) : Int) ((x2 : Nat) : Int) ((x3 : Nat) : Int) z4)]) C hK (c_X10_code_3 l g mo0 mA1 mA3 mA4 mA5 mA6 mA7 mA8 mA9 mA10 mA11 mA12 mA15 mA16 mA17 mA20 Lt mAt kz uz mAb mBe mCl mtd mre mbe bi mo x2 x3 z4 (by first | assumption | omega) (by first | assumption | omega) (by first | assumption | omega) (by first | assumption | omega) (by first | assumption | omega) (by first | assumption | omega)) [29, 31, 42, 43] rfl (fun _ => rfl) (by decide) hP hD hS hA (ci := 8) (q0 := 0) rfl rfl kc_X10_code kl_L_88 kn_X10 ki_X10_code ke_X10_code nk_X10_code ⟨Nat.le_of_ble_eq_true rfl, Nat.le_of_ble_eq_true rfl, Nat.le_of_ble_eq_true rfl, Nat.le_of_ble_eq_true rfl⟩ hl rfl (Nat.le_of_ble_eq_true rfl) dL_law_695 (fun r_4 u_6 H locs hr_5 hP hD hS => ?_)
      obtain ⟨cl1, re1, be1⟩ := u_6
      have hP : va_P g.1 vwCl [(x0, .inr (7, [.ref t, .ref rd0, .ref q, .ref us, .ref ks, .ref rc0, .ref se, .ref v, .ref vd])), (t, .inr (5, [.ref t0, nV Lt])), (t0, cB g 300 u), (rd0, .inr (3, [.ref rd1, nV pl])), (rd1, cN g 4 nu), (q, .inr (1, [.ref q0])), (q0, cN g 42 ce), (us, .inr (4, [nV 8, .ref ur0, nV uz])), (ur0, cN g 336 ur), (ks, .inr (4, [nV 2, .ref kr0, nV kz])), (kr0, cN g 84 kr), (rc0, .inr (2, [.ref rl0, .ref rh0])), (rl0, cM g 72 lw1), (rh0, cM g 72 hg1), (se, .inr (0, [.ref rc0, .ref ca, .ref ba, nV wt1, nV le1])), (ca, cN g 3 ca1), (ba, cN g 3 ba1), (v, .inr (6, [.ref v0, .ref v1, .ref v2, .ref v3, .ref v4, nV k, nV nc, nV nb, nV bi, nV mo])), (v0, cN g 8 sg), (v1, cN g 8 wo), (v2, cN g 5 hu), (v3, cN g 5 mi), (v4, cN g 5 kn), (vd, .inr (6, [.ref d0, .ref d1, .ref d2, .ref d3, .ref d4, nV dk, nV dnc, nV dnb, nV dbi, nV dmo])), (d0, cN g 8 dsg), (d1, cN g 8 dwo), (d2, cN g 5 dhu), (d3, cN g 5 dmi), (d4, cN g 5 dkn), (mo0, .inr (8, [nV Lt, .ref mA1, nV mAt, .ref mA3, .ref mA4, .ref mA5, .ref mA6, .ref mA7, .ref mA8, .ref mA9, .ref mA10, .ref mA11, .ref mA12, nV kz, nV uz, .ref mA15, .ref mA16, .ref mA17, mV mAb, mV mBe, .ref mA20, zV cl1])), (mA1, cB g 300 u), (mA3, cN g 4 mtd), (mA4, cN g 2 mws), (mA5, cN g 32 mwd), (mA6, cN g 2 mcs), (mA7, cN g 20 mca), (mA8, cN g 2 mbs), (mA9, cN g 10 mba), (mA10, cN g 3 mlv), (mA11, cN g 96 mlf), (mA12, cZ g 3 mfl), (mA15, cN g 48 mdi), (mA16, cO g 5184 re1), (mA17, cZ g 3 be1), (mA20, cZ g 4 mgt)] H := hP
      have hD : va_D A [(x0, .inr (7, [.ref t, .ref rd0, .ref q, .ref us, .ref ks, .ref rc0, .ref se, .ref v, .ref vd])), (t, .inr (5, [.ref t0, nV Lt])), (t0, cB g 300 u), (rd0, .inr (3, [.ref rd1, nV pl])), (rd1, cN g 4 nu), (q, .inr (1, [.ref q0])), (q0, cN g 42 ce), (us, .inr (4, [nV 8, .ref ur0, nV uz])), (ur0, cN g 336 ur), (ks, .inr (4, [nV 2, .ref kr0, nV kz])), (kr0, cN g 84 kr), (rc0, .inr (2, [.ref rl0, .ref rh0])), (rl0, cM g 72 lw1), (rh0, cM g 72 hg1), (se, .inr (0, [.ref rc0, .ref ca, .ref ba, nV wt1, nV le1])), (ca, cN g 3 ca1), (ba, cN g 3 ba1), (v, .inr (6, [.ref v0, .ref v1, .ref v2, .ref v3, .ref v4, nV k, nV nc, nV nb, nV bi, nV mo])), (v0, cN g 8 sg), (v1, cN g 8 wo), (v2, cN g 5 hu), (v3, cN g 5 mi), (v4, cN g 5 kn), (vd, .inr (6, [.ref d0, .ref d1, .ref d2, .ref d3, .ref d4, nV dk, nV dnc, nV dnb, nV dbi, nV dmo])), (d0, cN g 8 dsg), (d1, cN g 8 dwo), (d2, cN g 5 dhu), (d3, cN g 5 dmi), (d4, cN g 5 dkn), (mo0, .inr (8, [nV Lt, .ref mA1, nV mAt, .ref mA3, .ref mA4, .ref mA5, .ref mA6, .ref mA7, .ref mA8, .ref mA9, .ref mA10, .ref mA11, .ref mA12, nV kz, nV uz, .ref mA15, .ref mA16, .ref mA17, mV mAb, mV mBe, .ref mA20, zV cl1])), (mA1, cB g 300 u), (mA3, cN g 4 mtd), (mA4, cN g 2 mws), (mA5, cN g 32 mwd), (mA6, cN g 2 mcs), (mA7, cN g 20 mca), (mA8, cN g 2 mbs), (mA9, cN g 10 mba), (mA10, cN g 3 mlv), (mA11, cN g 96 mlf), (mA12, cZ g 3 mfl), (mA15, cN g 48 mdi), (mA16, cO g 5184 re1), (mA17, cZ g 3 be1), (mA20, cZ g 4 mgt)] := hD
      try dsimp only at hr_5
      subst hr_5
      refine r_same 1011 C dL_law_698 rfl (cod_eq (K := 3) (x2 := x2) (x3 := x3) hq) ?_
      exact kk v v0 v1 v2 v3 v4 vd d0 d1 d2 d3 d4 Lt u pl nu ce uz ur kz kr lw1 hg1 wt1 le1 ca1 ba1 sg wo hu mi kn k nc nb bi mo dsg dwo dhu dmi dkn dk dnc dnb dbi dmo mAt mtd mws mwd mcs mca mbs mba mlv mlf mfl mdi re1 be1 mgt mAb mBe cl1 H locs ls (REL_c hR hca) hP hD hS hl
  · skip
    refine lv_aload_n C.1 C.2.1 dL_law_650 rfl (lv_at hl 1 rfl) ?_
    refine lv_aload_n C.1 C.2.1 dL_law_651 rfl (lv_at hl 0 rfl) ?_
    refine lv_iload_n C.1 C.2.1 dL_law_652 rfl (lv_at hl 3 rfl) ?_
    refine r_iconst 1 C dL_law_653 rfl ?_
    refine r_addN C dL_law_654 ?_
    refine r_sld C hX hbl hbA hS (by omega) hL hz1 dL_law_655 ?_
    refine lv_aload_n C.1 C.2.1 dL_law_656 rfl (lv_at hl 0 rfl) ?_
    refine lv_iload_n C.1 C.2.1 dL_law_657 rfl (lv_at hl 3 rfl) ?_
    refine r_iconst 2 C dL_law_658 rfl ?_
    refine r_addN C dL_law_659 ?_
    refine r_sld C hX hbl hbA hS (by omega) hL hz2 dL_law_660 ?_
    refine lv_aload_n C.1 C.2.1 dL_law_661 rfl (lv_at hl 0 rfl) ?_
    refine lv_iload_n C.1 C.2.1 dL_law_662 rfl (lv_at hl 3 rfl) ?_
    refine r_iconst 3 C dL_law_663 rfl ?_
    refine r_addN C dL_law_664 ?_
    refine r_sld C hX hbl hbA hS (by omega) hL hz3 dL_law_665 ?_
    refine lv_aload_n C.1 C.2.1 dL_law_666 rfl (lv_at hl 0 rfl) ?_
    refine lv_iload_n C.1 C.2.1 dL_law_667 rfl (lv_at hl 3 rfl) ?_
    refine r_iconst 4 C dL_law_668 rfl ?_
    refine r_addN C dL_law_669 ?_
    refine r_sld C hX hbl hbA hS (by omega) hL hz4 dL_law_670 ?_
    refine wr_callV (As := [zV z1, zV z2, zV z3, zV z4]) (rest := []) C hK (c_X9_code l g x0 t rd0 q us ks rc0 se v vd ca ba wt le c1 b1 rl0 rh0 lw hg v0 v1 v2 v3 v4 k nc nb bi mo z1 z2 z3 z4 (by first | assumption | omega) (by first | assumption | omega) (by first | assumption | exact ⟨by omega, by omega⟩) (by first | assumption | exact ⟨by omega, by omega⟩) (by first | assumption | exact ⟨by omega, by omega⟩) (by first | assumption | exact ⟨by omega, by omega⟩)) [0, 14, 15, 16, 11, 12, 13, 17] rfl (fun _ => rfl) (by decide) hP hD hS hA (ci := 7) (q0 := 0) rfl rfl kc_X9_code kl_L_85 kn_X9 ki_X9_code ke_X9_code nk_X9_code ⟨Nat.le_of_ble_eq_true rfl, Nat.le_of_ble_eq_true rfl, Nat.le_of_ble_eq_true rfl, Nat.le_of_ble_eq_true rfl⟩ hl rfl (Nat.le_of_ble_eq_true rfl) dL_law_671 (fun r_1 u_3 H locs hr_2 hP hD hS => ?_)
    obtain ⟨wt1, le1, ca1, ba1, lw1, hg1⟩ := u_3
    have hP : va_P g.1 vwCl [(x0, .inr (7, [.ref t, .ref rd0, .ref q, .ref us, .ref ks, .ref rc0, .ref se, .ref v, .ref vd])), (t, .inr (5, [.ref t0, nV Lt])), (t0, cB g 300 u), (rd0, .inr (3, [.ref rd1, nV pl])), (rd1, cN g 4 nu), (q, .inr (1, [.ref q0])), (q0, cN g 42 ce), (us, .inr (4, [nV 8, .ref ur0, nV uz])), (ur0, cN g 336 ur), (ks, .inr (4, [nV 2, .ref kr0, nV kz])), (kr0, cN g 84 kr), (rc0, .inr (2, [.ref rl0, .ref rh0])), (rl0, cM g 72 lw1), (rh0, cM g 72 hg1), (se, .inr (0, [.ref rc0, .ref ca, .ref ba, nV wt1, nV le1])), (ca, cN g 3 ca1), (ba, cN g 3 ba1), (v, .inr (6, [.ref v0, .ref v1, .ref v2, .ref v3, .ref v4, nV k, nV nc, nV nb, nV bi, nV mo])), (v0, cN g 8 sg), (v1, cN g 8 wo), (v2, cN g 5 hu), (v3, cN g 5 mi), (v4, cN g 5 kn), (vd, .inr (6, [.ref d0, .ref d1, .ref d2, .ref d3, .ref d4, nV dk, nV dnc, nV dnb, nV dbi, nV dmo])), (d0, cN g 8 dsg), (d1, cN g 8 dwo), (d2, cN g 5 dhu), (d3, cN g 5 dmi), (d4, cN g 5 dkn), (mo0, .inr (8, [nV Lt, .ref mA1, nV mAt, .ref mA3, .ref mA4, .ref mA5, .ref mA6, .ref mA7, .ref mA8, .ref mA9, .ref mA10, .ref mA11, .ref mA12, nV kz, nV uz, .ref mA15, .ref mA16, .ref mA17, mV mAb, mV mBe, .ref mA20, zV mCl])), (mA1, cB g 300 u), (mA3, cN g 4 mtd), (mA4, cN g 2 mws), (mA5, cN g 32 mwd), (mA6, cN g 2 mcs), (mA7, cN g 20 mca), (mA8, cN g 2 mbs), (mA9, cN g 10 mba), (mA10, cN g 3 mlv), (mA11, cN g 96 mlf), (mA12, cZ g 3 mfl), (mA15, cN g 48 mdi), (mA16, cO g 5184 mre), (mA17, cZ g 3 mbe), (mA20, cZ g 4 mgt)] H := hP
    have hD : va_D A [(x0, .inr (7, [.ref t, .ref rd0, .ref q, .ref us, .ref ks, .ref rc0, .ref se, .ref v, .ref vd])), (t, .inr (5, [.ref t0, nV Lt])), (t0, cB g 300 u), (rd0, .inr (3, [.ref rd1, nV pl])), (rd1, cN g 4 nu), (q, .inr (1, [.ref q0])), (q0, cN g 42 ce), (us, .inr (4, [nV 8, .ref ur0, nV uz])), (ur0, cN g 336 ur), (ks, .inr (4, [nV 2, .ref kr0, nV kz])), (kr0, cN g 84 kr), (rc0, .inr (2, [.ref rl0, .ref rh0])), (rl0, cM g 72 lw1), (rh0, cM g 72 hg1), (se, .inr (0, [.ref rc0, .ref ca, .ref ba, nV wt1, nV le1])), (ca, cN g 3 ca1), (ba, cN g 3 ba1), (v, .inr (6, [.ref v0, .ref v1, .ref v2, .ref v3, .ref v4, nV k, nV nc, nV nb, nV bi, nV mo])), (v0, cN g 8 sg), (v1, cN g 8 wo), (v2, cN g 5 hu), (v3, cN g 5 mi), (v4, cN g 5 kn), (vd, .inr (6, [.ref d0, .ref d1, .ref d2, .ref d3, .ref d4, nV dk, nV dnc, nV dnb, nV dbi, nV dmo])), (d0, cN g 8 dsg), (d1, cN g 8 dwo), (d2, cN g 5 dhu), (d3, cN g 5 dmi), (d4, cN g 5 dkn), (mo0, .inr (8, [nV Lt, .ref mA1, nV mAt, .ref mA3, .ref mA4, .ref mA5, .ref mA6, .ref mA7, .ref mA8, .ref mA9, .ref mA10, .ref mA11, .ref mA12, nV kz, nV uz, .ref mA15, .ref mA16, .ref mA17, mV mAb, mV mBe, .ref mA20, zV mCl])), (mA1, cB g 300 u), (mA3, cN g 4 mtd), (mA4, cN g 2 mws), (mA5, cN g 32 mwd), (mA6, cN g 2 mcs), (mA7, cN g 20 mca), (mA8, cN g 2 mbs), (mA9, cN g 10 mba), (mA10, cN g 3 mlv), (mA11, cN g 96 mlf), (mA12, cZ g 3 mfl), (mA15, cN g 48 mdi), (mA16, cO g 5184 mre), (mA17, cZ g 3 mbe), (mA20, cZ g 4 mgt)] := hD
    try dsimp only at hr_2
    obtain ⟨hxr_1, hr_2⟩ := hr_2
    subst hxr_1
    have hca := hr_2
    refine lv_aload_n C.1 C.2.1 dL_law_674 rfl (lv_at hl 2 rfl) ?_
    refine lv_aload_n C.1 C.2.1 dL_law_675 rfl (lv_at hl 0 rfl) ?_
    refine lv_iload_n C.1 C.2.1 dL_law_676 rfl (lv_at hl 3 rfl) ?_
    refine r_iconst 1 C dL_law_677 rfl ?_
    refine r_addN C dL_law_678 ?_
    refine r_sld C hX hbl hbA hS (by omega) hL hz1 dL_law_679 ?_
    refine lv_aload_n C.1 C.2.1 dL_law_680 rfl (lv_at hl 0 rfl) ?_
    refine lv_iload_n C.1 C.2.1 dL_law_681 rfl (lv_at hl 3 rfl) ?_
    refine r_iconst 2 C dL_law_682 rfl ?_
    refine r_addN C dL_law_683 ?_
    refine r_sld C hX hbl hbA hS (by omega) hL hz2 dL_law_684 ?_
    refine lv_aload_n C.1 C.2.1 dL_law_685 rfl (lv_at hl 0 rfl) ?_
    refine lv_iload_n C.1 C.2.1 dL_law_686 rfl (lv_at hl 3 rfl) ?_
    refine r_iconst 3 C dL_law_687 rfl ?_
    refine r_addN C dL_law_688 ?_
    refine r_sld C hX hbl hbA hS (by omega) hL hz3 dL_law_689 ?_
    refine lv_aload_n C.1 C.2.1 dL_law_690 rfl (lv_at hl 0 rfl) ?_
    refine lv_iload_n C.1 C.2.1 dL_law_691 rfl (lv_at hl 3 rfl) ?_
    refine r_iconst 4 C dL_law_692 rfl ?_
    refine r_addN C dL_law_693 ?_
    refine r_sld C hX hbl hbA hS (by omega) hL hz4 dL_law_694 ?_
    refine ro_callV (As := [zV z1, zV z2, zV z3, zV z4]) (rest := [zV (sCodC bi mo c1 b1 z1 z2 z3 z4)]) C hK (c_X10_code_no l g mo0 mA1 mA3 mA4 mA5 mA6 mA7 mA8 mA9 mA10 mA11 mA12 mA15 mA16 mA17 mA20 Lt mAt kz uz mAb mBe mCl z1 z2 z3 z4 (hq) (by first | assumption | exact ⟨by omega, by omega⟩) (by first | assumption | exact ⟨by omega, by omega⟩) (by first | assumption | exact ⟨by omega, by omega⟩) (by first | assumption | exact ⟨by omega, by omega⟩)) (hP.sub (ws' := [(mo0, .inr (8, [nV Lt, .ref mA1, nV mAt, .ref mA3, .ref mA4, .ref mA5, .ref mA6, .ref mA7, .ref mA8, .ref mA9, .ref mA10, .ref mA11, .ref mA12, nV kz, nV uz, .ref mA15, .ref mA16, .ref mA17, mV mAb, mV mBe, .ref mA20, zV mCl]))]) [29] rfl) (ci := 8) (q0 := 0) rfl rfl kc_X10_code kl_L_88 kn_X10 ki_X10_code ke_X10_code nk_X10_code ⟨Nat.le_of_ble_eq_true rfl, Nat.le_of_ble_eq_true rfl, Nat.le_of_ble_eq_true rfl, Nat.le_of_ble_eq_true rfl⟩ hl rfl (Nat.le_of_ble_eq_true rfl) dL_law_695 (fun r_4 hr_5 => ?_)
    subst hr_5
    refine r_same 1011 C dL_law_698 rfl (by unfold sCodC; rw [if_neg hq]) ?_
    exact kk v v0 v1 v2 v3 v4 vd d0 d1 d2 d3 d4 Lt u pl nu ce uz ur kz kr lw1 hg1 wt1 le1 ca1 ba1 sg wo hu mi kn k nc nb bi mo dsg dwo dhu dmi dkn dk dnc dnb dbi dmo mAt mtd mws mwd mcs mca mbs mba mlv mlf mfl mdi mre mbe mgt mAb mBe mCl H locs ls (REL_c hR hca) hP hD hS hl
