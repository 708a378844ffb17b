/-! ===== the law: its loop ===== -/
set_option maxHeartbeats 4000000 in
set_option maxRecDepth 100000 in
theorem lw_loop {p : Program} {l : Launch} {e : Env} {s : State} {m : MethodId} {below : List Frame} {meth : Method} {c : Code} {Q : State → Prop} {b : Nat} {L : Nat} {xs : Nat → Int32} {A : Nat → Prop} {g : GG} {x0 : Nat} {t : Nat} {t0 : Nat} {rd0 : Nat} {rd1 : Nat} {q : Nat} {q0 : Nat} {us : Nat} {ur0 : Nat} {ks : Nat} {kr0 : Nat} {rc0 : Nat} {rl0 : Nat} {rh0 : Nat} {se : Nat} {ca : Nat} {ba : Nat} {mo0 : Nat} {mA1 : Nat} {mA3 : Nat} {mA4 : Nat} {mA5 : Nat} {mA6 : Nat} {mA7 : Nat} {mA8 : Nat} {mA9 : Nat} {mA10 : Nat} {mA11 : Nat} {mA12 : Nat} {mA15 : Nat} {mA16 : Nat} {mA17 : Nat} {mA20 : Nat} (hC : LWC p l e s m below meth c Q b L xs A g x0 t t0 rd0 rd1 q q0 us ur0 ks kr0 rc0 rl0 rh0 se ca ba mo0 mA1 mA3 mA4 mA5 mA6 mA7 mA8 mA9 mA10 mA11 mA12 mA15 mA16 mA17 mA20) (hend : ∀ (H : Heap) (locs : List Loc) (ls : Array Slot), va_S A s.heap H locs → W p l e room_1 s m #[Value.ref b] below meth c H locs 600000 7302250 Q (F0 m 1017 ls [])) : ∀ (N n : Nat) (v : Nat) (v0 : Nat) (v1 : Nat) (v2 : Nat) (v3 : Nat) (v4 : Nat) (vd : Nat) (d0 : Nat) (d1 : Nat) (d2 : Nat) (d3 : Nat) (d4 : Nat) (Lt : Nat) (u : Nat → Nat) (pl : Nat) (nu : Nat → Nat) (ce : Nat → Nat) (uz : Nat) (ur : Nat → Nat) (kz : Nat) (kr : Nat → Nat) (lw : Nat → Nat) (hg : Nat → Nat) (wt : Nat) (le : Nat) (c1 : Nat → Nat) (b1 : Nat → Nat) (sg : Nat → Nat) (wo : Nat → Nat) (hu : Nat → Nat) (mi : Nat → Nat) (kn : Nat → Nat) (k : Nat) (nc : Nat) (nb : Nat) (bi : Nat) (mo : Nat) (dsg : Nat → Nat) (dwo : Nat → Nat) (dhu : Nat → Nat) (dmi : Nat → Nat) (dkn : Nat → Nat) (dk : Nat) (dnc : Nat) (dnb : Nat) (dbi : Nat) (dmo : Nat) (mAt : Nat) (mtd : Nat → Nat) (mws : Nat → Nat) (mwd : Nat → Nat) (mcs : Nat → Nat) (mca : Nat → Nat) (mbs : Nat → Nat) (mba : Nat → Nat) (mlv : Nat → Nat) (mlf : Nat → Nat) (mfl : Nat → Int) (mdi : Nat → Nat) (mre : Nat → Bool) (mbe : Nat → Int) (mgt : Nat → Int) (mAb : Nat) (mBe : Nat) (mCl : Int) (H : Heap) (locs : List Loc) (ls : Array Slot) (h6 : 6 * n ≤ L) (hm : L - 6 * n < N) (hR : REL n sg wo hu mi kn k nc nb bi mo Lt u dsg dwo dhu dmi dkn ce uz ur kz kr c1 mtd mws mwd mcs mca mbs mba mlv mlf mfl mdi) (hP : va_P g.1 vwCl [(x0, .inr (7, [.ref t, .ref rd0, .ref q, .ref us, .ref ks, .ref rc0, .ref se, .ref v, .ref vd])), (t, .inr (5, [.ref t0, nV Lt])), (t0, cB g 300 u), (rd0, .inr (3, [.ref rd1, nV pl])), (rd1, cN g 4 nu), (q, .inr (1, [.ref q0])), (q0, cN g 42 ce), (us, .inr (4, [nV 8, .ref ur0, nV uz])), (ur0, cN g 336 ur), (ks, .inr (4, [nV 2, .ref kr0, nV kz])), (kr0, cN g 84 kr), (rc0, .inr (2, [.ref rl0, .ref rh0])), (rl0, cM g 72 lw), (rh0, cM g 72 hg), (se, .inr (0, [.ref rc0, .ref ca, .ref ba, nV wt, nV le])), (ca, cN g 3 c1), (ba, cN g 3 b1), (v, .inr (6, [.ref v0, .ref v1, .ref v2, .ref v3, .ref v4, nV k, nV nc, nV nb, nV bi, nV mo])), (v0, cN g 8 sg), (v1, cN g 8 wo), (v2, cN g 5 hu), (v3, cN g 5 mi), (v4, cN g 5 kn), (vd, .inr (6, [.ref d0, .ref d1, .ref d2, .ref d3, .ref d4, nV dk, nV dnc, nV dnb, nV dbi, nV dmo])), (d0, cN g 8 dsg), (d1, cN g 8 dwo), (d2, cN g 5 dhu), (d3, cN g 5 dmi), (d4, cN g 5 dkn), (mo0, .inr (8, [nV Lt, .ref mA1, nV mAt, .ref mA3, .ref mA4, .ref mA5, .ref mA6, .ref mA7, .ref mA8, .ref mA9, .ref mA10, .ref mA11, .ref mA12, nV kz, nV uz, .ref mA15, .ref mA16, .ref mA17, mV mAb, mV mBe, .ref mA20, zV mCl])), (mA1, cB g 300 u), (mA3, cN g 4 mtd), (mA4, cN g 2 mws), (mA5, cN g 32 mwd), (mA6, cN g 2 mcs), (mA7, cN g 20 mca), (mA8, cN g 2 mbs), (mA9, cN g 10 mba), (mA10, cN g 3 mlv), (mA11, cN g 96 mlf), (mA12, cZ g 3 mfl), (mA15, cN g 48 mdi), (mA16, cO g 5184 mre), (mA17, cZ g 3 mbe), (mA20, cZ g 4 mgt)] H) (hD : va_D A [(x0, .inr (7, [.ref t, .ref rd0, .ref q, .ref us, .ref ks, .ref rc0, .ref se, .ref v, .ref vd])), (t, .inr (5, [.ref t0, nV Lt])), (t0, cB g 300 u), (rd0, .inr (3, [.ref rd1, nV pl])), (rd1, cN g 4 nu), (q, .inr (1, [.ref q0])), (q0, cN g 42 ce), (us, .inr (4, [nV 8, .ref ur0, nV uz])), (ur0, cN g 336 ur), (ks, .inr (4, [nV 2, .ref kr0, nV kz])), (kr0, cN g 84 kr), (rc0, .inr (2, [.ref rl0, .ref rh0])), (rl0, cM g 72 lw), (rh0, cM g 72 hg), (se, .inr (0, [.ref rc0, .ref ca, .ref ba, nV wt, nV le])), (ca, cN g 3 c1), (ba, cN g 3 b1), (v, .inr (6, [.ref v0, .ref v1, .ref v2, .ref v3, .ref v4, nV k, nV nc, nV nb, nV bi, nV mo])), (v0, cN g 8 sg), (v1, cN g 8 wo), (v2, cN g 5 hu), (v3, cN g 5 mi), (v4, cN g 5 kn), (vd, .inr (6, [.ref d0, .ref d1, .ref d2, .ref d3, .ref d4, nV dk, nV dnc, nV dnb, nV dbi, nV dmo])), (d0, cN g 8 dsg), (d1, cN g 8 dwo), (d2, cN g 5 dhu), (d3, cN g 5 dmi), (d4, cN g 5 dkn), (mo0, .inr (8, [nV Lt, .ref mA1, nV mAt, .ref mA3, .ref mA4, .ref mA5, .ref mA6, .ref mA7, .ref mA8, .ref mA9, .ref mA10, .ref mA11, .ref mA12, nV kz, nV uz, .ref mA15, .ref mA16, .ref mA17, mV mAb, mV mBe, .ref mA20, zV mCl])), (mA1, cB g 300 u), (mA3, cN g 4 mtd), (mA4, cN g 2 mws), (mA5, cN g 32 mwd), (mA6, cN g 2 mcs), (mA7, cN g 20 mca), (mA8, cN g 2 mbs), (mA9, cN g 10 mba), (mA10, cN g 3 mlv), (mA11, cN g 96 mlf), (mA12, cZ g 3 mfl), (mA15, cN g 48 mdi), (mA16, cO g 5184 mre), (mA17, cZ g 3 mbe), (mA20, cZ g 4 mgt)]) (hS : va_S A s.heap H locs) (hl : lv_has ls 4 [(0, .ref b), (1, .ref x0), (2, .ref mo0), (3, nV (6 * n))]), W p l e room_1 s m #[Value.ref b] below meth c H locs 600000 7302250 Q (F0 m 18 ls []) := by
  intro N
  induction N with
  | zero => intro n v v0 v1 v2 v3 v4 vd d0 d1 d2 d3 d4 Lt u pl nu ce uz ur kz kr lw hg wt le c1 b1 sg wo hu mi kn k nc nb bi mo dsg dwo dhu dmi dkn dk dnc dnb dbi dmo mAt mtd mws mwd mcs mca mbs mba mlv mlf mfl mdi mre mbe mgt mAb mBe mCl H locs ls h6 hm; exact absurd hm (Nat.not_lt_zero _)
  | succ N ih =>
    intro n v v0 v1 v2 v3 v4 vd d0 d1 d2 d3 d4 Lt u pl nu ce uz ur kz kr lw hg wt le c1 b1 sg wo hu mi kn k nc nb bi mo dsg dwo dhu dmi dkn dk dnc dnb dbi dmo mAt mtd mws mwd mcs mca mbs mba mlv mlf mfl mdi mre mbe mgt mAb mBe mCl H locs ls h6 hm hR hP hD hS hl
    obtain ⟨C, hK, hX, hbl, hbA, hA, hL⟩ := id hC
    refine lv_iload_n C.1 C.2.1 dL_law_18 rfl (lv_at hl 3 rfl) ?_
    refine lv_aload_n C.1 C.2.1 dL_law_19 rfl (lv_at hl 0 rfl) ?_
    refine r_slen C hX hbl hbA hS dL_law_20 ?_
    refine r_bipush 6 C dL_law_21 (by decide) ?_
    refine r_subZ C dL_law_23 ?_
    refine r_cgt 1017 C dL_law_24 rfl ⟨rgN (by omega), ⟨by omega, by omega⟩⟩ (fun h => ?_) (fun h => ?_)
    · exact hend H locs ls hS
    have hn : 6 * n + 6 ≤ L := by omega
    have kk : LWK p l e s m below meth c Q b L xs A g x0 t t0 rd0 rd1 q q0 us ur0 ks kr0 rc0 rl0 rh0 se ca ba mo0 mA1 mA3 mA4 mA5 mA6 mA7 mA8 mA9 mA10 mA11 mA12 mA15 mA16 mA17 mA20 n := by
      intro v v0 v1 v2 v3 v4 vd d0 d1 d2 d3 d4 Lt u pl nu ce uz ur kz kr lw hg wt le c1 b1 sg wo hu mi kn k nc nb bi mo dsg dwo dhu dmi dkn dk dnc dnb dbi dmo mAt mtd mws mwd mcs mca mbs mba mlv mlf mfl mdi mre mbe mgt mAb mBe mCl H locs ls hR hP hD hS hl
      refine r_incN (k := 3) (n := 6) [(3, nV (6 * n + 6)), (0, .ref b), (1, .ref x0), (2, .ref mo0)] C dL_law_1011 hl rfl rfl (by decide) rfl (fun ls hl => ?_)
      refine r_goto 18 C dL_law_1014 rfl ?_
      have e6 : 6 * n + 6 = 6 * (n + 1) := rfl
      rw [e6] at hl
      exact ih (n + 1) v v0 v1 v2 v3 v4 vd d0 d1 d2 d3 d4 Lt u pl nu ce uz ur kz kr lw hg wt le c1 b1 sg wo hu mi kn k nc nb bi mo dsg dwo dhu dmi dkn dk dnc dnb dbi dmo mAt mtd mws mwd mcs mca mbs mba mlv mlf mfl mdi mre mbe mgt mAb mBe mCl H locs ls (by omega) (by omega) hR hP hD hS (lv_sub hl [1, 2, 3, 0] rfl)
    obtain ⟨z0, hz0, rz0⟩ := scr_z (xs (6 * n))
    refine lv_aload_n C.1 C.2.1 dL_law_27 rfl (lv_at hl 0 rfl) ?_
    refine lv_iload_n C.1 C.2.1 dL_law_28 rfl (lv_at hl 3 rfl) ?_
    refine r_sld C hX hbl hbA hS (by omega) hL hz0 dL_law_29 ?_
    refine r_bipush 31 C dL_law_30 (by decide) ?_
    refine lv_iand C.1 C.2.1 dL_law_32 ?_
    obtain ⟨w, hw, hw2⟩ := and31 (iI z0)
    refine r_topRN w hw2 ?_
    by_cases hs0 : ((w : Nat) : Int) = 0
    · refine r_tsw 0 152 C dL_law_33 (rgN (by omega)) (by omega) (by decide) rfl rfl ?_
      exact lw_0 hC hn hR hP hD hS hl kk
    by_cases hs1 : ((w : Nat) : Int) = 1
    · refine r_tsw 1 215 C dL_law_33 (rgN (by omega)) (by omega) (by decide) rfl rfl ?_
      exact lw_1 hC hn hR hP hD hS hl kk
    by_cases hs2 : ((w : Nat) : Int) = 2
    · refine r_tsw 2 228 C dL_law_33 (rgN (by omega)) (by omega) (by decide) rfl rfl ?_
      exact lw_2 hC hn hR hP hD hS hl kk
    by_cases hs3 : ((w : Nat) : Int) = 3
    · refine r_tsw 3 241 C dL_law_33 (rgN (by omega)) (by omega) (by decide) rfl rfl ?_
      exact lw_3 hC hn hR hP hD hS hl kk
    by_cases hs4 : ((w : Nat) : Int) = 4
    · refine r_tsw 4 254 C dL_law_33 (rgN (by omega)) (by omega) (by decide) rfl rfl ?_
      exact lw_4 hC hn hR hP hD hS hl kk
    by_cases hs5 : ((w : Nat) : Int) = 5
    · refine r_tsw 5 287 C dL_law_33 (rgN (by omega)) (by omega) (by decide) rfl rfl ?_
      exact lw_5 hC hn hR hP hD hS hl kk
    by_cases hs6 : ((w : Nat) : Int) = 6
    · refine r_tsw 6 320 C dL_law_33 (rgN (by omega)) (by omega) (by decide) rfl rfl ?_
      exact lw_6 hC hn hR hP hD hS hl kk
    by_cases hs7 : ((w : Nat) : Int) = 7
    · refine r_tsw 7 333 C dL_law_33 (rgN (by omega)) (by omega) (by decide) rfl rfl ?_
      exact lw_7 hC hn hR hP hD hS hl kk
    by_cases hs8 : ((w : Nat) : Int) = 8
    · refine r_tsw 8 356 C dL_law_33 (rgN (by omega)) (by omega) (by decide) rfl rfl ?_
      exact lw_8 hC hn hR hP hD hS hl kk
    by_cases hs9 : ((w : Nat) : Int) = 9
    · refine r_tsw 9 379 C dL_law_33 (rgN (by omega)) (by omega) (by decide) rfl rfl ?_
      exact lw_9 hC hn hR hP hD hS hl kk
    by_cases hs10 : ((w : Nat) : Int) = 10
    · refine r_tsw 10 392 C dL_law_33 (rgN (by omega)) (by omega) (by decide) rfl rfl ?_
      exact lw_10 hC hn hR hP hD hS hl kk
    by_cases hs11 : ((w : Nat) : Int) = 11
    · refine r_tsw 11 425 C dL_law_33 (rgN (by omega)) (by omega) (by decide) rfl rfl ?_
      exact lw_11 hC hn hR hP hD hS hl kk
    by_cases hs12 : ((w : Nat) : Int) = 12
    · refine r_tsw 12 468 C dL_law_33 (rgN (by omega)) (by omega) (by decide) rfl rfl ?_
      exact lw_12 hC hn hR hP hD hS hl kk
    by_cases hs13 : ((w : Nat) : Int) = 13
    · refine r_tsw 13 511 C dL_law_33 (rgN (by omega)) (by omega) (by decide) rfl rfl ?_
      exact lw_13 hC hn hR hP hD hS hl kk
    by_cases hs14 : ((w : Nat) : Int) = 14
    · refine r_tsw 14 564 C dL_law_33 (rgN (by omega)) (by omega) (by decide) rfl rfl ?_
      exact lw_14 hC hn hR hP hD hS hl kk
    by_cases hs15 : ((w : Nat) : Int) = 15
    · refine r_tsw 15 607 C dL_law_33 (rgN (by omega)) (by omega) (by decide) rfl rfl ?_
      exact lw_15 hC hn hR hP hD hS hl kk
    by_cases hs16 : ((w : Nat) : Int) = 16
    · refine r_tsw 16 650 C dL_law_33 (rgN (by omega)) (by omega) (by decide) rfl rfl ?_
      exact lw_16 hC hn hR hP hD hS hl kk
    by_cases hs17 : ((w : Nat) : Int) = 17
    · refine r_tsw 17 703 C dL_law_33 (rgN (by omega)) (by omega) (by decide) rfl rfl ?_
      exact lw_17 hC hn hR hP hD hS hl kk
    by_cases hs18 : ((w : Nat) : Int) = 18
    · refine r_tsw 18 756 C dL_law_33 (rgN (by omega)) (by omega) (by decide) rfl rfl ?_
      exact lw_18 hC hn hR hP hD hS hl kk
    by_cases hs19 : ((w : Nat) : Int) = 19
    · refine r_tsw 19 789 C dL_law_33 (rgN (by omega)) (by omega) (by decide) rfl rfl ?_
      exact lw_19 hC hn hR hP hD hS hl kk
    by_cases hs20 : ((w : Nat) : Int) = 20
    · refine r_tsw 20 853 C dL_law_33 (rgN (by omega)) (by omega) (by decide) rfl rfl ?_
      exact lw_20 hC hn hR hP hD hS hl kk
    by_cases hs21 : ((w : Nat) : Int) = 21
    · refine r_tsw 21 886 C dL_law_33 (rgN (by omega)) (by omega) (by decide) rfl rfl ?_
      exact lw_21 hC hn hR hP hD hS hl kk
    by_cases hs22 : ((w : Nat) : Int) = 22
    · refine r_tsw 22 919 C dL_law_33 (rgN (by omega)) (by omega) (by decide) rfl rfl ?_
      exact lw_22 hC hn hR hP hD hS hl kk
    by_cases hs23 : ((w : Nat) : Int) = 23
    · refine r_tsw 23 962 C dL_law_33 (rgN (by omega)) (by omega) (by decide) rfl rfl ?_
      exact lw_23 hC hn hR hP hD hS hl kk
    by_cases hs24 : ((w : Nat) : Int) = 24
    · refine r_tsw 24 975 C dL_law_33 (rgN (by omega)) (by omega) (by decide) rfl rfl ?_
      exact lw_24 hC hn hR hP hD hS hl kk
    by_cases hs25 : ((w : Nat) : Int) = 25
    · refine r_tsw 25 988 C dL_law_33 (rgN (by omega)) (by omega) (by decide) rfl rfl ?_
      exact lw_25 hC hn hR hP hD hS hl kk
    refine r_tswD 1011 C dL_law_33 (rgN (by omega)) (by omega) rfl ?_
    exact kk v v0 v1 v2 v3 v4 vd d0 d1 d2 d3 d4 Lt u pl nu ce uz ur kz kr lw hg wt le c1 b1 sg wo hu mi kn k nc nb bi mo dsg dwo dhu dmi dkn dk dnc dnb dbi dmo mAt mtd mws mwd mcs mca mbs mba mlv mlf mfl mdi mre mbe mgt mAb mBe mCl H locs ls (REL_n hR) hP hD hS hl
