set_option maxHeartbeats 4000000 in
set_option maxRecDepth 100000 in
theorem c_X3_mark (l : Launch) (g : GG) (rc0 : Nat) (rl0 : Nat) (rh0 : Nat) (lw : Nat → Nat) (hg : Nat → Nat) (x : Nat) (w : Nat) (hx : x < 72) (hw : w < 72) (hlo : lw x < 2 ^ 64) (hhi : hg x < 2 ^ 64) : WRv g l yX3_mark cX3_mark 3 3 [(rc0, .inr (2, [.ref rl0, .ref rh0])), (rl0, cM g 72 lw), (rh0, cM g 72 hg)] [.ref rc0, nV x, nV w] (fun (_ : Unit) => True) (fun (_ : Unit) => [(rc0, .inr (2, [.ref rl0, .ref rh0])), (rl0, cM g 72 (if w < 64 then upN lw x (lw x ||| 2 ^ w) else lw)), (rh0, cM g 72 (if w < 64 then hg else upN hg x (hg x ||| 2 ^ (w - 64))))]) := by
  refine wr_startV (by decide +kernel) (Nat.le_of_ble_eq_true rfl) ?_
  intro p e s m args below meth c Q A ls C hK hA ret hP hD hS hl
  have C : CT p s m args meth c cX3_mark RX3 3 := C
  have hl : lv_has ls 3 [(0, .ref rc0), (1, nV x), (2, nV w)] := hl
  have hlx := hlo
  have hhx := hhi
  refine lv_iload_n C.1 C.2.1 dX3_mark_0 rfl (lv_at hl 1 rfl) ?_
  refine ro_callSN (As := [nV x]) (rest := []) C hK (c_X9_isSign l g ((x : Nat) : Int) (by first | assumption | exact ⟨by omega, by omega⟩)) (hP.sub (ws' := []) [] rfl) kc_X9_isSign kx_X3_18 kn_X9 ks_X9_isSign nk_X9_isSign (rm_lt (by decide) (by decide)) hl rfl (Nat.le_of_ble_eq_true rfl) dX3_mark_1 (fun r_1 hr_2 => ?_)
  subst hr_2
  refine r_bne 8 C dX3_mark_4 rfl (fun h_3 => ?_) (fun h_3 => ?_)
  rotate_left
  · exact absurd h_3 (by omega)
  refine lv_iload_n C.1 C.2.1 dX3_mark_8 rfl (lv_at hl 2 rfl) ?_
  refine r_bipush 64 C dX3_mark_9 (by decide) ?_
  refine r_cge 29 C dX3_mark_11 rfl ⟨rgN (by omega), rgN (by decide)⟩ (fun h_4 => ?_) (fun h_4 => ?_)
  · skip
    refine lv_aload_n C.1 C.2.1 dX3_mark_29 rfl (lv_at hl 0 rfl) ?_
    refine r_get C hK hP kw_X3 (ci := 2) rfl 0 1 (by decide) kf_X3_15 rfl rfl dX3_mark_30 ?_
    refine lv_iload_n C.1 C.2.1 dX3_mark_33 rfl (lv_at hl 1 rfl) ?_
    refine lv_dup2_11 C.1 C.2.1 dX3_mark_34 rfl rfl ?_
    refine r_aldM C hK hP 2 rfl ⟨by omega, by omega⟩ dX3_mark_35 ?_
    refine r_lconst 1 C dX3_mark_36 rfl ?_
    refine lv_iload_n C.1 C.2.1 dX3_mark_37 rfl (lv_at hl 2 rfl) ?_
    refine r_bipush 64 C dX3_mark_38 (by decide) ?_
    refine r_subN C dX3_mark_40 (by omega) ?_
    refine lv_lshl C.1 C.2.1 dX3_mark_41 rfl ?_
    refine lv_lor C.1 C.2.1 dX3_mark_42 ?_
    refine r_topRL (hg x ||| 2 ^ (w - 64)) (by exact or_bit hhx (by omega)) ?_
    refine r_astM C hK hP hD hS 2 rfl ⟨by omega, by omega⟩ dX3_mark_43 (fun H locs hP hD hS => ?_)
    have hP : va_P g.1 vwCl [(rc0, .inr (2, [.ref rl0, .ref rh0])), (rl0, cM g 72 lw), (rh0, cM g 72 (upN hg x (hg x ||| 2 ^ (w - 64))))] H := hP
    have hD : va_D A [(rc0, .inr (2, [.ref rl0, .ref rh0])), (rl0, cM g 72 lw), (rh0, cM g 72 (upN hg x (hg x ||| 2 ^ (w - 64))))] := hD
    exact ret (()) dX3_mark_44 hS (by first | (rw [if_pos (by omega), if_pos (by omega)]; exact hP) | (rw [if_neg (by omega), if_neg (by omega)]; exact hP)) (trivial)
  refine lv_aload_n C.1 C.2.1 dX3_mark_14 rfl (lv_at hl 0 rfl) ?_
  refine r_get C hK hP kw_X3 (ci := 2) rfl 0 0 (by decide) kf_X3_9 rfl rfl dX3_mark_15 ?_
  refine lv_iload_n C.1 C.2.1 dX3_mark_18 rfl (lv_at hl 1 rfl) ?_
  refine lv_dup2_11 C.1 C.2.1 dX3_mark_19 rfl rfl ?_
  refine r_aldM C hK hP 1 rfl ⟨by omega, by omega⟩ dX3_mark_20 ?_
  refine r_lconst 1 C dX3_mark_21 rfl ?_
  refine lv_iload_n C.1 C.2.1 dX3_mark_22 rfl (lv_at hl 2 rfl) ?_
  refine lv_lshl C.1 C.2.1 dX3_mark_23 rfl ?_
  refine lv_lor C.1 C.2.1 dX3_mark_24 ?_
  refine r_topRL (lw x ||| 2 ^ w) (by exact or_bit hlx (by omega)) ?_
  refine r_astM C hK hP hD hS 1 rfl ⟨by omega, by omega⟩ dX3_mark_25 (fun H locs hP hD hS => ?_)
  have hP : va_P g.1 vwCl [(rc0, .inr (2, [.ref rl0, .ref rh0])), (rl0, cM g 72 (upN lw x (lw x ||| 2 ^ w))), (rh0, cM g 72 hg)] H := hP
  have hD : va_D A [(rc0, .inr (2, [.ref rl0, .ref rh0])), (rl0, cM g 72 (upN lw x (lw x ||| 2 ^ w))), (rh0, cM g 72 hg)] := hD
  refine r_goto 44 C dX3_mark_26 rfl ?_
  exact ret (()) dX3_mark_44 hS (by first | (rw [if_pos (by omega), if_pos (by omega)]; exact hP) | (rw [if_neg (by omega), if_neg (by omega)]; exact hP)) (trivial)
set_option maxHeartbeats 4000000 in
set_option maxRecDepth 100000 in
theorem c_X3_markBitten (l : Launch) (g : GG) (rc0 : Nat) (rl0 : Nat) (rh0 : Nat) (lw : Nat → Nat) (hg : Nat → Nat) (x : Nat) (a : Nat) (b : Nat) (S : Nat → Bool) (hx : x < 72) (ha : a < 72) (hb : b < 1000) (hRB : RBn (lw x) (hg x) S) : WRv g l yX3_markBitten cX3_markBitten 6 4 [(rc0, .inr (2, [.ref rl0, .ref rh0])), (rl0, cM g 72 lw), (rh0, cM g 72 hg)] [.ref rc0, nV x, nV a, nV b] (fun (uq_ : (Nat → Nat) × (Nat → Nat)) => match uq_ with | (lw1, hg1) => RBn (lw1 x) (hg1 x) (fun t => S t || rj a t (b + 1)) ∧ ∀ y, y ≠ x → lw1 y = lw y ∧ hg1 y = hg y) (fun (uq_ : (Nat → Nat) × (Nat → Nat)) => match uq_ with | (lw1, hg1) => [(rc0, .inr (2, [.ref rl0, .ref rh0])), (rl0, cM g 72 lw1), (rh0, cM g 72 hg1)]) := by
  refine wr_startV (by decide +kernel) (Nat.le_of_ble_eq_true rfl) ?_
  intro p e s m args below meth c Q A ls C hK hA ret hP hD hS hl
  have C : CT p s m args meth c cX3_markBitten RX3 6 := C
  have hl : lv_has ls 6 [(0, .ref rc0), (1, nV x), (2, nV a), (3, nV b)] := hl
  refine lv_iload_n C.1 C.2.1 dX3_markBitten_0 rfl (lv_at hl 2 rfl) ?_
  refine lv_istore (lv' := [(4, nV a), (0, .ref rc0), (1, nV x), (2, nV a), (3, nV b)]) C.1 C.2.1 dX3_markBitten_1 hl (by decide) rfl (fun ls hl => ?_)
  refine lv_aload_n C.1 C.2.1 dX3_markBitten_3 rfl (lv_at hl 1 rfl) ?_
  refine lv_iload_n C.1 C.2.1 dX3_markBitten_4 rfl (lv_at hl 2 rfl) ?_
  refine lv_iload C.1 C.2.1 dX3_markBitten_5 (lv_at hl 0 rfl) ?_
  refine wr_callVV (As := [nV x, nV a]) (rest := []) C hK (c_X3_mark l g rc0 rl0 rh0 lw hg x a (by first | assumption | omega) (by first | assumption | omega) (hRB.1) (hRB.2.1)) [0, 1, 2] rfl (fun _ => rfl) (by decide) hP hD hS hA (ci := 2) (q0 := 0) rfl rfl kc_X3_mark kl_X3_32 kn_X3 ki_X3_mark ke_X3_mark nk_X3_mark (rm_lt (by decide) (by decide)) hl rfl (Nat.le_of_ble_eq_true rfl) dX3_markBitten_7 (fun u_3 H locs hr_2 hP hD hS => ?_)
  have hP : va_P g.1 vwCl [(rc0, .inr (2, [.ref rl0, .ref rh0])), (rl0, cM g 72 (if a < 64 then upN lw x (lw x ||| 2 ^ a) else lw)), (rh0, cM g 72 (if a < 64 then hg else upN hg x (hg x ||| 2 ^ (a - 64))))] H := hP
  have hD : va_D A [(rc0, .inr (2, [.ref rl0, .ref rh0])), (rl0, cM g 72 (if a < 64 then upN lw x (lw x ||| 2 ^ a) else lw)), (rh0, cM g 72 (if a < 64 then hg else upN hg x (hg x ||| 2 ^ (a - 64))))] := hD
  refine r_iconst 0 C dX3_markBitten_10 rfl ?_
  refine lv_istore (lv' := [(5, nV 0), (4, nV a), (0, .ref rc0), (1, nV x), (2, nV a), (3, nV b)]) C.1 C.2.1 dX3_markBitten_11 hl (by decide) rfl (fun ls hl => ?_)
  have L13 : ∀ (n_13 : Nat) (i : Nat) (t : Nat) (lwA : Nat → Nat) (hgA : Nat → Nat) (H : Heap) (locs : List Loc) (ls : Array Slot) (hi : i ≤ b) (ht : t = bts a i) (htb : t < 72) (hR : RBn (lwA x) (hgA x) (fun t => S t || rj a t (i + 1))) (hO : ∀ y, y ≠ x → lwA y = lw y ∧ hgA y = hg y) (hm : b - i < n_13) (hP : va_P g.1 vwCl [(rc0, .inr (2, [.ref rl0, .ref rh0])), (rl0, cM g 72 lwA), (rh0, cM g 72 hgA)] H) (hD : va_D A [(rc0, .inr (2, [.ref rl0, .ref rh0])), (rl0, cM g 72 lwA), (rh0, cM g 72 hgA)]) (hS : va_S A s.heap H locs) (hl : lv_has ls 6 [(5, nV i), (4, nV t), (0, .ref rc0), (1, nV x), (2, nV a), (3, nV b)]), W p l e (rD 4) s m args below meth c H locs 0 0 Q (F0 m 13 ls []) := by
    intro n_13
    induction n_13 with
    | zero => intro i t lwA hgA H locs ls hi ht htb hR hO hm hP hD hS hl; exact absurd hm (Nat.not_lt_zero _)
    | succ n_13 ih_13 =>
      intro i t lwA hgA H locs ls hi ht htb hR hO hm hP hD hS hl
      refine lv_iload C.1 C.2.1 dX3_markBitten_13 (lv_at hl 0 rfl) ?_
      refine lv_iload_n C.1 C.2.1 dX3_markBitten_15 rfl (lv_at hl 5 rfl) ?_
      refine r_cge 39 C dX3_markBitten_16 rfl ⟨rgN (by omega), rgN (by omega)⟩ (fun h_4 => ?_) (fun h_4 => ?_)
      · skip
        exact ret ((lwA, hgA)) dX3_markBitten_39 hS hP (by rw [show i = b by omega] at hR; exact ⟨hR, hO⟩)
      refine lv_iload C.1 C.2.1 dX3_markBitten_19 (lv_at hl 1 rfl) ?_
      refine ro_callS (As := [nV t]) (rest := []) C hK (c_X6_bitten l g t (by first | assumption | omega)) (hP.sub (ws' := []) [] rfl) kc_X6_bitten kl_X3_36 kn_X6 ks_X6_bitten nk_X6_bitten (rm_lt (by decide) (by decide)) hl rfl (Nat.le_of_ble_eq_true rfl) dX3_markBitten_21 (fun r_5 hr_6 => ?_)
      subst hr_6
      have hf_7 := bt_bd (t) (by omega)
      refine lv_istore (lv' := [(4, nV (bt t)), (5, nV i), (0, .ref rc0), (1, nV x), (2, nV a), (3, nV b)]) C.1 C.2.1 dX3_markBitten_24 hl (by decide) rfl (fun ls hl => ?_)
      refine lv_aload_n C.1 C.2.1 dX3_markBitten_26 rfl (lv_at hl 2 rfl) ?_
      refine lv_iload_n C.1 C.2.1 dX3_markBitten_27 rfl (lv_at hl 3 rfl) ?_
      refine lv_iload C.1 C.2.1 dX3_markBitten_28 (lv_at hl 0 rfl) ?_
      refine wr_callVV (As := [nV x, nV (bt t)]) (rest := []) C hK (c_X3_mark l g rc0 rl0 rh0 lwA hgA x (bt t) (by first | assumption | omega) (by first | assumption | omega) (hR.1) (hR.2.1)) [0, 1, 2] rfl (fun _ => rfl) (by decide) hP hD hS hA (ci := 2) (q0 := 0) rfl rfl kc_X3_mark kl_X3_32 kn_X3 ki_X3_mark ke_X3_mark nk_X3_mark (rm_lt (by decide) (by decide)) hl rfl (Nat.le_of_ble_eq_true rfl) dX3_markBitten_30 (fun u_10 H locs hr_9 hP hD hS => ?_)
      have hP : va_P g.1 vwCl [(rc0, .inr (2, [.ref rl0, .ref rh0])), (rl0, cM g 72 (if (bt t) < 64 then upN lwA x (lwA x ||| 2 ^ (bt t)) else lwA)), (rh0, cM g 72 (if (bt t) < 64 then hgA else upN hgA x (hgA x ||| 2 ^ ((bt t) - 64))))] H := hP
      have hD : va_D A [(rc0, .inr (2, [.ref rl0, .ref rh0])), (rl0, cM g 72 (if (bt t) < 64 then upN lwA x (lwA x ||| 2 ^ (bt t)) else lwA)), (rh0, cM g 72 (if (bt t) < 64 then hgA else upN hgA x (hgA x ||| 2 ^ ((bt t) - 64))))] := hD
      refine r_incN (k := 1) (n := 1) [(5, nV (i + 1)), (4, nV (bt t)), (0, .ref rc0), (1, nV x), (2, nV a), (3, nV b)] C dX3_markBitten_33 hl rfl rfl (by decide) rfl (fun ls hl => ?_)
      refine r_goto 13 C dX3_markBitten_36 rfl ?_
      exact ih_13 (i + 1) (bt t) (if (bt t) < 64 then upN lwA x (lwA x ||| 2 ^ (bt t)) else lwA) (if (bt t) < 64 then hgA else upN hgA x (hgA x ||| 2 ^ ((bt t) - 64))) _ _ _ (by first | assumption | omega) (by rw [ht]; rfl) (by first | assumption | omega) (mk_RB hR (bt_bd t htb) (fun q => by rw [ht]; show (S q || (rj a q (i + 1) || decide (bt (bts a i) = q))) = _; rw [Bool.or_assoc])) (fun y hy => ⟨(mk_ot1 hy).trans (hO y hy).1, (mk_ot2 hy).trans (hO y hy).2⟩) (by omega) hP hD hS (lv_sub hl [0, 1, 2, 3, 4, 5] rfl)
  exact L13 (b - 0 + 1) 0 a (if a < 64 then upN lw x (lw x ||| 2 ^ a) else lw) (if a < 64 then hg else upN hg x (hg x ||| 2 ^ (a - 64))) _ _ _ (by first | assumption | omega) (rfl) (by first | assumption | omega) (mk_RB hRB ha (fun q => by show (S q || (false || decide (a = q))) = _; rw [Bool.false_or])) (fun y hy => ⟨mk_ot1 hy, mk_ot2 hy⟩) (Nat.lt_succ_self _) hP hD hS (lv_sub hl [0, 1, 2, 3, 4, 5] rfl)
set_option maxHeartbeats 4000000 in
set_option maxRecDepth 100000 in
theorem c_X3_fill (l : Launch) (g : GG) (rc0 : Nat) (rl0 : Nat) (rh0 : Nat) (lw : Nat → Nat) (hg : Nat → Nat) (v : Nat) (v0 : Nat) (v1 : Nat) (v2 : Nat) (v3 : Nat) (v4 : Nat) (k : Nat) (nc : Nat) (nb : Nat) (bi : Nat) (mo : Nat) (x : Nat) (d : Nat) (b : Nat) (hbm : (1 ≤ bi ∧ bi ≤ 9) ∧ (1 ≤ mo ∧ mo ≤ 9)) (hx : x < 72) (hd : d < 1000) (hb : b < 1000) : WRv g l yX3_fill cX3_fill 8 5 [(rc0, .inr (2, [.ref rl0, .ref rh0])), (rl0, cM g 72 lw), (rh0, cM g 72 hg), (v, .inr (6, [.ref v0, .ref v1, .ref v2, .ref v3, .ref v4, nV k, nV nc, nV nb, nV bi, nV mo]))] [.ref rc0, .ref v, nV x, nV d, nV b] (fun (uq_ : (Nat → Nat) × (Nat → Nat)) => match uq_ with | (lw1, hg1) => RBn (lw1 x) (hg1 x) (fun t => rc bi mo x b t (d + 1)) ∧ ∀ y, y ≠ x → lw1 y = lw y ∧ hg1 y = hg y) (fun (uq_ : (Nat → Nat) × (Nat → Nat)) => match uq_ with | (lw1, hg1) => [(rc0, .inr (2, [.ref rl0, .ref rh0])), (rl0, cM g 72 lw1), (rh0, cM g 72 hg1), (v, .inr (6, [.ref v0, .ref v1, .ref v2, .ref v3, .ref v4, nV k, nV nc, nV nb, nV bi, nV mo]))]) := by
  refine wr_startV (by decide +kernel) (Nat.le_of_ble_eq_true rfl) ?_
  intro p e s m args below meth c Q A ls C hK hA ret hP hD hS hl
  have C : CT p s m args meth c cX3_fill RX3 8 := C
  have hl : lv_has ls 8 [(0, .ref rc0), (1, .ref v), (2, nV x), (3, nV d), (4, nV b)] := hl
  refine lv_iload_n C.1 C.2.1 dX3_fill_0 rfl (lv_at hl 2 rfl) ?_
  refine ro_callSN (As := [nV x]) (rest := []) C hK (c_X9_isSign l g ((x : Nat) : Int) (by first | assumption | exact ⟨by omega, by omega⟩)) (hP.sub (ws' := []) [] rfl) kc_X9_isSign kx_X3_18 kn_X9 ks_X9_isSign nk_X9_isSign (rm_lt (by decide) (by decide)) hl rfl (Nat.le_of_ble_eq_true rfl) dX3_fill_1 (fun r_1 hr_2 => ?_)
  subst hr_2
  refine r_bne 8 C dX3_fill_4 rfl (fun h_3 => ?_) (fun h_3 => ?_)
  rotate_left
  · exact absurd h_3 (by omega)
  refine lv_aload_n C.1 C.2.1 dX3_fill_8 rfl (lv_at hl 0 rfl) ?_
  refine r_get C hK hP kw_X3 (ci := 2) rfl 0 0 (by decide) kf_X3_9 rfl rfl dX3_fill_9 ?_
  refine lv_iload_n C.1 C.2.1 dX3_fill_12 rfl (lv_at hl 2 rfl) ?_
  refine r_lconst 0 C dX3_fill_13 rfl ?_
  refine r_astM C hK hP hD hS 1 rfl ⟨by omega, by omega⟩ dX3_fill_14 (fun H locs hP hD hS => ?_)
  have hP : va_P g.1 vwCl [(rc0, .inr (2, [.ref rl0, .ref rh0])), (rl0, cM g 72 (upN lw x 0)), (rh0, cM g 72 hg), (v, .inr (6, [.ref v0, .ref v1, .ref v2, .ref v3, .ref v4, nV k, nV nc, nV nb, nV bi, nV mo]))] H := hP
  have hD : va_D A [(rc0, .inr (2, [.ref rl0, .ref rh0])), (rl0, cM g 72 (upN lw x 0)), (rh0, cM g 72 hg), (v, .inr (6, [.ref v0, .ref v1, .ref v2, .ref v3, .ref v4, nV k, nV nc, nV nb, nV bi, nV mo]))] := hD
  refine lv_aload_n C.1 C.2.1 dX3_fill_15 rfl (lv_at hl 0 rfl) ?_
  refine r_get C hK hP kw_X3 (ci := 2) rfl 0 1 (by decide) kf_X3_15 rfl rfl dX3_fill_16 ?_
  refine lv_iload_n C.1 C.2.1 dX3_fill_19 rfl (lv_at hl 2 rfl) ?_
  refine r_lconst 0 C dX3_fill_20 rfl ?_
  refine r_astM C hK hP hD hS 2 rfl ⟨by omega, by omega⟩ dX3_fill_21 (fun H locs hP hD hS => ?_)
  have hP : va_P g.1 vwCl [(rc0, .inr (2, [.ref rl0, .ref rh0])), (rl0, cM g 72 (upN lw x 0)), (rh0, cM g 72 (upN hg x 0)), (v, .inr (6, [.ref v0, .ref v1, .ref v2, .ref v3, .ref v4, nV k, nV nc, nV nb, nV bi, nV mo]))] H := hP
  have hD : va_D A [(rc0, .inr (2, [.ref rl0, .ref rh0])), (rl0, cM g 72 (upN lw x 0)), (rh0, cM g 72 (upN hg x 0)), (v, .inr (6, [.ref v0, .ref v1, .ref v2, .ref v3, .ref v4, nV k, nV nc, nV nb, nV bi, nV mo]))] := hD
  refine r_bipushZ C dX3_fill_22 (by decide) ?_
  refine lv_istore (lv' := [(5, zV (-4)), (0, .ref rc0), (1, .ref v), (2, nV x), (3, nV d), (4, nV b)]) C.1 C.2.1 dX3_fill_24 hl (by decide) rfl (fun ls hl => ?_)
  refine r_iconst 0 C dX3_fill_26 rfl ?_
  refine lv_istore (lv' := [(6, nV 0), (5, zV (-4)), (0, .ref rc0), (1, .ref v), (2, nV x), (3, nV d), (4, nV b)]) C.1 C.2.1 dX3_fill_27 hl (by decide) rfl (fun ls hl => ?_)
  have L29 : ∀ (n_29 : Nat) (i : Nat) (bf : Int) (lwA : Nat → Nat) (hgA : Nat → Nat) (H : Heap) (locs : List Loc) (ls : Array Slot) (hi : i ≤ d + 1) (hbf : (i = 0 ∧ bf = -4) ∨ (0 < i ∧ bf = (ag bi mo x (i - 1) : Int))) (hbb : -4 ≤ bf ∧ bf < 72) (hR : RBn (lwA x) (hgA x) (fun t => rc bi mo x b t i)) (hO : ∀ y, y ≠ x → lwA y = lw y ∧ hgA y = hg y) (hm : d + 1 - i < n_29) (hP : va_P g.1 vwCl [(rc0, .inr (2, [.ref rl0, .ref rh0])), (rl0, cM g 72 lwA), (rh0, cM g 72 hgA), (v, .inr (6, [.ref v0, .ref v1, .ref v2, .ref v3, .ref v4, nV k, nV nc, nV nb, nV bi, nV mo]))] H) (hD : va_D A [(rc0, .inr (2, [.ref rl0, .ref rh0])), (rl0, cM g 72 lwA), (rh0, cM g 72 hgA), (v, .inr (6, [.ref v0, .ref v1, .ref v2, .ref v3, .ref v4, nV k, nV nc, nV nb, nV bi, nV mo]))]) (hS : va_S A s.heap H locs) (hl : lv_has ls 8 [(6, nV i), (5, zV bf), (0, .ref rc0), (1, .ref v), (2, nV x), (3, nV d), (4, nV b)]), W p l e (rD 5) s m args below meth c H locs 0 0 Q (F0 m 29 ls []) := by
    intro n_29
    induction n_29 with
    | zero => intro i bf lwA hgA H locs ls hi hbf hbb hR hO hm hP hD hS hl; exact absurd hm (Nat.not_lt_zero _)
    | succ n_29 ih_29 =>
      intro i bf lwA hgA H locs ls hi hbf hbb hR hO hm hP hD hS hl
      refine lv_iload C.1 C.2.1 dX3_fill_29 (lv_at hl 0 rfl) ?_
      refine lv_iload_n C.1 C.2.1 dX3_fill_31 rfl (lv_at hl 5 rfl) ?_
      refine r_cgt 70 C dX3_fill_32 rfl ⟨rgN (by omega), rgN (by omega)⟩ (fun h_4 => ?_) (fun h_4 => ?_)
      · skip
        exact ret ((lwA, hgA)) dX3_fill_70 hS hP (by rw [show i = d + 1 by omega] at hR; exact ⟨hR, hO⟩)
      refine lv_aload_n C.1 C.2.1 dX3_fill_35 rfl (lv_at hl 3 rfl) ?_
      refine lv_iload_n C.1 C.2.1 dX3_fill_36 rfl (lv_at hl 4 rfl) ?_
      refine lv_iload C.1 C.2.1 dX3_fill_37 (lv_at hl 0 rfl) ?_
      refine ro_callV (As := [nV x, nV i]) (rest := []) C hK (c_X8_aged l g v v0 v1 v2 v3 v4 k nc nb bi mo x i (by first | assumption | omega) (by first | assumption | omega) (by first | assumption | omega)) (hP.sub (ws' := [(v, .inr (6, [.ref v0, .ref v1, .ref v2, .ref v3, .ref v4, nV k, nV nc, nV nb, nV bi, nV mo]))]) [3] rfl) (ci := 6) (q0 := 0) rfl rfl kc_X8_aged kl_X3_22 kn_X8 ki_X8_aged ke_X8_aged nk_X8_aged (rm_lt (by decide) (by decide)) hl rfl (Nat.le_of_ble_eq_true rfl) dX3_fill_39 (fun r_5 hr_6 => ?_)
      subst hr_6
      have hf_7 := ag_bd (bi) (mo) (x) (i) (by omega)
      refine lv_istore (lv' := [(7, nV (ag bi mo x i)), (6, nV i), (5, zV bf), (0, .ref rc0), (1, .ref v), (2, nV x), (3, nV d), (4, nV b)]) C.1 C.2.1 dX3_fill_42 hl (by decide) rfl (fun ls hl => ?_)
      refine lv_iload C.1 C.2.1 dX3_fill_44 (lv_at hl 0 rfl) ?_
      refine lv_iload C.1 C.2.1 dX3_fill_46 (lv_at hl 2 rfl) ?_
      refine r_ceq 64 C dX3_fill_48 rfl ⟨rgN (by omega), ⟨by omega, by omega⟩⟩ (fun h_8 => ?_) (fun h_8 => ?_)
      · skip
        refine r_incN (k := 1) (n := 1) [(6, nV (i + 1)), (7, nV (ag bi mo x i)), (5, zV bf), (0, .ref rc0), (1, .ref v), (2, nV x), (3, nV d), (4, nV b)] C dX3_fill_64 hl rfl rfl (by decide) rfl (fun ls hl => ?_)
        refine r_goto 29 C dX3_fill_67 rfl ?_
        exact ih_29 (i + 1) bf lwA hgA _ _ _ (by first | assumption | omega) (Or.inr ⟨by omega, by first | rfl | (rw [Nat.add_sub_cancel]; omega)⟩) (by first | assumption | omega) (by first | exact hm1.1 | (rcases hbf with q | q; (exfalso; omega); (obtain ⟨i2, rfl⟩ : ∃ i2, i = i2 + 1 := ⟨i - 1, by omega⟩; have q3 := q.2; rw [Nat.add_sub_cancel] at q3; exact RB_cong hR (fun t => rc_same (by omega))))) (by first | exact (fun y hy => ⟨((hm1.2 y hy).1).trans (hO y hy).1, ((hm1.2 y hy).2).trans (hO y hy).2⟩) | exact hO) (by omega) hP hD hS (lv_sub hl [0, 2, 3, 4, 5, 6, 7] rfl)
      refine lv_aload_n C.1 C.2.1 dX3_fill_51 rfl (lv_at hl 3 rfl) ?_
      refine lv_iload_n C.1 C.2.1 dX3_fill_52 rfl (lv_at hl 5 rfl) ?_
      refine lv_iload C.1 C.2.1 dX3_fill_53 (lv_at hl 0 rfl) ?_
      refine lv_iload C.1 C.2.1 dX3_fill_55 (lv_at hl 7 rfl) ?_
      refine wr_callVV (As := [nV x, nV (ag bi mo x i), nV b]) (rest := []) C hK (c_X3_markBitten l g rc0 rl0 rh0 lwA hgA x (ag bi mo x i) b (fun t => rc bi mo x b t i) (by first | assumption | omega) (by first | assumption | omega) (by first | assumption | omega) (by first | assumption | omega)) [0, 1, 2] rfl (fun _ => rfl) (by decide) hP hD hS hA (ci := 2) (q0 := 0) rfl rfl kc_X3_markBitten kl_X3_28 kn_X3 ki_X3_markBitten ke_X3_markBitten nk_X3_markBitten (rm_lt (by decide) (by decide)) hl rfl (Nat.le_of_ble_eq_true rfl) dX3_fill_57 (fun u_11 H locs hr_10 hP hD hS => ?_)
      obtain ⟨lw1_a, hg1_a⟩ := u_11
      have hP : va_P g.1 vwCl [(rc0, .inr (2, [.ref rl0, .ref rh0])), (rl0, cM g 72 lw1_a), (rh0, cM g 72 hg1_a), (v, .inr (6, [.ref v0, .ref v1, .ref v2, .ref v3, .ref v4, nV k, nV nc, nV nb, nV bi, nV mo]))] H := hP
      have hD : va_D A [(rc0, .inr (2, [.ref rl0, .ref rh0])), (rl0, cM g 72 lw1_a), (rh0, cM g 72 hg1_a), (v, .inr (6, [.ref v0, .ref v1, .ref v2, .ref v3, .ref v4, nV k, nV nc, nV nb, nV bi, nV mo]))] := hD
      try dsimp only at hr_10
      have hm1 := hr_10
      refine lv_iload C.1 C.2.1 dX3_fill_60 (lv_at hl 0 rfl) ?_
      refine lv_istore (lv' := [(5, nV (ag bi mo x i)), (7, nV (ag bi mo x i)), (6, nV i), (0, .ref rc0), (1, .ref v), (2, nV x), (3, nV d), (4, nV b)]) C.1 C.2.1 dX3_fill_62 hl (by decide) rfl (fun ls hl => ?_)
      refine r_incN (k := 2) (n := 1) [(6, nV (i + 1)), (5, nV (ag bi mo x i)), (7, nV (ag bi mo x i)), (0, .ref rc0), (1, .ref v), (2, nV x), (3, nV d), (4, nV b)] C dX3_fill_64 hl rfl rfl (by decide) rfl (fun ls hl => ?_)
      refine r_goto 29 C dX3_fill_67 rfl ?_
      exact ih_29 (i + 1) ((ag bi mo x i : Nat) : Int) lw1_a hg1_a _ _ _ (by first | assumption | omega) (Or.inr ⟨by omega, by first | rfl | (rw [Nat.add_sub_cancel]; omega)⟩) (by first | assumption | omega) (by first | exact hm1.1 | (rcases hbf with q | q; (exfalso; omega); (obtain ⟨i2, rfl⟩ : ∃ i2, i = i2 + 1 := ⟨i - 1, by omega⟩; have q3 := q.2; rw [Nat.add_sub_cancel] at q3; exact RB_cong hR (fun t => rc_same (by omega))))) (by first | exact (fun y hy => ⟨((hm1.2 y hy).1).trans (hO y hy).1, ((hm1.2 y hy).2).trans (hO y hy).2⟩) | exact hO) (by omega) hP hD hS (lv_sub hl [0, 1, 3, 4, 5, 6, 7] rfl)
  exact L29 (d + 1 - 0 + 1) 0 (-4) (upN lw x 0) (upN hg x 0) _ _ _ (by first | assumption | omega) (Or.inl ⟨rfl, rfl⟩) (by first | assumption | omega) (by rw [upN_s, upN_s]; exact RB_0) (fun y hy => ⟨upN_n hy, upN_n hy⟩) (Nat.lt_succ_self _) hP hD hS (lv_sub hl [0, 1, 2, 3, 4, 5, 6] rfl)
set_option maxHeartbeats 4000000 in
set_option maxRecDepth 100000 in
theorem c_J13_bitCount_95d88 (l : Launch) (g : GG) (v : Nat) (hv : v < 2 ^ 64) : ROi g l yJ13_bitCount_95d88 cJ13_bitCount_95d88 2 (some .int) 1 [] [mV v] (fun r => r = iI ((ct v.testBit 64 : Nat) : Int)) := by
  refine ro_startI (by decide +kernel) (Nat.le_of_ble_eq_true rfl) ?_
  intro p e s m args below meth c Q ls C hK hP ret hl
  have C : CT p s m args meth c cJ13_bitCount_95d88 RJ13 2 := C
  have hl : lv_has ls 2 [(0, mV v)] := hl
  refine lv_lload_n C.1 C.2.1 dJ13_bitCount_95d88_0 rfl (lv_at hl 0 rfl) ?_
  refine lv_lload_n C.1 C.2.1 dJ13_bitCount_95d88_1 rfl (lv_at hl 0 rfl) ?_
  refine r_iconst 1 C dJ13_bitCount_95d88_2 rfl ?_
  refine lv_lushr C.1 C.2.1 dJ13_bitCount_95d88_3 rfl ?_
  refine r_ldc2R C kv_J13_314 dJ13_bitCount_95d88_4 ?_
  refine lv_land C.1 C.2.1 dJ13_bitCount_95d88_7 ?_
  refine lv_lsub C.1 C.2.1 dJ13_bitCount_95d88_8 ?_
  refine r_nameL (fun a1 ha1 => ?_)
  refine lv_lstore_n (lv' := [(0, .long a1)]) C.1 C.2.1 dJ13_bitCount_95d88_9 rfl hl (by decide) rfl (fun ls hl => ?_)
  refine lv_lload_n C.1 C.2.1 dJ13_bitCount_95d88_10 rfl (lv_at hl 0 rfl) ?_
  refine r_ldc2R C kv_J13_316 dJ13_bitCount_95d88_11 ?_
  refine lv_land C.1 C.2.1 dJ13_bitCount_95d88_14 ?_
  refine lv_lload_n C.1 C.2.1 dJ13_bitCount_95d88_15 rfl (lv_at hl 0 rfl) ?_
  refine r_iconst 2 C dJ13_bitCount_95d88_16 rfl ?_
  refine lv_lushr C.1 C.2.1 dJ13_bitCount_95d88_17 rfl ?_
  refine r_ldc2R C kv_J13_316 dJ13_bitCount_95d88_18 ?_
  refine lv_land C.1 C.2.1 dJ13_bitCount_95d88_21 ?_
  refine lv_ladd C.1 C.2.1 dJ13_bitCount_95d88_22 ?_
  refine r_nameL (fun a2 ha2 => ?_)
  refine lv_lstore_n (lv' := [(0, .long a2)]) C.1 C.2.1 dJ13_bitCount_95d88_23 rfl hl (by decide) rfl (fun ls hl => ?_)
  refine lv_lload_n C.1 C.2.1 dJ13_bitCount_95d88_24 rfl (lv_at hl 0 rfl) ?_
  refine lv_lload_n C.1 C.2.1 dJ13_bitCount_95d88_25 rfl (lv_at hl 0 rfl) ?_
  refine r_iconst 4 C dJ13_bitCount_95d88_26 rfl ?_
  refine lv_lushr C.1 C.2.1 dJ13_bitCount_95d88_27 rfl ?_
  refine lv_ladd C.1 C.2.1 dJ13_bitCount_95d88_28 ?_
  refine r_ldc2R C kv_J13_318 dJ13_bitCount_95d88_29 ?_
  refine lv_land C.1 C.2.1 dJ13_bitCount_95d88_32 ?_
  refine r_nameL (fun a3 ha3 => ?_)
  refine lv_lstore_n (lv' := [(0, .long a3)]) C.1 C.2.1 dJ13_bitCount_95d88_33 rfl hl (by decide) rfl (fun ls hl => ?_)
  refine lv_lload_n C.1 C.2.1 dJ13_bitCount_95d88_34 rfl (lv_at hl 0 rfl) ?_
  refine lv_lload_n C.1 C.2.1 dJ13_bitCount_95d88_35 rfl (lv_at hl 0 rfl) ?_
  refine r_bipush 8 C dJ13_bitCount_95d88_36 (by decide) ?_
  refine lv_lushr C.1 C.2.1 dJ13_bitCount_95d88_38 rfl ?_
  refine lv_ladd C.1 C.2.1 dJ13_bitCount_95d88_39 ?_
  refine r_nameL (fun a4 ha4 => ?_)
  refine lv_lstore_n (lv' := [(0, .long a4)]) C.1 C.2.1 dJ13_bitCount_95d88_40 rfl hl (by decide) rfl (fun ls hl => ?_)
  refine lv_lload_n C.1 C.2.1 dJ13_bitCount_95d88_41 rfl (lv_at hl 0 rfl) ?_
  refine lv_lload_n C.1 C.2.1 dJ13_bitCount_95d88_42 rfl (lv_at hl 0 rfl) ?_
  refine r_bipush 16 C dJ13_bitCount_95d88_43 (by decide) ?_
  refine lv_lushr C.1 C.2.1 dJ13_bitCount_95d88_45 rfl ?_
  refine lv_ladd C.1 C.2.1 dJ13_bitCount_95d88_46 ?_
  refine r_nameL (fun a5 ha5 => ?_)
  refine lv_lstore_n (lv' := [(0, .long a5)]) C.1 C.2.1 dJ13_bitCount_95d88_47 rfl hl (by decide) rfl (fun ls hl => ?_)
  refine lv_lload_n C.1 C.2.1 dJ13_bitCount_95d88_48 rfl (lv_at hl 0 rfl) ?_
  refine lv_lload_n C.1 C.2.1 dJ13_bitCount_95d88_49 rfl (lv_at hl 0 rfl) ?_
  refine r_bipush 32 C dJ13_bitCount_95d88_50 (by decide) ?_
  refine lv_lushr C.1 C.2.1 dJ13_bitCount_95d88_52 rfl ?_
  refine lv_ladd C.1 C.2.1 dJ13_bitCount_95d88_53 ?_
  refine r_nameL (fun a6 ha6 => ?_)
  refine lv_lstore_n (lv' := [(0, .long a6)]) C.1 C.2.1 dJ13_bitCount_95d88_54 rfl hl (by decide) rfl (fun ls hl => ?_)
  refine lv_lload_n C.1 C.2.1 dJ13_bitCount_95d88_55 rfl (lv_at hl 0 rfl) ?_
  refine lv_l2i C.1 C.2.1 dJ13_bitCount_95d88_56 rfl ?_
  refine r_bipush 127 C dJ13_bitCount_95d88_57 (by decide) ?_
  refine lv_iand C.1 C.2.1 dJ13_bitCount_95d88_59 ?_
  exact ret dJ13_bitCount_95d88_60 (bc_ok hv ha1 ha2 ha3 ha4 ha5 ha6)
set_option maxHeartbeats 4000000 in
set_option maxRecDepth 100000 in
theorem c_X3_sizeOf (l : Launch) (g : GG) (rc0 : Nat) (rl0 : Nat) (rh0 : Nat) (lw : Nat → Nat) (hg : Nat → Nat) (S : Nat → Bool) (x : Nat) (hx : x < 72) (hRB : RBn (lw x) (hg x) S) : ROi g l yX3_sizeOf cX3_sizeOf 2 (some .int) 3 [(rc0, .inr (2, [.ref rl0, .ref rh0])), (rl0, cM g 72 lw), (rh0, cM g 72 hg)] [.ref rc0, nV x] (fun r => r = iI ((ct S 72 : Nat) : Int)) := by
  refine ro_startI (by decide +kernel) (Nat.le_of_ble_eq_true rfl) ?_
  intro p e s m args below meth c Q ls C hK hP ret hl
  have C : CT p s m args meth c cX3_sizeOf RX3 2 := C
  have hl : lv_has ls 2 [(0, .ref rc0), (1, nV x)] := hl
  refine lv_iload_n C.1 C.2.1 dX3_sizeOf_0 rfl (lv_at hl 1 rfl) ?_
  refine ro_callSN (As := [nV x]) (rest := []) C hK (c_X9_isSign l g ((x : Nat) : Int) (by first | assumption | exact ⟨by omega, by omega⟩)) (hP.sub (ws' := []) [] rfl) kc_X9_isSign kx_X3_18 kn_X9 ks_X9_isSign nk_X9_isSign (rm_lt (by decide) (by decide)) hl rfl (Nat.le_of_ble_eq_true rfl) dX3_sizeOf_1 (fun r_1 hr_2 => ?_)
  subst hr_2
  refine r_beq 29 C dX3_sizeOf_4 rfl (fun h_3 => ?_) (fun h_3 => ?_)
  · exact absurd h_3 (by omega)
  refine lv_aload_n C.1 C.2.1 dX3_sizeOf_7 rfl (lv_at hl 0 rfl) ?_
  refine r_get C hK hP kw_X3 (ci := 2) rfl 0 0 (by decide) kf_X3_9 rfl rfl dX3_sizeOf_8 ?_
  refine lv_iload_n C.1 C.2.1 dX3_sizeOf_11 rfl (lv_at hl 1 rfl) ?_
  refine r_aldM C hK hP 1 rfl ⟨by omega, by omega⟩ dX3_sizeOf_12 ?_
  refine ro_callS (As := [mV (lw x)]) (rest := []) C hK (c_J13_bitCount_95d88 l g (lw x) (hRB.1)) (hP.sub (ws' := []) [] rfl) kc_J13_bitCount_95d88 kl_X3_42 kn_J13 ks_J13_bitCount_95d88 nk_J13_bitCount_95d88 (rm_lt (by decide) (by decide)) hl rfl (Nat.le_of_ble_eq_true rfl) dX3_sizeOf_13 (fun r_4 hr_5 => ?_)
  subst hr_5
  have hf_6 := ct_le ((lw x)).testBit 64
  refine lv_aload_n C.1 C.2.1 dX3_sizeOf_16 rfl (lv_at hl 0 rfl) ?_
  refine r_get C hK hP kw_X3 (ci := 2) rfl 0 1 (by decide) kf_X3_15 rfl rfl dX3_sizeOf_17 ?_
  refine lv_iload_n C.1 C.2.1 dX3_sizeOf_20 rfl (lv_at hl 1 rfl) ?_
  refine r_aldM C hK hP 2 rfl ⟨by omega, by omega⟩ dX3_sizeOf_21 ?_
  refine ro_callS (As := [mV (hg x)]) (rest := [nV (ct (lw x).testBit 64)]) C hK (c_J13_bitCount_95d88 l g (hg x) (hRB.2.1)) (hP.sub (ws' := []) [] rfl) kc_J13_bitCount_95d88 kl_X3_42 kn_J13 ks_J13_bitCount_95d88 nk_J13_bitCount_95d88 (rm_lt (by decide) (by decide)) hl rfl (Nat.le_of_ble_eq_true rfl) dX3_sizeOf_22 (fun r_7 hr_8 => ?_)
  subst hr_8
  have hf_9 := ct_le ((hg x)).testBit 64
  refine r_addN C dX3_sizeOf_25 ?_
  refine r_goto 30 C dX3_sizeOf_26 rfl ?_
  exact ret dX3_sizeOf_30 (iI_cast (congrArg (fun q : Nat => (q : Int)) (RB_ct hRB)))
set_option maxHeartbeats 4000000 in
set_option maxRecDepth 100000 in
theorem c_X3_holds (l : Launch) (g : GG) (rc0 : Nat) (rl0 : Nat) (rh0 : Nat) (lw : Nat → Nat) (hg : Nat → Nat) (S : Nat → Bool) (x : Nat) (w : Nat) (hx : x < 72) (hw : w < 72) (hRB : RBn (lw x) (hg x) S) : ROi g l yX3_holds cX3_holds 5 (some .boolean) 3 [(rc0, .inr (2, [.ref rl0, .ref rh0])), (rl0, cM g 72 lw), (rh0, cM g 72 hg)] [.ref rc0, nV x, nV w] (fun r => r = bI (S w = true)) := by
  refine ro_startZ (by decide +kernel) (Nat.le_of_ble_eq_true rfl) ?_
  intro p e s m args below meth c Q ls C hK hP ret hl
  have C : CT p s m args meth c cX3_holds RX3 5 := C
  have hl : lv_has ls 5 [(0, .ref rc0), (1, nV x), (2, nV w)] := hl
  refine lv_iload_n C.1 C.2.1 dX3_holds_0 rfl (lv_at hl 1 rfl) ?_
  refine ro_callSN (As := [nV x]) (rest := []) C hK (c_X9_isSign l g ((x : Nat) : Int) (by first | assumption | exact ⟨by omega, by omega⟩)) (hP.sub (ws' := []) [] rfl) kc_X9_isSign kx_X3_18 kn_X9 ks_X9_isSign nk_X9_isSign (rm_lt (by decide) (by decide)) hl rfl (Nat.le_of_ble_eq_true rfl) dX3_holds_1 (fun r_1 hr_2 => ?_)
  subst hr_2
  refine r_beq 14 C dX3_holds_4 rfl (fun h_3 => ?_) (fun h_3 => ?_)
  · exact absurd h_3 (by omega)
  refine lv_iload_n C.1 C.2.1 dX3_holds_7 rfl (lv_at hl 2 rfl) ?_
  refine ro_callSN (As := [nV w]) (rest := []) C hK (c_X9_isSign l g ((w : Nat) : Int) (by first | assumption | exact ⟨by omega, by omega⟩)) (hP.sub (ws' := []) [] rfl) kc_X9_isSign kx_X3_18 kn_X9 ks_X9_isSign nk_X9_isSign (rm_lt (by decide) (by decide)) hl rfl (Nat.le_of_ble_eq_true rfl) dX3_holds_8 (fun r_4 hr_5 => ?_)
  subst hr_5
  refine r_bne 16 C dX3_holds_11 rfl (fun h_6 => ?_) (fun h_6 => ?_)
  rotate_left
  · exact absurd h_6 (by omega)
  refine lv_iload_n C.1 C.2.1 dX3_holds_16 rfl (lv_at hl 2 rfl) ?_
  refine r_bipush 64 C dX3_holds_17 (by decide) ?_
  refine r_cge 31 C dX3_holds_19 rfl ⟨rgN (by omega), rgN (by decide)⟩ (fun h_7 => ?_) (fun h_7 => ?_)
  · skip
    refine lv_aload_n C.1 C.2.1 dX3_holds_31 rfl (lv_at hl 0 rfl) ?_
    refine r_get C hK hP kw_X3 (ci := 2) rfl 0 1 (by decide) kf_X3_15 rfl rfl dX3_holds_32 ?_
    refine lv_iload_n C.1 C.2.1 dX3_holds_35 rfl (lv_at hl 1 rfl) ?_
    refine r_aldM C hK hP 2 rfl ⟨by omega, by omega⟩ dX3_holds_36 ?_
    refine lv_lstore_n (lv' := [(3, mV (hg x)), (0, .ref rc0), (1, nV x), (2, nV w)]) C.1 C.2.1 dX3_holds_37 rfl hl (by decide) rfl (fun ls hl => ?_)
    refine lv_lload_n C.1 C.2.1 dX3_holds_38 rfl (lv_at hl 0 rfl) ?_
    refine lv_iload_n C.1 C.2.1 dX3_holds_39 rfl (lv_at hl 3 rfl) ?_
    refine r_bipush 63 C dX3_holds_40 (by decide) ?_
    refine lv_iand C.1 C.2.1 dX3_holds_42 ?_
    refine r_topRN (w % 64) (by exact and63 hw) ?_
    refine lv_lushr C.1 C.2.1 dX3_holds_43 rfl ?_
    refine r_lconst 1 C dX3_holds_44 rfl ?_
    refine lv_land C.1 C.2.1 dX3_holds_45 ?_
    refine r_top (v' := mV (hg x / 2 ^ (w % 64) % 2)) (congrArg Value.long (shr_bit (by first | exact hRB.1 | exact hRB.2.1) (by omega))) ?_
    refine r_lconst 1 C dX3_holds_46 rfl ?_
    refine r_lne 55 C dX3_holds_47 dX3_holds_48 rfl ⟨rlN (by omega), rlN (by decide)⟩ (fun g1 => ?_) (fun g1 => ?_)
    · skip
      refine r_iconst 0 C dX3_holds_55 rfl ?_
      exact ret dX3_holds_56 (by decide) (bI_z (by have q1 := hRB.2.2.1 w; have q2 := hRB.2.2.2 (w - 64); rw [tb_div] at q1 q2; first | (rw [show w % 64 = w by omega] at g1; rw [← q1 (by omega)]; simp; omega) | (rw [show w % 64 = w - 64 by omega] at g1; rw [show 64 + (w - 64) = w by omega, decide_eq_true (show w - 64 < 8 by omega), Bool.true_and] at q2; rw [← q2]; simp; omega)))
    refine r_iconst 1 C dX3_holds_51 rfl ?_
    refine r_goto 56 C dX3_holds_52 rfl ?_
    exact ret dX3_holds_56 (by decide) (bI_1 (by have q1 := hRB.2.2.1 w; have q2 := hRB.2.2.2 (w - 64); rw [tb_div] at q1 q2; first | (rw [show w % 64 = w by omega] at g1; rw [← q1 (by omega)]; simp; omega) | (rw [show w % 64 = w - 64 by omega] at g1; rw [show 64 + (w - 64) = w by omega, decide_eq_true (show w - 64 < 8 by omega), Bool.true_and] at q2; rw [← q2]; simp; omega)))
  refine lv_aload_n C.1 C.2.1 dX3_holds_22 rfl (lv_at hl 0 rfl) ?_
  refine r_get C hK hP kw_X3 (ci := 2) rfl 0 0 (by decide) kf_X3_9 rfl rfl dX3_holds_23 ?_
  refine lv_iload_n C.1 C.2.1 dX3_holds_26 rfl (lv_at hl 1 rfl) ?_
  refine r_aldM C hK hP 1 rfl ⟨by omega, by omega⟩ dX3_holds_27 ?_
  refine r_goto 37 C dX3_holds_28 rfl ?_
  refine lv_lstore_n (lv' := [(3, mV (lw x)), (0, .ref rc0), (1, nV x), (2, nV w)]) C.1 C.2.1 dX3_holds_37 rfl hl (by decide) rfl (fun ls hl => ?_)
  refine lv_lload_n C.1 C.2.1 dX3_holds_38 rfl (lv_at hl 0 rfl) ?_
  refine lv_iload_n C.1 C.2.1 dX3_holds_39 rfl (lv_at hl 3 rfl) ?_
  refine r_bipush 63 C dX3_holds_40 (by decide) ?_
  refine lv_iand C.1 C.2.1 dX3_holds_42 ?_
  refine r_topRN (w % 64) (by exact and63 hw) ?_
  refine lv_lushr C.1 C.2.1 dX3_holds_43 rfl ?_
  refine r_lconst 1 C dX3_holds_44 rfl ?_
  refine lv_land C.1 C.2.1 dX3_holds_45 ?_
  refine r_top (v' := mV (lw x / 2 ^ (w % 64) % 2)) (congrArg Value.long (shr_bit (by first | exact hRB.1 | exact hRB.2.1) (by omega))) ?_
  refine r_lconst 1 C dX3_holds_46 rfl ?_
  refine r_lne 55 C dX3_holds_47 dX3_holds_48 rfl ⟨rlN (by omega), rlN (by decide)⟩ (fun g1 => ?_) (fun g1 => ?_)
  · skip
    refine r_iconst 0 C dX3_holds_55 rfl ?_
    exact ret dX3_holds_56 (by decide) (bI_z (by have q1 := hRB.2.2.1 w; have q2 := hRB.2.2.2 (w - 64); rw [tb_div] at q1 q2; first | (rw [show w % 64 = w by omega] at g1; rw [← q1 (by omega)]; simp; omega) | (rw [show w % 64 = w - 64 by omega] at g1; rw [show 64 + (w - 64) = w by omega, decide_eq_true (show w - 64 < 8 by omega), Bool.true_and] at q2; rw [← q2]; simp; omega)))
  refine r_iconst 1 C dX3_holds_51 rfl ?_
  refine r_goto 56 C dX3_holds_52 rfl ?_
  exact ret dX3_holds_56 (by decide) (bI_1 (by have q1 := hRB.2.2.1 w; have q2 := hRB.2.2.2 (w - 64); rw [tb_div] at q1 q2; first | (rw [show w % 64 = w by omega] at g1; rw [← q1 (by omega)]; simp; omega) | (rw [show w % 64 = w - 64 by omega] at g1; rw [show 64 + (w - 64) = w by omega, decide_eq_true (show w - 64 < 8 by omega), Bool.true_and] at q2; rw [← q2]; simp; omega)))
set_option maxHeartbeats 4000000 in
set_option maxRecDepth 100000 in
theorem c_X3_meet (l : Launch) (g : GG) (rc0 : Nat) (rl0 : Nat) (rh0 : Nat) (lw : Nat → Nat) (hg : Nat → Nat) (S : Nat → Bool) (S2 : Nat → Bool) (x : Nat) (y : Nat) (hx : x < 72) (hy : y < 72) (hRB : RBn (lw x) (hg x) S) (hRB2 : RBn (lw y) (hg y) S2) : ROi g l yX3_meet cX3_meet 3 (some .boolean) 3 [(rc0, .inr (2, [.ref rl0, .ref rh0])), (rl0, cM g 72 lw), (rh0, cM g 72 hg)] [.ref rc0, nV x, nV y] (fun r => r = bI (mtB S S2 72 = true)) := by
  refine ro_startZ (by decide +kernel) (Nat.le_of_ble_eq_true rfl) ?_
  intro p e s m args below meth c Q ls C hK hP ret hl
  have C : CT p s m args meth c cX3_meet RX3 3 := C
  have hl : lv_has ls 3 [(0, .ref rc0), (1, nV x), (2, nV y)] := hl
  refine lv_iload_n C.1 C.2.1 dX3_meet_0 rfl (lv_at hl 1 rfl) ?_
  refine ro_callSN (As := [nV x]) (rest := []) C hK (c_X9_isSign l g ((x : Nat) : Int) (by first | assumption | exact ⟨by omega, by omega⟩)) (hP.sub (ws' := []) [] rfl) kc_X9_isSign kx_X3_18 kn_X9 ks_X9_isSign nk_X9_isSign (rm_lt (by decide) (by decide)) hl rfl (Nat.le_of_ble_eq_true rfl) dX3_meet_1 (fun r_1 hr_2 => ?_)
  subst hr_2
  refine r_beq 54 C dX3_meet_4 rfl (fun h_3 => ?_) (fun h_3 => ?_)
  · exact absurd h_3 (by omega)
  refine lv_iload_n C.1 C.2.1 dX3_meet_7 rfl (lv_at hl 2 rfl) ?_
  refine ro_callSN (As := [nV y]) (rest := []) C hK (c_X9_isSign l g ((y : Nat) : Int) (by first | assumption | exact ⟨by omega, by omega⟩)) (hP.sub (ws' := []) [] rfl) kc_X9_isSign kx_X3_18 kn_X9 ks_X9_isSign nk_X9_isSign (rm_lt (by decide) (by decide)) hl rfl (Nat.le_of_ble_eq_true rfl) dX3_meet_8 (fun r_4 hr_5 => ?_)
  subst hr_5
  refine r_beq 54 C dX3_meet_11 rfl (fun h_6 => ?_) (fun h_6 => ?_)
  · exact absurd h_6 (by omega)
  refine lv_aload_n C.1 C.2.1 dX3_meet_14 rfl (lv_at hl 0 rfl) ?_
  refine r_get C hK hP kw_X3 (ci := 2) rfl 0 0 (by decide) kf_X3_9 rfl rfl dX3_meet_15 ?_
  refine lv_iload_n C.1 C.2.1 dX3_meet_18 rfl (lv_at hl 1 rfl) ?_
  refine r_aldM C hK hP 1 rfl ⟨by omega, by omega⟩ dX3_meet_19 ?_
  refine lv_aload_n C.1 C.2.1 dX3_meet_20 rfl (lv_at hl 0 rfl) ?_
  refine r_get C hK hP kw_X3 (ci := 2) rfl 0 0 (by decide) kf_X3_9 rfl rfl dX3_meet_21 ?_
  refine lv_iload_n C.1 C.2.1 dX3_meet_24 rfl (lv_at hl 2 rfl) ?_
  refine r_aldM C hK hP 1 rfl ⟨by omega, by omega⟩ dX3_meet_25 ?_
  refine lv_land C.1 C.2.1 dX3_meet_26 ?_
  refine r_lconst 0 C dX3_meet_27 rfl ?_
  refine W.lcmp C.1 C.2.1 dX3_meet_28 ?_
  refine lv_if_ne (tgt := 50) C.1 C.2.1 dX3_meet_29 rfl (fun g1 => ?_) (fun g1 => ?_)
  · skip
    refine r_iconst 1 C dX3_meet_50 rfl ?_
    refine r_goto 55 C dX3_meet_51 rfl ?_
    exact ret dX3_meet_55 (by decide) (bI_1 (by rw [RB_meet hRB hRB2]; first | exact Or.inl (mt (lg_cmp_eq _ _).mpr g1) | exact Or.inr (mt (lg_cmp_eq _ _).mpr g2) | exact (fun q => q.elim (fun q => q ((lg_cmp_eq _ _).mp g1)) (fun q => q ((lg_cmp_eq _ _).mp g2)))))
  refine lv_aload_n C.1 C.2.1 dX3_meet_32 rfl (lv_at hl 0 rfl) ?_
  refine r_get C hK hP kw_X3 (ci := 2) rfl 0 1 (by decide) kf_X3_15 rfl rfl dX3_meet_33 ?_
  refine lv_iload_n C.1 C.2.1 dX3_meet_36 rfl (lv_at hl 1 rfl) ?_
  refine r_aldM C hK hP 2 rfl ⟨by omega, by omega⟩ dX3_meet_37 ?_
  refine lv_aload_n C.1 C.2.1 dX3_meet_38 rfl (lv_at hl 0 rfl) ?_
  refine r_get C hK hP kw_X3 (ci := 2) rfl 0 1 (by decide) kf_X3_15 rfl rfl dX3_meet_39 ?_
  refine lv_iload_n C.1 C.2.1 dX3_meet_42 rfl (lv_at hl 2 rfl) ?_
  refine r_aldM C hK hP 2 rfl ⟨by omega, by omega⟩ dX3_meet_43 ?_
  refine lv_land C.1 C.2.1 dX3_meet_44 ?_
  refine r_lconst 0 C dX3_meet_45 rfl ?_
  refine W.lcmp C.1 C.2.1 dX3_meet_46 ?_
  refine lv_if_eq (tgt := 54) C.1 C.2.1 dX3_meet_47 rfl (fun g2 => ?_) (fun g2 => ?_)
  · skip
    refine r_iconst 0 C dX3_meet_54 rfl ?_
    exact ret dX3_meet_55 (by decide) (bI_z (by rw [RB_meet hRB hRB2]; first | exact Or.inl (mt (lg_cmp_eq _ _).mpr g1) | exact Or.inr (mt (lg_cmp_eq _ _).mpr g2) | exact (fun q => q.elim (fun q => q ((lg_cmp_eq _ _).mp g1)) (fun q => q ((lg_cmp_eq _ _).mp g2)))))
  refine r_iconst 1 C dX3_meet_50 rfl ?_
  refine r_goto 55 C dX3_meet_51 rfl ?_
  exact ret dX3_meet_55 (by decide) (bI_1 (by rw [RB_meet hRB hRB2]; first | exact Or.inl (mt (lg_cmp_eq _ _).mpr g1) | exact Or.inr (mt (lg_cmp_eq _ _).mpr g2) | exact (fun q => q.elim (fun q => q ((lg_cmp_eq _ _).mp g1)) (fun q => q ((lg_cmp_eq _ _).mp g2)))))
set_option maxHeartbeats 4000000 in
set_option maxRecDepth 100000 in
theorem c_X0_leastFlour (l : Launch) (g : GG) (se : Nat) (rc0 : Nat) (ca : Nat) (ba : Nat) (wt : Nat) (le : Nat)  : ROi g l yX0_leastFlour cX0_leastFlour 1 (some .int) 1 [(se, .inr (0, [.ref rc0, .ref ca, .ref ba, nV wt, nV le]))] [.ref se] (fun r => r = iI ((le : Nat) : Int)) := by
  refine ro_startI (by decide +kernel) (Nat.le_of_ble_eq_true rfl) ?_
  intro p e s m args below meth c Q ls C hK hP ret hl
  have C : CT p s m args meth c cX0_leastFlour RX0 1 := C
  have hl : lv_has ls 1 [(0, .ref se)] := hl
  refine lv_aload_n C.1 C.2.1 dX0_leastFlour_0 rfl (lv_at hl 0 rfl) ?_
  refine r_get C hK hP kw_X0 (ci := 0) rfl 0 4 (by decide) kf_X0_35 rfl rfl dX0_leastFlour_1 ?_
  exact ret dX0_leastFlour_4 (by first | rfl | exact iI_cast (by omega) | exact congrArg lI (by omega) | omega)
set_option maxHeartbeats 4000000 in
set_option maxRecDepth 100000 in
theorem c_X0_signAt (l : Launch) (g : GG) (se : Nat) (rc0 : Nat) (ca : Nat) (ba : Nat) (wt : Nat) (le : Nat) (b1 : Nat → Nat) (i : Nat) (hi : i < 3) : ROi g l yX0_signAt cX0_signAt 2 (some .int) 2 [(se, .inr (0, [.ref rc0, .ref ca, .ref ba, nV wt, nV le])), (ba, cN g 3 b1)] [.ref se, nV i] (fun r => r = iI ((b1 i : Nat) : Int)) := by
  refine ro_startI (by decide +kernel) (Nat.le_of_ble_eq_true rfl) ?_
  intro p e s m args below meth c Q ls C hK hP ret hl
  have C : CT p s m args meth c cX0_signAt RX0 2 := C
  have hl : lv_has ls 2 [(0, .ref se), (1, nV i)] := hl
  refine lv_aload_n C.1 C.2.1 dX0_signAt_0 rfl (lv_at hl 0 rfl) ?_
  refine r_get C hK hP kw_X0 (ci := 0) rfl 0 2 (by decide) kf_X0_15 rfl rfl dX0_signAt_1 ?_
  refine lv_iload_n C.1 C.2.1 dX0_signAt_4 rfl (lv_at hl 1 rfl) ?_
  refine ro_callSN (As := [.ref ba, nV i]) (rest := []) C hK (c_X9_at l g ba 3 b1 i (by first | assumption | omega) (by first | assumption | omega)) (hP.sub (ws' := [(ba, cN g 3 b1)]) [1] rfl) kc_X9_at kx_X0_42 kn_X9 ks_X9_at nk_X9_at (rm_lt (by decide) (by decide)) hl rfl (Nat.le_of_ble_eq_true rfl) dX0_signAt_5 (fun r_1 hr_2 => ?_)
  subst hr_2
  exact ret dX0_signAt_8 (by first | rfl | exact iI_cast (by omega) | exact congrArg lI (by omega) | omega)
set_option maxHeartbeats 4000000 in
set_option maxRecDepth 100000 in
theorem c_X0_staysApart (l : Launch) (g : GG) (se : Nat) (ca : Nat) (ba : Nat) (wt : Nat) (le : Nat) (c1 : Nat → Nat) (b1 : Nat → Nat) (rc0 : Nat) (rl0 : Nat) (rh0 : Nat) (lw : Nat → Nat) (hg : Nat → Nat) (SS : Nat → Nat → Bool) (x : Nat) (w : Nat) (hSS : ∀ y, y < 72 → RBn (lw y) (hg y) (SS y)) (hc : ∀ j, c1 j < 72) (hx : x < 72) (hw : w ≤ 3) : ROi g l yX0_staysApart cX0_staysApart 4 (some .boolean) 4 [(se, .inr (0, [.ref rc0, .ref ca, .ref ba, nV wt, nV le])), (ca, cN g 3 c1), (ba, cN g 3 b1), (rc0, .inr (2, [.ref rl0, .ref rh0])), (rl0, cM g 72 lw), (rh0, cM g 72 hg)] [.ref se, nV x, nV w] (fun r => r = bI (stA SS x c1 w = true)) := by
  refine ro_startZ (by decide +kernel) (Nat.le_of_ble_eq_true rfl) ?_
  intro p e s m args below meth c Q ls C hK hP ret hl
  have C : CT p s m args meth c cX0_staysApart RX0 4 := C
  have hl : lv_has ls 4 [(0, .ref se), (1, nV x), (2, nV w)] := hl
  refine r_iconst 0 C dX0_staysApart_0 rfl ?_
  refine lv_istore_n (lv' := [(3, nV 0), (0, .ref se), (1, nV x), (2, nV w)]) C.1 C.2.1 dX0_staysApart_1 rfl hl (by decide) rfl (fun ls hl => ?_)
  have L2 : ∀ (n_2 : Nat) (i : Nat) (ls : Array Slot) (hi : i ≤ w) (hs : stA SS x c1 i = true) (hm : w - i < n_2) (hl : lv_has ls 4 [(3, nV i), (0, .ref se), (1, nV x), (2, nV w)]), W p l e (rD 4) s m args below meth c s.heap [] 0 0 Q (F0 m 2 ls []) := by
    intro n_2
    induction n_2 with
    | zero => intro i ls hi hs hm hl; exact absurd hm (Nat.not_lt_zero _)
    | succ n_2 ih_2 =>
      intro i ls hi hs hm hl
      refine lv_iload_n C.1 C.2.1 dX0_staysApart_2 rfl (lv_at hl 0 rfl) ?_
      refine lv_iload_n C.1 C.2.1 dX0_staysApart_3 rfl (lv_at hl 3 rfl) ?_
      refine r_cge 34 C dX0_staysApart_4 rfl ⟨rgN (by omega), rgN (by omega)⟩ (fun h_1 => ?_) (fun h_1 => ?_)
      · skip
        refine r_iconst 1 C dX0_staysApart_34 rfl ?_
        exact ret dX0_staysApart_35 (by decide) (bI_1 (by rw [show w = i by omega]; exact hs))
      refine lv_aload_n C.1 C.2.1 dX0_staysApart_7 rfl (lv_at hl 1 rfl) ?_
      refine r_get C hK hP kw_X0 (ci := 0) rfl 0 0 (by decide) kf_X0_18 rfl rfl dX0_staysApart_8 ?_
      refine lv_iload_n C.1 C.2.1 dX0_staysApart_11 rfl (lv_at hl 2 rfl) ?_
      refine lv_aload_n C.1 C.2.1 dX0_staysApart_12 rfl (lv_at hl 1 rfl) ?_
      refine r_get C hK hP kw_X0 (ci := 0) rfl 0 1 (by decide) kf_X0_9 rfl rfl dX0_staysApart_13 ?_
      refine lv_iload_n C.1 C.2.1 dX0_staysApart_16 rfl (lv_at hl 0 rfl) ?_
      refine ro_callSN (As := [.ref ca, nV i]) (rest := [nV x, .ref rc0]) C hK (c_X9_at l g ca 3 c1 i (by first | assumption | omega) (by first | assumption | omega)) (hP.sub (ws' := [(ca, cN g 3 c1)]) [1] rfl) kc_X9_at kx_X0_42 kn_X9 ks_X9_at nk_X9_at (rm_lt (by decide) (by decide)) hl rfl (Nat.le_of_ble_eq_true rfl) dX0_staysApart_17 (fun r_2 hr_3 => ?_)
      subst hr_3
      have hcj := hc i
      refine ro_callV (As := [nV x, nV (c1 i)]) (rest := []) C hK (c_X3_meet l g rc0 rl0 rh0 lw hg (SS x) (SS (c1 i)) x (c1 i) (by first | assumption | omega) (by first | assumption | omega) (hSS x hx) (hSS (c1 i) (hc i))) (hP.sub (ws' := [(rc0, .inr (2, [.ref rl0, .ref rh0])), (rl0, cM g 72 lw), (rh0, cM g 72 hg)]) [3, 4, 5] rfl) (ci := 2) (q0 := 0) rfl rfl kc_X3_meet kl_X0_62 kn_X3 ki_X3_meet ke_X3_meet nk_X3_meet (rm_lt (by decide) (by decide)) hl rfl (Nat.le_of_ble_eq_true rfl) dX0_staysApart_20 (fun r_4 hr_5 => ?_)
      subst hr_5
      refine r_beq 28 C dX0_staysApart_23 rfl (fun g1 => ?_) (fun g1 => ?_)
      · skip
        refine r_incN (k := 0) (n := 1) [(3, nV (i + 1)), (0, .ref se), (1, nV x), (2, nV w)] C dX0_staysApart_28 hl rfl rfl (by decide) rfl (fun ls hl => ?_)
        refine r_goto 2 C dX0_staysApart_31 rfl ?_
        exact ih_2 (i + 1) _ (by first | assumption | omega) (by unfold stA; rw [hs]; simpa using g1) (by omega) (lv_sub hl [0, 1, 2, 3] rfl)
      refine r_iconst 0 C dX0_staysApart_26 rfl ?_
      exact ret dX0_staysApart_27 (by decide) (bI_z (by rw [st_no (by omega) g1]; decide))
  exact L2 (w - 0 + 1) 0 _ (by first | assumption | omega) (rfl) (Nat.lt_succ_self _) (lv_sub hl [0, 1, 2, 3] rfl)
set_option maxHeartbeats 4000000 in
set_option maxRecDepth 100000 in
theorem c_X0_extend_z (l : Launch) (g : GG) (se : Nat) (ca : Nat) (ba : Nat) (wt : Nat) (le : Nat) (c1 : Nat → Nat) (b1 : Nat → Nat) (rc0 : Nat) (rl0 : Nat) (rh0 : Nat) (lw : Nat → Nat) (hg : Nat → Nat) (SS : Nat → Nat → Bool) (dep : Nat) (fr : Nat) (flo : Nat) (hSS : ∀ y, y < 72 → RBn (lw y) (hg y) (SS y)) (hxo : XOK (c1, b1, le)) (hfr : fr ≤ 72) (hdw : dep = wt) (hfl : flo ≤ 100) (hwt : wt ≤ 3) : WRv g l yX0_extend cX0_extend 6 (6 + 0) [(se, .inr (0, [.ref rc0, .ref ca, .ref ba, nV wt, nV le])), (ca, cN g 3 c1), (ba, cN g 3 b1), (rc0, .inr (2, [.ref rl0, .ref rh0])), (rl0, cM g 72 lw), (rh0, cM g 72 hg)] [.ref se, nV dep, nV fr, nV flo] (fun (_ : Unit) => True) (fun (_ : Unit) => [(se, .inr (0, [.ref rc0, .ref ca, .ref ba, nV wt, nV ((exs SS 0 dep fr flo (c1, b1, le)).2.2)])), (ca, cN g 3 ((exs SS 0 dep fr flo (c1, b1, le)).1)), (ba, cN g 3 ((exs SS 0 dep fr flo (c1, b1, le)).2.1)), (rc0, .inr (2, [.ref rl0, .ref rh0])), (rl0, cM g 72 lw), (rh0, cM g 72 hg)]) := by
  refine wr_startV (by decide +kernel) (Nat.le_of_ble_eq_true rfl) ?_
  intro p e s m args below meth c Q A ls C hK hA ret hP hD hS hl
  have C : CT p s m args meth c cX0_extend RX0 6 := C
  have hl : lv_has ls 6 [(0, .ref se), (1, nV dep), (2, nV fr), (3, nV flo)] := hl
  refine lv_iload_n C.1 C.2.1 dX0_extend_0 rfl (lv_at hl 1 rfl) ?_
  refine r_ilt 21 C dX0_extend_1 rfl (rgN (by omega)) (fun h_1 => ?_) (fun h_1 => ?_)
  · exact absurd h_1 (by omega)
  refine lv_iload_n C.1 C.2.1 dX0_extend_4 rfl (lv_at hl 1 rfl) ?_
  refine lv_aload_n C.1 C.2.1 dX0_extend_5 rfl (lv_at hl 0 rfl) ?_
  refine r_get C hK hP kw_X0 (ci := 0) rfl 0 3 (by decide) kf_X0_28 rfl rfl dX0_extend_6 ?_
  refine r_cge 21 C dX0_extend_9 rfl ⟨rgN (by omega), rgN (by omega)⟩ (fun h_2 => ?_) (fun h_2 => ?_)
  rotate_left
  · exact absurd h_2 (by omega)
  refine lv_aload_n C.1 C.2.1 dX0_extend_21 rfl (lv_at hl 0 rfl) ?_
  refine r_get C hK hP kw_X0 (ci := 0) rfl 0 1 (by decide) kf_X0_9 rfl rfl dX0_extend_22 ?_
  refine r_iconst 0 C dX0_extend_25 rfl ?_
  refine lv_aload_n C.1 C.2.1 dX0_extend_26 rfl (lv_at hl 0 rfl) ?_
  refine r_get C hK hP kw_X0 (ci := 0) rfl 0 2 (by decide) kf_X0_15 rfl rfl dX0_extend_27 ?_
  refine r_iconst 0 C dX0_extend_30 rfl ?_
  refine r_iconst 3 C dX0_extend_31 rfl ?_
  refine r_copyN (sp := 0) (dp := 0) (k := 3) C hK hP hD hS kl_X0_46 hl 1 2 rfl rfl ⟨by omega, by omega, by omega, by omega, by omega⟩ (by decide) (by decide) dX0_extend_32 (fun H locs hP hD hS => ?_)
  have hP : va_P g.1 vwCl [(se, .inr (0, [.ref rc0, .ref ca, .ref ba, nV wt, nV le])), (ca, cN g 3 c1), (ba, cN g 3 (va_cpy c1 b1 0 0 3)), (rc0, .inr (2, [.ref rl0, .ref rh0])), (rl0, cM g 72 lw), (rh0, cM g 72 hg)] H := hP
  have hD : va_D A [(se, .inr (0, [.ref rc0, .ref ca, .ref ba, nV wt, nV le])), (ca, cN g 3 c1), (ba, cN g 3 (va_cpy c1 b1 0 0 3)), (rc0, .inr (2, [.ref rl0, .ref rh0])), (rl0, cM g 72 lw), (rh0, cM g 72 hg)] := hD
  refine lv_aload_n C.1 C.2.1 dX0_extend_35 rfl (lv_at hl 0 rfl) ?_
  refine lv_iload_n C.1 C.2.1 dX0_extend_36 rfl (lv_at hl 3 rfl) ?_
  refine r_put (v := nV flo) C hK hP hD hS kw_X0 tyX0_ok nmX0 (ci := 0) rfl 0 4 (by decide) kf_X0_35 rfl rfl rfl rfl rfl (Nat.le_of_ble_eq_true rfl) dX0_extend_37 (fun H locs hP hD hS => ?_)
  have hP : va_P g.1 vwCl [(se, .inr (0, [.ref rc0, .ref ca, .ref ba, nV wt, nV flo])), (ca, cN g 3 c1), (ba, cN g 3 (va_cpy c1 b1 0 0 3)), (rc0, .inr (2, [.ref rl0, .ref rh0])), (rl0, cM g 72 lw), (rh0, cM g 72 hg)] H := hP
  have hD : va_D A [(se, .inr (0, [.ref rc0, .ref ca, .ref ba, nV wt, nV flo])), (ca, cN g 3 c1), (ba, cN g 3 (va_cpy c1 b1 0 0 3)), (rc0, .inr (2, [.ref rl0, .ref rh0])), (rl0, cM g 72 lw), (rh0, cM g 72 hg)] := hD
  exact ret (()) dX0_extend_40 hS hP (trivial)
def XEC (l : Launch) (g : GG) (se ca ba rc0 rl0 rh0 wt : Nat) (lw hg : Nat → Nat) (SS : Nat → Nat → Bool) (r dep : Nat) : Prop := ∀ (fr flo : Nat) (c1 b1 : Nat → Nat) (le : Nat), XOK (c1, b1, le) → fr ≤ 72 → flo + 18 * r ≤ 100 → WRv g l yX0_extend cX0_extend 6 (6 + r) [(se, .inr (0, [.ref rc0, .ref ca, .ref ba, nV wt, nV le])), (ca, cN g 3 c1), (ba, cN g 3 b1), (rc0, .inr (2, [.ref rl0, .ref rh0])), (rl0, cM g 72 lw), (rh0, cM g 72 hg)] [.ref se, nV dep, nV fr, nV flo] (fun (_ : Unit) => True) (fun (_ : Unit) => [(se, .inr (0, [.ref rc0, .ref ca, .ref ba, nV wt, nV ((exs SS r dep fr flo (c1, b1, le)).2.2)])), (ca, cN g 3 ((exs SS r dep fr flo (c1, b1, le)).1)), (ba, cN g 3 ((exs SS r dep fr flo (c1, b1, le)).2.1)), (rc0, .inr (2, [.ref rl0, .ref rh0])), (rl0, cM g 72 lw), (rh0, cM g 72 hg)])
set_option maxHeartbeats 4000000 in
set_option maxRecDepth 100000 in
theorem c_X0_extend_s (l : Launch) (g : GG) (se : Nat) (ca : Nat) (ba : Nat) (wt : Nat) (le : Nat) (c1 : Nat → Nat) (b1 : Nat → Nat) (rc0 : Nat) (rl0 : Nat) (rh0 : Nat) (lw : Nat → Nat) (hg : Nat → Nat) (SS : Nat → Nat → Bool) (dep : Nat) (fr : Nat) (flo : Nat) (r : Nat) (ih : XEC l g se ca ba rc0 rl0 rh0 wt lw hg SS r (dep + 1)) (hSS : ∀ y, y < 72 → RBn (lw y) (hg y) (SS y)) (hxo : XOK (c1, b1, le)) (hfr : fr ≤ 72) (hdw : dep + (r + 1) = wt) (hfl : flo + 18 * (r + 1) ≤ 100) (hwt : wt ≤ 3) : WRv g l yX0_extend cX0_extend 6 (6 + (r + 1)) [(se, .inr (0, [.ref rc0, .ref ca, .ref ba, nV wt, nV le])), (ca, cN g 3 c1), (ba, cN g 3 b1), (rc0, .inr (2, [.ref rl0, .ref rh0])), (rl0, cM g 72 lw), (rh0, cM g 72 hg)] [.ref se, nV dep, nV fr, nV flo] (fun (_ : Unit) => True) (fun (_ : Unit) => [(se, .inr (0, [.ref rc0, .ref ca, .ref ba, nV wt, nV ((exs SS (r + 1) dep fr flo (c1, b1, le)).2.2)])), (ca, cN g 3 ((exs SS (r + 1) dep fr flo (c1, b1, le)).1)), (ba, cN g 3 ((exs SS (r + 1) dep fr flo (c1, b1, le)).2.1)), (rc0, .inr (2, [.ref rl0, .ref rh0])), (rl0, cM g 72 lw), (rh0, cM g 72 hg)]) := by
  refine wr_startV (by decide +kernel) (Nat.le_of_ble_eq_true rfl) ?_
  intro p e s m args below meth c Q A ls C hK hA ret hP hD hS hl
  have C : CT p s m args meth c cX0_extend RX0 6 := C
  have hl : lv_has ls 6 [(0, .ref se), (1, nV dep), (2, nV fr), (3, nV flo)] := hl
  refine lv_iload_n C.1 C.2.1 dX0_extend_0 rfl (lv_at hl 1 rfl) ?_
  refine r_ilt 21 C dX0_extend_1 rfl (rgN (by omega)) (fun h_1 => ?_) (fun h_1 => ?_)
  · exact absurd h_1 (by omega)
  refine lv_iload_n C.1 C.2.1 dX0_extend_4 rfl (lv_at hl 1 rfl) ?_
  refine lv_aload_n C.1 C.2.1 dX0_extend_5 rfl (lv_at hl 0 rfl) ?_
  refine r_get C hK hP kw_X0 (ci := 0) rfl 0 3 (by decide) kf_X0_28 rfl rfl dX0_extend_6 ?_
  refine r_cge 21 C dX0_extend_9 rfl ⟨rgN (by omega), rgN (by omega)⟩ (fun h_2 => ?_) (fun h_2 => ?_)
  · exact absurd h_2 (by omega)
  refine lv_iload_n C.1 C.2.1 dX0_extend_12 rfl (lv_at hl 1 rfl) ?_
  refine lv_aload_n C.1 C.2.1 dX0_extend_13 rfl (lv_at hl 0 rfl) ?_
  refine r_get C hK hP kw_X0 (ci := 0) rfl 0 1 (by decide) kf_X0_9 rfl rfl dX0_extend_14 ?_
  refine r_alen 3 (t0 := 1) C hK hP 1 rfl rfl rfl dX0_extend_17 ?_
  refine r_clt 41 C dX0_extend_18 rfl ⟨rgN (by omega), rgN (by decide)⟩ (fun h_3 => ?_) (fun h_3 => ?_)
  rotate_left
  · exact absurd h_3 (by omega)
  refine lv_iload_n C.1 C.2.1 dX0_extend_41 rfl (lv_at hl 2 rfl) ?_
  refine lv_istore (lv' := [(4, nV fr), (0, .ref se), (1, nV dep), (2, nV fr), (3, nV flo)]) C.1 C.2.1 dX0_extend_42 hl (by decide) rfl (fun ls hl => ?_)
  have L44 : ∀ (n_44 : Nat) (i : Nat) (cA : Nat → Nat) (bA : Nat → Nat) (leA : Nat) (H : Heap) (locs : List Loc) (ls : Array Slot) (hi : fr + i ≤ 72) (hst : exL SS dep flo (fun fr1 flo1 st1 => exs SS r (dep + 1) fr1 flo1 st1) fr i (c1, b1, le) = (cA, bA, leA)) (hok : XOK (cA, bA, leA)) (hm : 72 - (fr + i) < n_44) (hP : va_P g.1 vwCl [(se, .inr (0, [.ref rc0, .ref ca, .ref ba, nV wt, nV leA])), (ca, cN g 3 cA), (ba, cN g 3 bA), (rc0, .inr (2, [.ref rl0, .ref rh0])), (rl0, cM g 72 lw), (rh0, cM g 72 hg)] H) (hD : va_D A [(se, .inr (0, [.ref rc0, .ref ca, .ref ba, nV wt, nV leA])), (ca, cN g 3 cA), (ba, cN g 3 bA), (rc0, .inr (2, [.ref rl0, .ref rh0])), (rl0, cM g 72 lw), (rh0, cM g 72 hg)]) (hS : va_S A s.heap H locs) (hl : lv_has ls 6 [(4, nV (fr + i)), (0, .ref se), (1, nV dep), (2, nV fr), (3, nV flo)]), W p l e (rD (6 + (r + 1))) s m args below meth c H locs 0 0 Q (F0 m 44 ls []) := by
    intro n_44
    induction n_44 with
    | zero => intro i cA bA leA H locs ls hi hst hok hm hP hD hS hl; exact absurd hm (Nat.not_lt_zero _)
    | succ n_44 ih_44 =>
      intro i cA bA leA H locs ls hi hst hok hm hP hD hS hl
      have hle : leA ≤ 2147483647 := hok.2
      refine lv_iload C.1 C.2.1 dX0_extend_44 (lv_at hl 0 rfl) ?_
      refine r_bipush 72 C dX0_extend_46 (by decide) ?_
      refine r_cge 106 C dX0_extend_48 rfl ⟨rgN (by omega), rgN (by decide)⟩ (fun h_4 => ?_) (fun h_4 => ?_)
      · skip
        exact ret (()) dX0_extend_106 hS (by have e : exs SS (r + 1) dep fr flo (c1, b1, le) = (cA, bA, leA) := (by show exL SS dep flo (fun fr1 flo1 st1 => exs SS r (dep + 1) fr1 flo1 st1) fr (72 - fr) (c1, b1, le) = _; rw [show 72 - fr = i by omega]; exact hst); rw [e]; exact hP) (trivial)
      refine lv_iload_n C.1 C.2.1 dX0_extend_51 rfl (lv_at hl 4 rfl) ?_
      refine lv_iload C.1 C.2.1 dX0_extend_52 (lv_at hl 0 rfl) ?_
      have hfb := fl_bd (fr + i) (by omega)
      refine ro_callS (As := [nV (fr + i)]) (rest := [nV flo]) C hK (c_X6_flour l g (fr + i) (by first | assumption | omega)) (hP.sub (ws' := []) [] rfl) kc_X6_flour kl_X0_52 kn_X6 ks_X6_flour nk_X6_flour (rm_lt (by omega) (by decide)) hl rfl (Nat.le_of_ble_eq_true rfl) dX0_extend_54 (fun r_5 hr_6 => ?_)
      subst hr_6
      refine r_addN C dX0_extend_57 ?_
      refine lv_istore (lv' := [(5, nV (flo + (fl (fr + i)))), (4, nV (fr + i)), (0, .ref se), (1, nV dep), (2, nV fr), (3, nV flo)]) C.1 C.2.1 dX0_extend_58 hl (by decide) rfl (fun ls hl => ?_)
      refine lv_iload C.1 C.2.1 dX0_extend_60 (lv_at hl 0 rfl) ?_
      refine lv_aload_n C.1 C.2.1 dX0_extend_62 rfl (lv_at hl 2 rfl) ?_
      refine r_get C hK hP kw_X0 (ci := 0) rfl 0 4 (by decide) kf_X0_35 rfl rfl dX0_extend_63 ?_
      refine r_cge 100 C dX0_extend_66 rfl ⟨rgN (by omega), rgN (by omega)⟩ (fun g1 => ?_) (fun g1 => ?_)
      · skip
        refine r_incN (k := 1) (n := 1) [(4, nV (fr + i + 1)), (5, nV (flo + (fl (fr + i)))), (0, .ref se), (1, nV dep), (2, nV fr), (3, nV flo)] C dX0_extend_100 hl rfl rfl (by decide) rfl (fun ls hl => ?_)
        refine r_goto 44 C dX0_extend_103 rfl ?_
        exact ih_44 (i + 1) cA bA leA _ _ _ (by first | assumption | omega) (by show exT SS dep flo _ (fr + i) (exL SS dep flo (fun fr1 flo1 st1 => exs SS r (dep + 1) fr1 flo1 st1) fr i (c1, b1, le)) = _; rw [hst]; unfold exT; first | exact if_neg (fun q => absurd (show flo + fl (fr + i) < leA from q.1) (by omega)) | exact if_neg (fun q => g2 q.2)) (hok) (by omega) hP hD hS (lv_sub hl [0, 2, 3, 4, 5] rfl)
      refine lv_aload_n C.1 C.2.1 dX0_extend_69 rfl (lv_at hl 2 rfl) ?_
      refine lv_iload C.1 C.2.1 dX0_extend_70 (lv_at hl 1 rfl) ?_
      refine lv_iload_n C.1 C.2.1 dX0_extend_72 rfl (lv_at hl 3 rfl) ?_
      refine ro_callV (As := [nV (fr + i), nV dep]) (rest := []) C hK (c_X0_staysApart l g se ca ba wt leA cA bA rc0 rl0 rh0 lw hg SS (fr + i) dep (hSS) (hok.1) (by first | assumption | omega) (by first | assumption | omega)) hP (ci := 0) (q0 := 0) rfl rfl kc_X0_staysApart kl_X0_58 kn_X0 ki_X0_staysApart ke_X0_staysApart nk_X0_staysApart (rm_lt (by omega) (by decide)) hl rfl (Nat.le_of_ble_eq_true rfl) dX0_extend_73 (fun r_7 hr_8 => ?_)
      subst hr_8
      refine r_beq 100 C dX0_extend_76 rfl (fun g2 => ?_) (fun g2 => ?_)
      · skip
        refine r_incN (k := 1) (n := 1) [(4, nV (fr + i + 1)), (5, nV (flo + (fl (fr + i)))), (0, .ref se), (1, nV dep), (2, nV fr), (3, nV flo)] C dX0_extend_100 hl rfl rfl (by decide) rfl (fun ls hl => ?_)
        refine r_goto 44 C dX0_extend_103 rfl ?_
        exact ih_44 (i + 1) cA bA leA _ _ _ (by first | assumption | omega) (by show exT SS dep flo _ (fr + i) (exL SS dep flo (fun fr1 flo1 st1 => exs SS r (dep + 1) fr1 flo1 st1) fr i (c1, b1, le)) = _; rw [hst]; unfold exT; first | exact if_neg (fun q => absurd (show flo + fl (fr + i) < leA from q.1) (by omega)) | exact if_neg (fun q => g2 q.2)) (hok) (by omega) hP hD hS (lv_sub hl [0, 2, 3, 4, 5] rfl)
      refine lv_aload_n C.1 C.2.1 dX0_extend_79 rfl (lv_at hl 2 rfl) ?_
      refine r_get C hK hP kw_X0 (ci := 0) rfl 0 1 (by decide) kf_X0_9 rfl rfl dX0_extend_80 ?_
      refine lv_iload_n C.1 C.2.1 dX0_extend_83 rfl (lv_at hl 3 rfl) ?_
      refine lv_iload C.1 C.2.1 dX0_extend_84 (lv_at hl 1 rfl) ?_
      refine r_astN C hK hP hD hS 1 rfl ⟨by omega, by omega⟩ dX0_extend_86 (fun H locs hP hD hS => ?_)
      have hP : va_P g.1 vwCl [(se, .inr (0, [.ref rc0, .ref ca, .ref ba, nV wt, nV leA])), (ca, cN g 3 (upN cA dep (fr + i))), (ba, cN g 3 bA), (rc0, .inr (2, [.ref rl0, .ref rh0])), (rl0, cM g 72 lw), (rh0, cM g 72 hg)] H := hP
      have hD : va_D A [(se, .inr (0, [.ref rc0, .ref ca, .ref ba, nV wt, nV leA])), (ca, cN g 3 (upN cA dep (fr + i))), (ba, cN g 3 bA), (rc0, .inr (2, [.ref rl0, .ref rh0])), (rl0, cM g 72 lw), (rh0, cM g 72 hg)] := hD
      refine lv_aload_n C.1 C.2.1 dX0_extend_87 rfl (lv_at hl 2 rfl) ?_
      refine lv_iload_n C.1 C.2.1 dX0_extend_88 rfl (lv_at hl 3 rfl) ?_
      refine r_iconst 1 C dX0_extend_89 rfl ?_
      refine r_addN C dX0_extend_90 ?_
      refine lv_iload C.1 C.2.1 dX0_extend_91 (lv_at hl 1 rfl) ?_
      refine r_iconst 1 C dX0_extend_93 rfl ?_
      refine r_addN C dX0_extend_94 ?_
      refine lv_iload C.1 C.2.1 dX0_extend_95 (lv_at hl 0 rfl) ?_
      refine wr_callVV (As := [nV (dep + 1), nV ((fr + i) + 1), nV (flo + (fl (fr + i)))]) (rest := []) C hK (ih ((fr + i) + 1) (flo + (fl (fr + i))) (upN cA dep (fr + i)) bA leA (⟨fun j => by show upN _ _ _ j < 72; unfold upN; split; omega; exact hok.1 j, hok.2⟩) (by first | assumption | omega) (by first | assumption | omega)) [0, 1, 2, 3, 4, 5] rfl (fun _ => rfl) (by decide) hP hD hS hA (ci := 0) (q0 := 0) rfl rfl kc_X0_extend kl_X0_38 kn_X0 ki_X0_extend ke_X0_extend nk_X0_extend (rm_lt (by omega) (by decide)) hl rfl (Nat.le_of_ble_eq_true rfl) dX0_extend_97 (fun u_11 H locs hr_10 hP hD hS => ?_)
      have hP : va_P g.1 vwCl [(se, .inr (0, [.ref rc0, .ref ca, .ref ba, nV wt, nV ((exs SS r (dep + 1) ((fr + i) + 1) (flo + (fl (fr + i))) ((upN cA dep (fr + i)), bA, leA)).2.2)])), (ca, cN g 3 ((exs SS r (dep + 1) ((fr + i) + 1) (flo + (fl (fr + i))) ((upN cA dep (fr + i)), bA, leA)).1)), (ba, cN g 3 ((exs SS r (dep + 1) ((fr + i) + 1) (flo + (fl (fr + i))) ((upN cA dep (fr + i)), bA, leA)).2.1)), (rc0, .inr (2, [.ref rl0, .ref rh0])), (rl0, cM g 72 lw), (rh0, cM g 72 hg)] H := hP
      have hD : va_D A [(se, .inr (0, [.ref rc0, .ref ca, .ref ba, nV wt, nV ((exs SS r (dep + 1) ((fr + i) + 1) (flo + (fl (fr + i))) ((upN cA dep (fr + i)), bA, leA)).2.2)])), (ca, cN g 3 ((exs SS r (dep + 1) ((fr + i) + 1) (flo + (fl (fr + i))) ((upN cA dep (fr + i)), bA, leA)).1)), (ba, cN g 3 ((exs SS r (dep + 1) ((fr + i) + 1) (flo + (fl (fr + i))) ((upN cA dep (fr + i)), bA, leA)).2.1)), (rc0, .inr (2, [.ref rl0, .ref rh0])), (rl0, cM g 72 lw), (rh0, cM g 72 hg)] := hD
      refine r_incN (k := 1) (n := 1) [(4, nV (fr + i + 1)), (5, nV (flo + (fl (fr + i)))), (0, .ref se), (1, nV dep), (2, nV fr), (3, nV flo)] C dX0_extend_100 hl rfl rfl (by decide) rfl (fun ls hl => ?_)
      refine r_goto 44 C dX0_extend_103 rfl ?_
      exact ih_44 (i + 1) ((exs SS r (dep + 1) ((fr + i) + 1) (flo + (fl (fr + i))) ((upN cA dep (fr + i)), bA, leA)).1) ((exs SS r (dep + 1) ((fr + i) + 1) (flo + (fl (fr + i))) ((upN cA dep (fr + i)), bA, leA)).2.1) ((exs SS r (dep + 1) ((fr + i) + 1) (flo + (fl (fr + i))) ((upN cA dep (fr + i)), bA, leA)).2.2) _ _ _ (by first | assumption | omega) (by show exT SS dep flo _ (fr + i) (exL SS dep flo (fun fr1 flo1 st1 => exs SS r (dep + 1) fr1 flo1 st1) fr i (c1, b1, le)) = _; rw [hst]; unfold exT; exact if_pos ⟨(by show flo + fl (fr + i) < leA; omega), g2⟩) (exs_ok (by omega) (by omega) ⟨fun j => (by show upN _ _ _ j < 72; unfold upN; split; omega; exact hok.1 j), hok.2⟩) (by omega) hP hD hS (lv_sub hl [0, 2, 3, 4, 5] rfl)
  exact L44 (72 - (fr + 0) + 1) 0 c1 b1 le _ _ _ (by first | assumption | omega) (rfl) (hxo) (Nat.lt_succ_self _) hP hD hS (lv_sub hl [0, 1, 2, 3, 4] rfl)
theorem c_X0_extend_all (l : Launch) (g : GG) (se ca ba wt : Nat) (rc0 rl0 rh0 : Nat) (lw hg : Nat → Nat) (SS : Nat → Nat → Bool) (hSS : ∀ y, y < 72 → RBn (lw y) (hg y) (SS y)) (hwt : wt ≤ 3) : ∀ r dep, dep + r = wt → XEC l g se ca ba rc0 rl0 rh0 wt lw hg SS r dep := by
  intro r
  induction r with
  | zero => intro dep hd fr flo c1 b1 le h1 h2 h3; exact c_X0_extend_z l g se ca ba wt le c1 b1 rc0 rl0 rh0 lw hg SS dep fr flo hSS h1 h2 hd (by omega) hwt
  | succ r ih => intro dep hd fr flo c1 b1 le h1 h2 h3; exact c_X0_extend_s l g se ca ba wt le c1 b1 rc0 rl0 rh0 lw hg SS dep fr flo r (ih (dep + 1) (by omega)) hSS h1 h2 hd h3 hwt
set_option maxHeartbeats 4000000 in
set_option maxRecDepth 100000 in
theorem c_X0_find (l : Launch) (g : GG) (se : Nat) (ca : Nat) (ba : Nat) (wt : Nat) (le : Nat) (c1 : Nat → Nat) (b1 : Nat → Nat) (rc0 : Nat) (rl0 : Nat) (rh0 : Nat) (lw : Nat → Nat) (hg : Nat → Nat) (v : Nat) (v0 : Nat) (v1 : Nat) (v2 : Nat) (v3 : Nat) (v4 : Nat) (k : Nat) (nc : Nat) (nb : Nat) (bi : Nat) (mo : Nat) (k2 : Nat) (d : Nat) (b : Nat) (hbm : (1 ≤ bi ∧ bi ≤ 9) ∧ (1 ≤ mo ∧ mo ≤ 9)) (hk2 : 1 ≤ k2 ∧ k2 ≤ 3) (hd : d < 1000) (hb : b < 1000) (hc : ∀ j, c1 j < 72) : WRi g l yX0_find cX0_find 6 (some .boolean) 10 [(se, .inr (0, [.ref rc0, .ref ca, .ref ba, nV wt, nV le])), (ca, cN g 3 c1), (ba, cN g 3 b1), (rc0, .inr (2, [.ref rl0, .ref rh0])), (rl0, cM g 72 lw), (rh0, cM g 72 hg), (v, .inr (6, [.ref v0, .ref v1, .ref v2, .ref v3, .ref v4, nV k, nV nc, nV nb, nV bi, nV mo]))] [.ref se, .ref v, nV k2, nV d, nV b] (fun r (uq_ : (Nat → Nat) × (Nat → Nat)) => match uq_ with | (lw1, hg1) => r = bI ((exs (fun y t => rc bi mo y b t (d + 1)) k2 0 0 0 (c1, b1, 2147483647)).2.2 ≠ 2147483647)) (fun (uq_ : (Nat → Nat) × (Nat → Nat)) => match uq_ with | (lw1, hg1) => [(se, .inr (0, [.ref rc0, .ref ca, .ref ba, nV k2, nV ((exs (fun y t => rc bi mo y b t (d + 1)) k2 0 0 0 (c1, b1, 2147483647)).2.2)])), (ca, cN g 3 ((exs (fun y t => rc bi mo y b t (d + 1)) k2 0 0 0 (c1, b1, 2147483647)).1)), (ba, cN g 3 ((exs (fun y t => rc bi mo y b t (d + 1)) k2 0 0 0 (c1, b1, 2147483647)).2.1)), (rc0, .inr (2, [.ref rl0, .ref rh0])), (rl0, cM g 72 lw1), (rh0, cM g 72 hg1), (v, .inr (6, [.ref v0, .ref v1, .ref v2, .ref v3, .ref v4, nV k, nV nc, nV nb, nV bi, nV mo]))]) := by
  refine wr_startZ (by decide +kernel) (Nat.le_of_ble_eq_true rfl) ?_
  intro p e s m args below meth c Q A ls C hK hA ret hP hD hS hl
  have C : CT p s m args meth c cX0_find RX0 6 := C
  have hl : lv_has ls 6 [(0, .ref se), (1, .ref v), (2, nV k2), (3, nV d), (4, nV b)] := hl
  refine r_iconst 0 C dX0_find_0 rfl ?_
  refine lv_istore (lv' := [(5, nV 0), (0, .ref se), (1, .ref v), (2, nV k2), (3, nV d), (4, nV b)]) C.1 C.2.1 dX0_find_1 hl (by decide) rfl (fun ls hl => ?_)
  have L3 : ∀ (n_3 : Nat) (i : Nat) (lwA : Nat → Nat) (hgA : Nat → Nat) (H : Heap) (locs : List Loc) (ls : Array Slot) (hi : i ≤ 72) (hR : ∀ y, y < i → RBn (lwA y) (hgA y) (fun t => rc bi mo y b t (d + 1))) (hm : 72 - i < n_3) (hP : va_P g.1 vwCl [(se, .inr (0, [.ref rc0, .ref ca, .ref ba, nV wt, nV le])), (ca, cN g 3 c1), (ba, cN g 3 b1), (rc0, .inr (2, [.ref rl0, .ref rh0])), (rl0, cM g 72 lwA), (rh0, cM g 72 hgA), (v, .inr (6, [.ref v0, .ref v1, .ref v2, .ref v3, .ref v4, nV k, nV nc, nV nb, nV bi, nV mo]))] H) (hD : va_D A [(se, .inr (0, [.ref rc0, .ref ca, .ref ba, nV wt, nV le])), (ca, cN g 3 c1), (ba, cN g 3 b1), (rc0, .inr (2, [.ref rl0, .ref rh0])), (rl0, cM g 72 lwA), (rh0, cM g 72 hgA), (v, .inr (6, [.ref v0, .ref v1, .ref v2, .ref v3, .ref v4, nV k, nV nc, nV nb, nV bi, nV mo]))]) (hS : va_S A s.heap H locs) (hl : lv_has ls 6 [(5, nV i), (0, .ref se), (1, .ref v), (2, nV k2), (3, nV d), (4, nV b)]), W p l e (rD 10) s m args below meth c H locs 0 0 Q (F0 m 3 ls []) := by
    intro n_3
    induction n_3 with
    | zero => intro i lwA hgA H locs ls hi hR hm hP hD hS hl; exact absurd hm (Nat.not_lt_zero _)
    | succ n_3 ih_3 =>
      intro i lwA hgA H locs ls hi hR hm hP hD hS hl
      refine lv_iload C.1 C.2.1 dX0_find_3 (lv_at hl 0 rfl) ?_
      refine r_bipush 72 C dX0_find_5 (by decide) ?_
      refine r_cge 29 C dX0_find_7 rfl ⟨rgN (by omega), rgN (by decide)⟩ (fun h_1 => ?_) (fun h_1 => ?_)
      · skip
        refine lv_aload_n C.1 C.2.1 dX0_find_29 rfl (lv_at hl 1 rfl) ?_
        refine lv_iload_n C.1 C.2.1 dX0_find_30 rfl (lv_at hl 3 rfl) ?_
        refine r_put (v := nV k2) C hK hP hD hS kw_X0 tyX0_ok nmX0 (ci := 0) rfl 0 3 (by decide) kf_X0_28 rfl rfl rfl rfl rfl (Nat.le_of_ble_eq_true rfl) dX0_find_31 (fun H locs hP hD hS => ?_)
        have hP : va_P g.1 vwCl [(se, .inr (0, [.ref rc0, .ref ca, .ref ba, nV k2, nV le])), (ca, cN g 3 c1), (ba, cN g 3 b1), (rc0, .inr (2, [.ref rl0, .ref rh0])), (rl0, cM g 72 lwA), (rh0, cM g 72 hgA), (v, .inr (6, [.ref v0, .ref v1, .ref v2, .ref v3, .ref v4, nV k, nV nc, nV nb, nV bi, nV mo]))] H := hP
        have hD : va_D A [(se, .inr (0, [.ref rc0, .ref ca, .ref ba, nV k2, nV le])), (ca, cN g 3 c1), (ba, cN g 3 b1), (rc0, .inr (2, [.ref rl0, .ref rh0])), (rl0, cM g 72 lwA), (rh0, cM g 72 hgA), (v, .inr (6, [.ref v0, .ref v1, .ref v2, .ref v3, .ref v4, nV k, nV nc, nV nb, nV bi, nV mo]))] := hD
        refine lv_aload_n C.1 C.2.1 dX0_find_34 rfl (lv_at hl 1 rfl) ?_
        refine r_ldcR C kv_X0_34 dX0_find_35 ?_
        refine r_topRN (2147483647) (by decide) ?_
        refine r_put (v := nV 2147483647) C hK hP hD hS kw_X0 tyX0_ok nmX0 (ci := 0) rfl 0 4 (by decide) kf_X0_35 rfl rfl rfl rfl rfl (Nat.le_of_ble_eq_true rfl) dX0_find_37 (fun H locs hP hD hS => ?_)
        have hP : va_P g.1 vwCl [(se, .inr (0, [.ref rc0, .ref ca, .ref ba, nV k2, nV 2147483647])), (ca, cN g 3 c1), (ba, cN g 3 b1), (rc0, .inr (2, [.ref rl0, .ref rh0])), (rl0, cM g 72 lwA), (rh0, cM g 72 hgA), (v, .inr (6, [.ref v0, .ref v1, .ref v2, .ref v3, .ref v4, nV k, nV nc, nV nb, nV bi, nV mo]))] H := hP
        have hD : va_D A [(se, .inr (0, [.ref rc0, .ref ca, .ref ba, nV k2, nV 2147483647])), (ca, cN g 3 c1), (ba, cN g 3 b1), (rc0, .inr (2, [.ref rl0, .ref rh0])), (rl0, cM g 72 lwA), (rh0, cM g 72 hgA), (v, .inr (6, [.ref v0, .ref v1, .ref v2, .ref v3, .ref v4, nV k, nV nc, nV nb, nV bi, nV mo]))] := hD
        refine lv_aload_n C.1 C.2.1 dX0_find_40 rfl (lv_at hl 1 rfl) ?_
        refine r_iconst 0 C dX0_find_41 rfl ?_
        refine r_iconst 0 C dX0_find_42 rfl ?_
        refine r_iconst 0 C dX0_find_43 rfl ?_
        refine wr_callVV (As := [nV 0, nV 0, nV 0]) (rest := []) C hK (c_X0_extend_all l g se ca ba k2 rc0 rl0 rh0 lwA hgA (fun y t => rc bi mo y b t (d + 1)) (fun y hy => hR y (by omega)) (by first | assumption | omega) k2 0 (by first | assumption | omega) 0 0 c1 b1 2147483647 (⟨hc, Nat.le_refl _⟩) (by first | assumption | omega) (by first | assumption | omega)) [0, 1, 2, 3, 4, 5] rfl (fun _ => rfl) (by decide) hP hD hS hA (ci := 0) (q0 := 0) rfl rfl kc_X0_extend kl_X0_38 kn_X0 ki_X0_extend ke_X0_extend nk_X0_extend (rm_lt (by omega) (by decide)) hl rfl (Nat.le_of_ble_eq_true rfl) dX0_find_44 (fun u_4 H locs hr_3 hP hD hS => ?_)
        have hP : va_P g.1 vwCl [(se, .inr (0, [.ref rc0, .ref ca, .ref ba, nV k2, nV ((exs (fun y t => rc bi mo y b t (d + 1)) k2 0 0 0 (c1, b1, 2147483647)).2.2)])), (ca, cN g 3 ((exs (fun y t => rc bi mo y b t (d + 1)) k2 0 0 0 (c1, b1, 2147483647)).1)), (ba, cN g 3 ((exs (fun y t => rc bi mo y b t (d + 1)) k2 0 0 0 (c1, b1, 2147483647)).2.1)), (rc0, .inr (2, [.ref rl0, .ref rh0])), (rl0, cM g 72 lwA), (rh0, cM g 72 hgA), (v, .inr (6, [.ref v0, .ref v1, .ref v2, .ref v3, .ref v4, nV k, nV nc, nV nb, nV bi, nV mo]))] H := hP
        have hD : va_D A [(se, .inr (0, [.ref rc0, .ref ca, .ref ba, nV k2, nV ((exs (fun y t => rc bi mo y b t (d + 1)) k2 0 0 0 (c1, b1, 2147483647)).2.2)])), (ca, cN g 3 ((exs (fun y t => rc bi mo y b t (d + 1)) k2 0 0 0 (c1, b1, 2147483647)).1)), (ba, cN g 3 ((exs (fun y t => rc bi mo y b t (d + 1)) k2 0 0 0 (c1, b1, 2147483647)).2.1)), (rc0, .inr (2, [.ref rl0, .ref rh0])), (rl0, cM g 72 lwA), (rh0, cM g 72 hgA), (v, .inr (6, [.ref v0, .ref v1, .ref v2, .ref v3, .ref v4, nV k, nV nc, nV nb, nV bi, nV mo]))] := hD
        have hxk := (exs_ok (S := fun y t => rc bi mo y b t (d + 1)) (r := k2) (dep := 0) (fr := 0) (flo := 0) (st := (c1, b1, 2147483647)) (by omega) (by omega) ⟨hc, Nat.le_refl _⟩).2
        refine lv_aload_n C.1 C.2.1 dX0_find_47 rfl (lv_at hl 1 rfl) ?_
        refine r_get C hK hP kw_X0 (ci := 0) rfl 0 4 (by decide) kf_X0_35 rfl rfl dX0_find_48 ?_
        refine r_ldcR C kv_X0_34 dX0_find_51 ?_
        refine r_topRN (2147483647) (by decide) ?_
        refine r_ceq 60 C dX0_find_53 rfl ⟨rgN (by omega), rgN (by decide)⟩ (fun h_5 => ?_) (fun h_5 => ?_)
        · skip
          refine r_iconst 0 C dX0_find_60 rfl ?_
          exact ret ((lwA, hgA)) dX0_find_61 (by decide) hS hP (bI_z (by omega))
        refine r_iconst 1 C dX0_find_56 rfl ?_
        refine r_goto 61 C dX0_find_57 rfl ?_
        exact ret ((lwA, hgA)) dX0_find_61 (by decide) hS hP (bI_1 (by omega))
      refine lv_aload_n C.1 C.2.1 dX0_find_10 rfl (lv_at hl 1 rfl) ?_
      refine r_get C hK hP kw_X0 (ci := 0) rfl 0 0 (by decide) kf_X0_18 rfl rfl dX0_find_11 ?_
      refine lv_aload_n C.1 C.2.1 dX0_find_14 rfl (lv_at hl 2 rfl) ?_
      refine lv_iload C.1 C.2.1 dX0_find_15 (lv_at hl 0 rfl) ?_
      refine lv_iload_n C.1 C.2.1 dX0_find_17 rfl (lv_at hl 4 rfl) ?_
      refine lv_iload C.1 C.2.1 dX0_find_18 (lv_at hl 5 rfl) ?_
      refine wr_callVV (As := [.ref v, nV i, nV d, nV b]) (rest := []) C hK (c_X3_fill l g rc0 rl0 rh0 lwA hgA v v0 v1 v2 v3 v4 k nc nb bi mo i d b (by first | assumption | omega) (by first | assumption | omega) (by first | assumption | omega) (by first | assumption | omega)) [3, 4, 5, 6] rfl (fun _ => rfl) (by decide) hP hD hS hA (ci := 2) (q0 := 0) rfl rfl kc_X3_fill kl_X0_22 kn_X3 ki_X3_fill ke_X3_fill nk_X3_fill (rm_lt (by decide) (by decide)) hl rfl (Nat.le_of_ble_eq_true rfl) dX0_find_20 (fun u_8 H locs hr_7 hP hD hS => ?_)
      obtain ⟨lw1_a, hg1_a⟩ := u_8
      have hP : va_P g.1 vwCl [(se, .inr (0, [.ref rc0, .ref ca, .ref ba, nV wt, nV le])), (ca, cN g 3 c1), (ba, cN g 3 b1), (rc0, .inr (2, [.ref rl0, .ref rh0])), (rl0, cM g 72 lw1_a), (rh0, cM g 72 hg1_a), (v, .inr (6, [.ref v0, .ref v1, .ref v2, .ref v3, .ref v4, nV k, nV nc, nV nb, nV bi, nV mo]))] H := hP
      have hD : va_D A [(se, .inr (0, [.ref rc0, .ref ca, .ref ba, nV wt, nV le])), (ca, cN g 3 c1), (ba, cN g 3 b1), (rc0, .inr (2, [.ref rl0, .ref rh0])), (rl0, cM g 72 lw1_a), (rh0, cM g 72 hg1_a), (v, .inr (6, [.ref v0, .ref v1, .ref v2, .ref v3, .ref v4, nV k, nV nc, nV nb, nV bi, nV mo]))] := hD
      try dsimp only at hr_7
      have hm1 := hr_7
      refine r_incN (k := 0) (n := 1) [(5, nV (i + 1)), (0, .ref se), (1, .ref v), (2, nV k2), (3, nV d), (4, nV b)] C dX0_find_23 hl rfl rfl (by decide) rfl (fun ls hl => ?_)
      refine r_goto 3 C dX0_find_26 rfl ?_
      exact ih_3 (i + 1) lw1_a hg1_a _ _ _ (by first | assumption | omega) (fun y hy => by by_cases q : y = i; (subst q; exact hm1.1); (rw [(hm1.2 y q).1, (hm1.2 y q).2]; exact hR y (by omega))) (by omega) hP hD hS (lv_sub hl [0, 1, 2, 3, 4, 5] rfl)
  exact L3 (72 - 0 + 1) 0 lw hg _ _ _ (by first | assumption | omega) (fun y hy => by omega) (Nat.lt_succ_self _) hP hD hS (lv_sub hl [0, 1, 2, 3, 4, 5] rfl)
