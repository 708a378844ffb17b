/-! ===== the law: its script, its comparisons ===== -/
section LWR
variable {p : Program} {l : Launch} {e : Env} {R : Room} {s : State} {m : MethodId} {args : Array Value} {below : List Frame} {meth : Method} {c : Code} {H : Heap} {locs : List Loc} {cells slots : Nat} {Q : State → Prop}
variable {cc : ByteArray} {own : String} {nL pc : Nat} {ls : Array Slot} {rest : List Value} {A : Nat → Prop}
theorem r_sld {b L j : Nat} {xs : Nat → Int32} {z : Int} (C : CT p s m args meth c cc own nL) (hX : va_X b L xs s s.heap) (hbl : b < s.heap.size) (hbA : ¬ A b) (hS : va_S A s.heap H locs) (hj : j < L) (hL : L ≤ 384) (hz : xs j = iI z) (hd : decode cc pc = .ok (.iaload, 1))
    (kk : W p l e R s m args below meth c H locs cells slots Q (F0 m (pc + 1) ls (zV z :: rest))) : W p l e R s m args below meth c H locs cells slots Q (F0 m pc ls (nV j :: .ref b :: rest)) :=
  va_sld C.1 C.2.1 hX hbl hbA hS (i := iI (j : Int)) (iI_in hj (by omega)) hd (by rw [iI_cl (by omega), hz]; exact kk)
theorem r_slen {b L : Nat} {xs : Nat → Int32} (C : CT p s m args meth c cc own nL) (hX : va_X b L xs s s.heap) (hbl : b < s.heap.size) (hbA : ¬ A b) (hS : va_S A s.heap H locs) (hd : decode cc pc = .ok (.arraylength, 1))
    (kk : W p l e R s m args below meth c H locs cells slots Q (F0 m (pc + 1) ls (nV L :: rest))) : W p l e R s m args below meth c H locs cells slots Q (F0 m pc ls (.ref b :: rest)) :=
  va_slen C.1 C.2.1 hX hbl hbA hS hd (by rw [show Int32.ofNat L = iI ((L : Nat) : Int) from (iI_nI L).symm]; exact kk)
theorem r_same {x y : Int32} {off : Int} (tgt : Nat) (C : CT p s m args meth c cc own nL) (hd : decode cc pc = .ok (.if_icmp .eq off, 3)) (ht : (pc : Int) + off = (tgt : Int)) (he : x = y) (kt : W p l e R s m args below meth c H locs cells slots Q (F0 m tgt ls rest)) : W p l e R s m args below meth c H locs cells slots Q (F0 m pc ls (.int y :: .int x :: rest)) :=
  lv_icmp_eq C.1 C.2.1 hd ht (fun _ => kt) (fun h => absurd he h)
theorem r_lsame {x y : Int64} {off : Int} (tgt : Nat) (C : CT p s m args meth c cc own nL) (hd0 : decode cc pc = .ok (.lcmp, 1)) (hd : decode cc (pc + 1) = .ok (.ifCond .eq off, 3)) (ht : ((pc + 1 : Nat) : Int) + off = (tgt : Int)) (he : x = y) (kt : W p l e R s m args below meth c H locs cells slots Q (F0 m tgt ls rest)) : W p l e R s m args below meth c H locs cells slots Q (F0 m pc ls (.long y :: .long x :: rest)) :=
  W.lcmp C.1 C.2.1 hd0 (lv_if_eq C.1 C.2.1 hd ht (fun _ => kt) (fun h => absurd ((lg_cmp_eq _ _).mpr he) h))
end LWR
theorem and31 (x : Int32) : ∃ w : Nat, w < 32 ∧ x &&& iI ((31 : Nat) : Int) = iI ((w : Nat) : Int) := by
  obtain ⟨n, hn, rfl⟩ := wb_of32 x
  refine ⟨n % 32, Nat.mod_lt _ (by decide), ?_⟩
  rw [iI_nI, iI_nI]
  apply Int32.toBitVec_inj.1
  show (BitVec.ofNat 32 n) &&& (BitVec.ofNat 32 31) = BitVec.ofNat 32 (n % 32)
  apply BitVec.eq_of_toNat_eq
  rw [BitVec.toNat_and, BitVec.toNat_ofNat, BitVec.toNat_ofNat, BitVec.toNat_ofNat, Nat.mod_eq_of_lt hn]
  have h1 := Nat.and_two_pow_sub_one_eq_mod n 5
  have h2 : n % 32 < 2 ^ 32 := Nat.lt_of_lt_of_le (Nat.mod_lt _ (by decide)) (by decide)
  rw [Nat.mod_eq_of_lt h2]
  exact h1
theorem scr_z (x : Int32) : ∃ z : Int, x = iI z ∧ rg z := ⟨x.toInt, (iI_of x).symm, iI_rg x⟩
