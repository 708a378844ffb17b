/-! ===== bits of longs (the first rows: laws/BITS.to-paste) ===== -/
theorem wb_tb (n : Nat) : (lN n).toBitVec = BitVec.ofNat 64 n := rfl
theorem wb_inj {a b : Int64} (h : a.toBitVec = b.toBitVec) : a = b := Int64.toBitVec_inj.mp h
theorem wb_tn {n : Nat} (h : n < 2 ^ 64) : (lN n).toBitVec.toNat = n := by rw [wb_tb, BitVec.toNat_ofNat, Nat.mod_eq_of_lt h]
theorem wb_of (x : Int64) : ∃ n, n < 2 ^ 64 ∧ x = lN n := ⟨x.toBitVec.toNat, x.toBitVec.isLt, wb_inj (by rw [wb_tb]; simp)⟩
theorem wb_of32 (x : Int32) : ∃ n, n < 2 ^ 32 ∧ x = nI n := ⟨x.toBitVec.toNat, x.toBitVec.isLt, Int32.toBitVec_inj.mp (by show _ = BitVec.ofNat 32 _; simp)⟩
theorem wb_c : ∀ k, k < 64 → ((nI k).toInt64 &&& 63) = lN k := by decide +kernel
theorem wb_cu : ∀ k, k < 64 → ((nI k).toInt64.toUInt64 &&& Int64.toUInt64 63) = UInt64.ofNat k := by decide +kernel
theorem wb_sm : ∀ k, k < 64 → (BitVec.ofNat 64 k).smod 64 = BitVec.ofNat 64 k := by decide +kernel
theorem wb_pw {a b : Nat} (h : a ≤ b) : 2 ^ b = 2 ^ a * 2 ^ (b - a) := by rw [← Nat.pow_add]; congr 1; omega
theorem wb_lt2 {a b : Nat} (h : a < b) : 2 ^ a < 2 ^ b := Nat.pow_lt_pow_right (by decide) h
theorem wb_mod (n : Nat) : lN n = lN (n % 2 ^ 64) := wb_inj (by rw [wb_tb, wb_tb]; apply BitVec.eq_of_toNat_eq; rw [BitVec.toNat_ofNat, BitVec.toNat_ofNat, Nat.mod_mod])
theorem wb_shr {n k : Nat} (hn : n < 2 ^ 64) (hk : k < 64) : ((lN n).toUInt64 >>> ((nI k).toInt64.toUInt64 &&& Int64.toUInt64 63)).toInt64 = lN (n / 2 ^ k) := by
  rw [wb_cu k hk]
  apply wb_inj
  apply BitVec.eq_of_toNat_eq
  show ((lN n).toUInt64 >>> UInt64.ofNat k).toNat = (BitVec.ofNat 64 _).toNat
  have h1 : (UInt64.ofNat k).toNat = k := by
    show (BitVec.ofNat 64 k).toNat = k
    rw [BitVec.toNat_ofNat, Nat.mod_eq_of_lt (by omega)]
  have h2 : (lN n).toUInt64.toNat = n := wb_tn hn
  rw [UInt64.toNat_shiftRight, h1, h2, Nat.mod_eq_of_lt hk, Nat.shiftRight_eq_div_pow, BitVec.toNat_ofNat, Nat.mod_eq_of_lt (Nat.lt_of_le_of_lt (Nat.div_le_self _ _) hn)]
theorem wb_shl (n : Nat) {k : Nat} (hk : k < 64) : lN n <<< ((nI k).toInt64 &&& 63) = lN (n * 2 ^ k) := by
  rw [wb_c k hk]
  apply wb_inj
  rw [Int64.toBitVec_shiftLeft, wb_tb, wb_tb, wb_tb, wb_sm k hk]
  apply BitVec.eq_of_toNat_eq
  rw [BitVec.shiftLeft_eq', BitVec.toNat_shiftLeft, BitVec.toNat_ofNat, BitVec.toNat_ofNat, BitVec.toNat_ofNat, Nat.mod_eq_of_lt (show k < 2 ^ 64 by omega), Nat.shiftLeft_eq, Nat.mul_mod, Nat.mod_mod, ← Nat.mul_mod]
theorem wb_and {a b : Nat} (ha : a < 2 ^ 64) (hb : b < 2 ^ 64) : lN a &&& lN b = lN (a &&& b) := by
  apply wb_inj
  rw [Int64.toBitVec_and, wb_tb, wb_tb, wb_tb]
  apply BitVec.eq_of_toNat_eq
  rw [BitVec.toNat_and, BitVec.toNat_ofNat, BitVec.toNat_ofNat, BitVec.toNat_ofNat, Nat.mod_eq_of_lt ha, Nat.mod_eq_of_lt hb, Nat.mod_eq_of_lt (Nat.and_lt_two_pow _ hb)]
theorem wb_or {a b : Nat} (ha : a < 2 ^ 64) (hb : b < 2 ^ 64) : lN a ||| lN b = lN (a ||| b) := by
  apply wb_inj
  rw [Int64.toBitVec_or, wb_tb, wb_tb, wb_tb]
  apply BitVec.eq_of_toNat_eq
  rw [BitVec.toNat_or, BitVec.toNat_ofNat, BitVec.toNat_ofNat, BitVec.toNat_ofNat, Nat.mod_eq_of_lt ha, Nat.mod_eq_of_lt hb, Nat.mod_eq_of_lt (Nat.or_lt_two_pow ha hb)]
theorem wb_mask {n k : Nat} (hn : n < 2 ^ 64) (hk : k < 64) : lN n &&& lN (2 ^ k - 1) = lN (n % 2 ^ k) := by
  rw [wb_and hn (by have := wb_lt2 hk; omega), Nat.and_two_pow_sub_one_eq_mod]
theorem wb_a1 {n : Nat} (hn : n < 2 ^ 64) : lN n &&& 1 = lN (n % 2) := wb_mask (k := 1) hn (by decide)
theorem wb_bit {n k : Nat} (hn : n < 2 ^ 64) (hk : k < 64) : ((lN n).toUInt64 >>> ((nI k).toInt64.toUInt64 &&& Int64.toUInt64 63)).toInt64 &&& 1 = lN (n / 2 ^ k % 2) := by
  rw [wb_shr hn hk, wb_a1 (Nat.lt_of_le_of_lt (Nat.div_le_self _ _) hn)]

/-! ===== rows of longs as numbers ===== -/
abbrev cM (g : GG) (n : Nat) (F : Nat → Nat) : va_E := .inl (g.2.2.2.1, n, .inr (.inl (fun j => lI ((F j : Nat) : Int))))
theorem upd_M {F : Nat → Nat} {k v : Nat} : vp_updL (fun j => lI ((F j : Nat) : Int)) k (lI (v : Int)) = fun j => lI ((upN F k v j : Nat) : Int) := by
  funext j; unfold vp_updL upN; by_cases h : j = k <;> simp [h]
section RM
variable {p : Program} {l : Launch} {e : Env} {R : Room} {s : State} {m : MethodId} {args : Array Value} {below : List Frame} {meth : Method} {c : Code} {H : Heap} {locs : List Loc} {cells slots : Nat} {Q : State → Prop}
variable {cc : ByteArray} {own : String} {nL pc : Nat} {ls : Array Slot} {rest : List Value} {g : GG} {ws : va_W} {A : Nat → Prop}
theorem r_aldM {a n i : Nat} {F : Nat → Nat} (C : CT p s m args meth c cc own nL) (hK : KW g s) (hP : va_P g.1 vwCl ws H) (q0 : Nat) (he : ws[q0]? = some (a, cM g n F)) (hi : i < n ∧ n < 2147483648) (hd : decode cc pc = .ok (.laload, 1)) (kk : W p l e R s m args below meth c H locs cells slots Q (F0 m (pc + 1) ls (mV (F i) :: rest))) : W p l e R s m args below meth c H locs cells slots Q (F0 m pc ls (nV i :: .ref a :: rest)) :=
  va_lald C.1 C.2.1 hK.1 hP q0 2 he rfl (iI_in hi.1 hi.2) hd (by rw [iI_cl (by omega)]; exact kk)
theorem r_astM {a n i v : Nat} {F : Nat → Nat} (C : CT p s m args meth c cc own nL) (hK : KW g s) (hP : va_P g.1 vwCl ws H) (hD : va_D A ws) (hS : va_S A s.heap H locs) (q0 : Nat) (he : ws[q0]? = some (a, cM g n F)) (hi : i < n ∧ n < 2147483648) (hd : decode cc pc = .ok (.lastore, 1))
    (kk : ∀ (H1 : Heap) (locs1 : List Loc), va_P g.1 vwCl (ws.set q0 (a, cM g n (upN F i v))) H1 → va_D A (ws.set q0 (a, cM g n (upN F i v))) → va_S A s.heap H1 locs1 → W p l e R s m args below meth c H1 locs1 cells slots Q (F0 m (pc + 1) ls rest)) : W p l e R s m args below meth c H locs cells slots Q (F0 m pc ls (mV v :: nV i :: .ref a :: rest)) :=
  va_last C.1 C.2.1 hK.1 hP hD hS q0 2 he rfl (iI_in hi.1 hi.2) hd (fun H1 locs1 h1 h2 h3 => kk H1 locs1 (by rw [iI_cl (by omega), upd_M] at h1; exact h1) (by rw [iI_cl (by omega), upd_M] at h2; exact h2) h3)
end RM
/-! ===== a set of signs in two longs ===== -/
def RBn (a b : Nat) (S : Nat → Bool) : Prop := a < 2 ^ 64 ∧ b < 2 ^ 64 ∧ (∀ t, t < 64 → a.testBit t = S t) ∧ ∀ t, b.testBit t = (decide (t < 8) && S (64 + t))
theorem RB_0 : RBn 0 0 (fun _ => false) := ⟨by decide, by decide, fun t _ => Nat.zero_testBit t, fun t => by simp⟩
theorem RB_cong {a b : Nat} {S S' : Nat → Bool} (h : RBn a b S) (e : ∀ t, S' t = S t) : RBn a b S' := by
  have : S' = S := funext e
  rw [this]; exact h
theorem tb_or (n j t : Nat) : (n ||| 2 ^ j).testBit t = (n.testBit t || decide (j = t)) := by
  rw [Nat.testBit_or, Nat.testBit_two_pow]
theorem RB_lo {a b w : Nat} {S S' : Nat → Bool} (h : RBn a b S) (hw : w < 64) (e : ∀ t, S' t = (S t || decide (w = t))) : RBn (a ||| 2 ^ w) b S' := by
  refine ⟨Nat.or_lt_two_pow h.1 (wb_lt2 hw), h.2.1, fun t ht => ?_, fun t => ?_⟩
  · rw [tb_or, h.2.2.1 t ht, e]
  · rw [h.2.2.2 t, e]
    by_cases h8 : t < 8
    · simp [show ¬ w = 64 + t by omega]
    · simp [h8]
theorem RB_hi {a b w : Nat} {S S' : Nat → Bool} (h : RBn a b S) (hw : 64 ≤ w ∧ w < 72) (e : ∀ t, S' t = (S t || decide (w = t))) : RBn a (b ||| 2 ^ (w - 64)) S' := by
  refine ⟨h.1, Nat.or_lt_two_pow h.2.1 (wb_lt2 (by omega)), fun t ht => ?_, fun t => ?_⟩
  · rw [h.2.2.1 t ht, e]
    simp [show ¬ w = t by omega]
  · rw [tb_or, h.2.2.2 t, e]
    by_cases h8 : t < 8
    · by_cases hq : w = 64 + t
      · simp [h8, show w - 64 = t by omega, hq]
      · simp [h8, show ¬ w - 64 = t by omega, hq]
    · simp [h8, show ¬ w - 64 = t by omega]
theorem or_bit {a t : Nat} (ha : a < 2 ^ 64) (ht : t < 64) : lI ((a : Nat) : Int) ||| lI ((1 : Nat) : Int) <<< ((iI ((t : Nat) : Int)).toInt64 &&& 63) = lI ((a ||| 2 ^ t : Nat) : Int) := by
  rw [lI_lN, lI_lN, lI_lN, iI_nI, wb_shl 1 ht, wb_or ha (by rw [Nat.one_mul]; exact wb_lt2 ht), Nat.one_mul]
theorem and63 {t : Nat} (ht : t < 72) : iI ((t : Nat) : Int) &&& iI ((63 : Nat) : Int) = iI ((t % 64 : Nat) : Int) := by
  have : ∀ t, t < 72 → iI ((t : Nat) : Int) &&& iI ((63 : Nat) : Int) = iI ((t % 64 : Nat) : Int) := by decide +kernel
  exact this t ht
theorem shr_bit {a t : Nat} (ha : a < 2 ^ 64) (ht : t < 64) : ((lI ((a : Nat) : Int)).toUInt64 >>> ((iI ((t : Nat) : Int)).toInt64.toUInt64 &&& Int64.toUInt64 63)).toInt64 &&& lI ((1 : Nat) : Int) = lI ((a / 2 ^ t % 2 : Nat) : Int) := by
  rw [lI_lN, lI_lN, lI_lN, iI_nI]
  exact wb_bit ha ht
theorem tb_div (a t : Nat) : a.testBit t = decide (a / 2 ^ t % 2 = 1) := by
  rw [Nat.testBit_eq_decide_div_mod_eq]
/-- two sets meet below n -/
def mtB (S T : Nat → Bool) : Nat → Bool
  | 0 => false
  | n + 1 => mtB S T n || (S n && T n)
theorem mtB_iff {S T : Nat → Bool} : ∀ {n : Nat}, mtB S T n = true ↔ ∃ t, t < n ∧ S t = true ∧ T t = true
  | 0 => by simp [mtB]
  | n + 1 => by
    unfold mtB
    rw [Bool.or_eq_true, mtB_iff, Bool.and_eq_true]
    constructor
    · rintro (⟨t, h1, h2⟩ | h)
      · exact ⟨t, by omega, h2⟩
      · exact ⟨n, by omega, h⟩
    · rintro ⟨t, h1, h2⟩
      by_cases ht : t = n
      · subst ht; exact Or.inr h2
      · exact Or.inl ⟨t, by omega, h2⟩
theorem land_0 {a b : Nat} (ha : a < 2 ^ 64) (hb : b < 2 ^ 64) : lI ((a : Nat) : Int) &&& lI ((b : Nat) : Int) = lI ((0 : Nat) : Int) ↔ ∀ t, ¬ (a.testBit t = true ∧ b.testBit t = true) := by
  rw [lI_lN, lI_lN, wb_and ha hb]
  have hl : a &&& b < 2 ^ 64 := Nat.and_lt_two_pow a hb
  constructor
  · intro h t ⟨h1, h2⟩
    have h0 : (lN (a &&& b)).toBitVec.toNat = 0 := by rw [h]; decide
    rw [wb_tn hl] at h0
    have h3 : (a &&& b).testBit t = true := by rw [Nat.testBit_and, h1, h2]; rfl
    rw [h0, Nat.zero_testBit] at h3
    cases h3
  · intro h
    have h0 : a &&& b = 0 := by
      apply Nat.eq_of_testBit_eq
      intro t
      rw [Nat.testBit_and, Nat.zero_testBit]
      have := h t
      cases h1 : a.testBit t <;> cases h2 : b.testBit t <;> simp_all
    rw [h0]; rfl
theorem RB_meet {a b c d : Nat} {S T : Nat → Bool} (h : RBn a b S) (h2 : RBn c d T) : mtB S T 72 = true ↔ ¬ (lI ((a : Nat) : Int) &&& lI ((c : Nat) : Int) = lI ((0 : Nat) : Int)) ∨ ¬ (lI ((b : Nat) : Int) &&& lI ((d : Nat) : Int) = lI ((0 : Nat) : Int)) := by
  rw [mtB_iff, land_0 h.1 h2.1, land_0 h.2.1 h2.2.1]
  constructor
  · rintro ⟨t, h3, h4, h5⟩
    by_cases ht : t < 64
    · left; intro q; exact q t ⟨by rw [h.2.2.1 t ht, h4], by rw [h2.2.2.1 t ht, h5]⟩
    · right; intro q
      refine q (t - 64) ⟨?_, ?_⟩
      · rw [h.2.2.2, show 64 + (t - 64) = t by omega, h4]; simp; omega
      · rw [h2.2.2.2, show 64 + (t - 64) = t by omega, h5]; simp; omega
  · intro q
    rcases q with q | q
    · obtain ⟨t, q⟩ := Classical.not_forall.mp q
      have q := Decidable.not_not.mp q
      have ht : t < 64 := by
        rcases Nat.lt_or_ge t 64 with h3 | h3
        · exact h3
        · have := Nat.testBit_lt_two_pow (Nat.lt_of_lt_of_le h.1 (Nat.pow_le_pow_right (show 0 < 2 by decide) h3))
          rw [this] at q; cases q.1
      exact ⟨t, by omega, by rw [← h.2.2.1 t ht]; exact q.1, by rw [← h2.2.2.1 t ht]; exact q.2⟩
    · obtain ⟨t, q⟩ := Classical.not_forall.mp q
      have q := Decidable.not_not.mp q
      rw [h.2.2.2, h2.2.2.2, Bool.and_eq_true, Bool.and_eq_true] at q
      exact ⟨64 + t, by have := of_decide_eq_true q.1.1; omega, q.1.2, q.2.2⟩
/-- how many places below n -/
def ct (S : Nat → Bool) : Nat → Nat
  | 0 => 0
  | n + 1 => ct S n + if S n = true then 1 else 0
theorem ct_le (S : Nat → Bool) : ∀ n, ct S n ≤ n
  | 0 => Nat.le_refl _
  | n + 1 => by have := ct_le S n; unfold ct; split <;> omega
theorem ct_cong {S T : Nat → Bool} : ∀ {n : Nat}, (∀ t, t < n → S t = T t) → ct S n = ct T n
  | 0, _ => rfl
  | n + 1, h => by unfold ct; rw [ct_cong (fun t ht => h t (by omega)), h n (by omega)]
theorem ct_add (S : Nat → Bool) (a : Nat) : ∀ b, ct S (a + b) = ct S a + ct (fun t => S (a + t)) b
  | 0 => rfl
  | b + 1 => by
    show ct S (a + b) + _ = ct S a + (ct (fun t => S (a + t)) b + _)
    rw [ct_add S a b, Nat.add_assoc]; rfl
theorem ct_no {S : Nat → Bool} : ∀ {n : Nat}, (∀ t, t < n → S t = false) → ct S n = 0
  | 0, _ => rfl
  | n + 1, h => by unfold ct; rw [ct_no (fun t ht => h t (by omega)), h n (by omega)]; rfl
theorem RB_ct {a b : Nat} {S : Nat → Bool} (h : RBn a b S) : ct a.testBit 64 + ct b.testBit 64 = ct S 72 := by
  rw [show 72 = 64 + 8 from rfl, ct_add S 64 8, ct_cong h.2.2.1, show 64 = 8 + 56 from rfl, ct_add b.testBit 8 56, ct_no (n := 56) (fun t _ => by rw [h.2.2.2, decide_eq_false (by omega), Bool.false_and]), Nat.add_zero]
  congr 1
  exact ct_cong (fun t ht => by rw [h.2.2.2]; simp [ht])
/-! ===== what a sign can be ===== -/
def rj (a t : Nat) : Nat → Bool
  | 0 => false
  | b + 1 => rj a t b || decide (bts a b = t)
def rc (B M x b t : Nat) : Nat → Bool
  | 0 => false
  | d + 1 => rc B M x b t d || rj (ag B M x d) t (b + 1)
theorem rc_same {B M x b t i : Nat} (h : ag B M x (i + 1) = ag B M x i) : rc B M x b t (i + 2) = rc B M x b t (i + 1) := by
  show (rc B M x b t i || rj (ag B M x i) t (b + 1) || rj (ag B M x (i + 1)) t (b + 1)) = (rc B M x b t i || rj (ag B M x i) t (b + 1))
  rw [h]; cases rc B M x b t i <;> cases rj (ag B M x i) t (b + 1) <;> rfl
/-! ===== the search for signs that stay apart ===== -/
abbrev XS : Type := (Nat → Nat) × (Nat → Nat) × Nat
def stA (S : Nat → Nat → Bool) (x : Nat) (c : Nat → Nat) : Nat → Bool
  | 0 => true
  | i + 1 => stA S x c i && !mtB (S x) (S (c i)) 72
def exT (S : Nat → Nat → Bool) (dep flo : Nat) (rc : Nat → Nat → XS → XS) (sn : Nat) (st : XS) : XS :=
  if flo + fl sn < st.2.2 ∧ stA S sn st.1 dep = true then rc (sn + 1) (flo + fl sn) (upN st.1 dep sn, st.2.1, st.2.2) else st
def exL (S : Nat → Nat → Bool) (dep flo : Nat) (rc : Nat → Nat → XS → XS) (fr : Nat) : Nat → XS → XS
  | 0, st => st
  | i + 1, st => exT S dep flo rc (fr + i) (exL S dep flo rc fr i st)
def exs (S : Nat → Nat → Bool) : Nat → Nat → Nat → Nat → XS → XS
  | 0, _, _, flo, st => (st.1, va_cpy st.1 st.2.1 0 0 3, flo)
  | r + 1, dep, fr, flo, st => exL S dep flo (fun fr1 flo1 st1 => exs S r (dep + 1) fr1 flo1 st1) fr (72 - fr) st
def XOK (st : XS) : Prop := (∀ j, st.1 j < 72) ∧ st.2.2 ≤ 2147483647
theorem exL_ok {S : Nat → Nat → Bool} {dep flo fr : Nat} {rc : Nat → Nat → XS → XS} {m : Nat} (hr : ∀ sn st, fr ≤ sn → sn < fr + m → XOK st → XOK (rc (sn + 1) (flo + fl sn) st)) (h72 : fr + m ≤ 72) : ∀ {i : Nat} {st : XS}, i ≤ m → XOK st → XOK (exL S dep flo rc fr i st)
  | 0, st, _, h => h
  | i + 1, st, hi, h => by
    have h1 := exL_ok (S := S) (dep := dep) hr h72 (i := i) (by omega) h
    show XOK (exT S dep flo rc (fr + i) (exL S dep flo rc fr i st))
    unfold exT
    split
    · refine hr (fr + i) _ (by omega) (by omega) ⟨fun j => ?_, h1.2⟩
      show upN _ _ _ j < 72
      unfold upN; split
      · omega
      · exact h1.1 j
    · exact h1
theorem exs_ok {S : Nat → Nat → Bool} : ∀ {r dep fr flo : Nat} {st : XS}, fr ≤ 72 → flo + 18 * r ≤ 100 → XOK st → XOK (exs S r dep fr flo st)
  | 0, dep, fr, flo, st, _, hf, h => ⟨h.1, by show flo ≤ _; omega⟩
  | r + 1, dep, fr, flo, st, h1, hf, h => by
    unfold exs
    refine exL_ok (m := 72 - fr) (fun sn st hs hs2 ho => ?_) (by omega) (Nat.le_refl _) h
    have := fl_bd sn (by omega)
    exact exs_ok (by omega) (by omega) ho
