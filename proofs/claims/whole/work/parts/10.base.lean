/-! ===== numbers: ints and longs as whole numbers ===== -/
def iI (z : Int) : Int32 := Int32.ofInt z
def lI (z : Int) : Int64 := Int64.ofInt z
abbrev nV (n : Nat) : Value := .int (iI (n : Int))
abbrev zV (z : Int) : Value := .int (iI z)
abbrev mV (n : Nat) : Value := .long (lI (n : Int))
abbrev jV (z : Int) : Value := .long (lI z)
def bI (P : Prop) [Decidable P] : Int32 := if P then 1 else 0
abbrev bV (P : Prop) [Decidable P] : Value := .int (bI P)
abbrev rg (z : Int) : Prop := -2147483648 ≤ z ∧ z < 2147483648
abbrev rl (z : Int) : Prop := -9223372036854775808 ≤ z ∧ z < 9223372036854775808
theorem iI_toInt {z : Int} (h : rg z) : (iI z).toInt = z := by
  unfold iI; rw [Int32.toInt_ofInt]; show z.bmod 4294967296 = z; rw [Int.bmod_eq_of_le (by omega) (by omega)]
theorem lI_toInt {z : Int} (h : rl z) : (lI z).toInt = z := by
  unfold lI; rw [Int64.toInt_ofInt]; show z.bmod 18446744073709551616 = z; rw [Int.bmod_eq_of_le (by omega) (by omega)]
theorem iI_of (x : Int32) : iI x.toInt = x := Int32.ofInt_toInt x
theorem lI_of (x : Int64) : lI x.toInt = x := Int64.ofInt_toInt x
theorem iI_rg (x : Int32) : rg x.toInt := by
  have h1 := Int32.le_toInt x
  have h2 := Int32.toInt_lt x
  constructor <;> omega
theorem lI_rl (x : Int64) : rl x.toInt := by
  have h1 := Int64.le_toInt x
  have h2 := Int64.toInt_lt x
  constructor <;> omega
theorem iI_nI (n : Nat) : iI (n : Int) = nI n := by
  unfold iI nI
  exact Int32.ofInt_eq_ofNat
theorem lI_lN (n : Nat) : lI (n : Int) = lN n := by
  unfold lI lN
  exact Int64.ofInt_eq_ofNat
theorem iI_add (a b : Int) : iI a + iI b = iI (a + b) := (Int32.ofInt_add a b).symm
theorem iI_mul (a b : Int) : iI a * iI b = iI (a * b) := (Int32.ofInt_mul a b).symm
theorem iI_neg (a : Int) : - iI a = iI (-a) := (Int32.ofInt_neg a).symm
theorem iI_sub (a b : Int) : iI a - iI b = iI (a - b) := by
  rw [Int32.sub_eq_add_neg, iI_neg, iI_add, Int.sub_eq_add_neg]
theorem lI_add (a b : Int) : lI a + lI b = lI (a + b) := (Int64.ofInt_add a b).symm
theorem lI_mul (a b : Int) : lI a * lI b = lI (a * b) := (Int64.ofInt_mul a b).symm
theorem lI_neg (a : Int) : - lI a = lI (-a) := (Int64.ofInt_neg a).symm
theorem lI_sub (a b : Int) : lI a - lI b = lI (a - b) := by
  rw [Int64.sub_eq_add_neg, lI_neg, lI_add, Int.sub_eq_add_neg]
theorem iI_inj {a b : Int} (ha : rg a) (hb : rg b) : iI a = iI b ↔ a = b := by
  rw [← Int32.toInt_inj, iI_toInt ha, iI_toInt hb]
theorem lI_inj {a b : Int} (ha : rl a) (hb : rl b) : lI a = lI b ↔ a = b := by
  rw [← Int64.toInt_inj, lI_toInt ha, lI_toInt hb]
theorem iI_lt {a b : Int} (ha : rg a) (hb : rg b) : iI a < iI b ↔ a < b := by
  rw [Int32.lt_iff_toInt_lt, iI_toInt ha, iI_toInt hb]
theorem iI_le {a b : Int} (ha : rg a) (hb : rg b) : iI a ≤ iI b ↔ a ≤ b := by
  rw [Int32.le_iff_toInt_le, iI_toInt ha, iI_toInt hb]
theorem lI_lt {a b : Int} (ha : rl a) (hb : rl b) : lI a < lI b ↔ a < b := by
  rw [Int64.lt_iff_toInt_lt, lI_toInt ha, lI_toInt hb]
theorem lI_le {a b : Int} (ha : rl a) (hb : rl b) : lI a ≤ lI b ↔ a ≤ b := by
  rw [Int64.le_iff_toInt_le, lI_toInt ha, lI_toInt hb]
theorem iI_0 : iI 0 = 0 := rfl
theorem lI_0 : lI 0 = 0 := rfl
theorem iI_div {a b : Nat} (ha : a < 2147483648) (h0 : 0 < b) (hb : b < 2147483648) : iI (a : Int) / iI (b : Int) = iI ((a / b : Nat) : Int) := by
  rw [iI_nI, iI_nI, iI_nI]; exact pk_div (by omega) h0 (by omega)
theorem iI_rem {a b : Nat} (ha : a < 2147483648) (h0 : 0 < b) (hb : b < 2147483648) : iI (a : Int) - iI (a : Int) / iI (b : Int) * iI (b : Int) = iI ((a % b : Nat) : Int) := by
  rw [iI_nI, iI_nI, iI_nI]; exact pk_rem (by omega) h0 (by omega)
theorem lI_div {a b : Nat} (ha : a < 9223372036854775808) (h0 : 0 < b) (hb : b < 9223372036854775808) : lI (a : Int) / lI (b : Int) = lI ((a / b : Nat) : Int) := by
  rw [lI_lN, lI_lN, lI_lN]; exact pk_lDiv (by omega) h0 (by omega)
theorem lI_rem {a b : Nat} (ha : a < 9223372036854775808) (h0 : 0 < b) (hb : b < 9223372036854775808) : lI (a : Int) - lI (a : Int) / lI (b : Int) * lI (b : Int) = lI ((a % b : Nat) : Int) := by
  rw [lI_lN, lI_lN, lI_lN]; exact pk_lRem (by omega) h0 (by omega)
theorem iI_l {z : Int} (h : rg z) : (iI z).toInt64 = lI z := Int64.toInt_inj.mp (by rw [Int32.toInt_toInt64, iI_toInt h, lI_toInt (by constructor <;> omega)])
theorem lI_i (z : Int) : (lI z).toInt32 = iI z := by
  apply Int32.toInt_inj.mp
  unfold lI iI
  rw [Int64.toInt_toInt32, Int64.toInt_ofInt, Int32.toInt_ofInt]
  exact Int.bmod_bmod_of_dvd (by decide)
theorem iI_cl {n : Nat} (h : n < 2147483648) : (iI (n : Int)).toNatClampNeg = n := by
  rw [iI_nI]; exact nI_clamp (by omega)
theorem iI_in {n N : Nat} (h : n < N) (hN : N < 2147483648) : vp_in (iI (n : Int)) N := by
  rw [iI_nI]; exact vp_in_nI h (by omega)
theorem iI_cast {a b : Int} (h : a = b) : iI a = iI b := congrArg iI h
theorem bI_0 {P : Prop} [Decidable P] : bI P = 0 ↔ ¬ P := by
  unfold bI; by_cases h : P <;> simp [h]
theorem bI_t {P : Prop} [Decidable P] (h : P) : bI P = 1 := if_pos h
theorem bI_f {P : Prop} [Decidable P] (h : ¬ P) : bI P = 0 := if_neg h
theorem bI_nar {P : Prop} [Decidable P] : narrow .boolean (.int (bI P)) = .int (bI P) := by
  unfold bI; by_cases h : P <;> simp [h] <;> rfl
theorem bI_congr {P Q : Prop} [Decidable P] [Decidable Q] (h : P ↔ Q) : bI P = bI Q := by
  unfold bI; by_cases hp : P
  · rw [if_pos hp, if_pos (h.mp hp)]
  · rw [if_neg hp, if_neg (fun q => hp (h.mpr q))]
/-! ===== contents of arrays ===== -/
abbrev GG : Type := va_G × ClassId × ClassId × ClassId × ClassId
abbrev tyG (g : GG) : List (ClassId × FieldType) := [(g.2.1, .byte), (g.2.2.1, .int), (g.2.2.2.1, .long), (g.2.2.2.2, .boolean)]
def upN (F : Nat → Nat) (k v : Nat) : Nat → Nat := fun j => if j = k then v else F j
def upZ (F : Nat → Int) (k : Nat) (v : Int) : Nat → Int := fun j => if j = k then v else F j
theorem upN_s {F : Nat → Nat} {k v : Nat} : upN F k v k = v := if_pos rfl
theorem upN_n {F : Nat → Nat} {k v j : Nat} (h : j ≠ k) : upN F k v j = F j := if_neg h
theorem upZ_s {F : Nat → Int} {k : Nat} {v : Int} : upZ F k v k = v := if_pos rfl
theorem upZ_n {F : Nat → Int} {k j : Nat} {v : Int} (h : j ≠ k) : upZ F k v j = F j := if_neg h
abbrev cN (g : GG) (n : Nat) (F : Nat → Nat) : va_E := .inl (g.2.2.1, n, .inl (fun j => iI ((F j : Nat) : Int)))
abbrev cZ (g : GG) (n : Nat) (F : Nat → Int) : va_E := .inl (g.2.2.1, n, .inl (fun j => iI (F j)))
abbrev cB (g : GG) (n : Nat) (u : Nat → Nat) : va_E := .inl (g.2.1, n, .inl (fun j => sb_b (u j)))
abbrev cO (g : GG) (n : Nat) (F : Nat → Bool) : va_E := .inl (g.2.2.2.2, n, .inl (fun j => bI (F j = true)))
abbrev cL (g : GG) (n : Nat) (F : Nat → Int64) : va_E := .inl (g.2.2.2.1, n, .inr (.inl F))
theorem upd_N {F : Nat → Nat} {k v : Nat} : upd (fun j => iI ((F j : Nat) : Int)) k (iI (v : Int)) = fun j => iI ((upN F k v j : Nat) : Int) := by
  funext j; unfold upd upN; by_cases h : j = k <;> simp [h]
theorem upd_Z {F : Nat → Int} {k : Nat} {v : Int} : upd (fun j => iI (F j)) k (iI v) = fun j => iI (upZ F k v j) := by
  funext j; unfold upd upZ; by_cases h : j = k <;> simp [h]
/-! ===== what a method's world holds beside its cells ===== -/
def NW (U : State) : Prop := ∀ q ∈ NL, va_Nw (.methodLinkNest q.1 q.2.1 q.2.2.1 q.2.2.2) U
def KW (g : GG) (U : State) : Prop := va_K g.1 vwCl (tyG g) U ∧ NW U
theorem KW.pass {g : GG} {s U : State} (h : KW g s) (hW : s.WarmedH U.vm) : KW g U := ⟨va_K.moved hW.alike h.1, fun q hq => va_Nw.warmM hW (h.2 q hq)⟩
theorem KW.blind {g : GG} {U : State} {f : JFrame} {mk : MethodId} {a : Array Value} (h : KW g U) : KW g (U.calling f mk a) :=
  ⟨va_K.moved (u := U) (U := U.calling f mk a) (Vm.Alike.refl U.vm) h.1, fun q hq => va_Nw.same rfl rfl (h.2 q hq)⟩
/-- rooms by level -/
def rD (d : Nat) : Room := { frames := d, cells := 0, slots := 0, locals := 40 * d }
/-- what a method's start gives -/
def CT (p : Program) (s : State) (m : MethodId) (args : Array Value) (meth : Method) (c : Code) (cc : ByteArray) (own : String) (nL : Nat) : Prop :=
  p.tables.exec = Jvm.exec ∧ c.code = cc ∧ c.maxLocals = nL ∧ s.vm.findClass own = some m.cls ∧ (∀ w ∈ TB, w.before args s = true) ∧ meth.locks = false
/-- a contract that only reads: an int comes back -/
def ROi (g : GG) (l : Launch) (y : MethodName) (cc : ByteArray) (nL : Nat) (ret : Option FieldType) (d : Nat) (ws : va_W) (As : List Value) (post : Int32 → Prop) : Prop :=
  Met l y (.code y cc nL ret :: TB) (rD d) (va_Pc As (fun U => KW g U ∧ va_P g.1 vwCl ws U.heap)) (vp_Si post) 0 0 (fun _ => False)
def ROl (g : GG) (l : Launch) (y : MethodName) (cc : ByteArray) (nL : Nat) (ret : Option FieldType) (d : Nat) (ws : va_W) (As : List Value) (post : Int64 → Prop) : Prop :=
  Met l y (.code y cc nL ret :: TB) (rD d) (va_Pc As (fun U => KW g U ∧ va_P g.1 vwCl ws U.heap)) (vp_Sl post) 0 0 (fun _ => False)
/-- contracts that write their cells -/
def WRi (g : GG) (l : Launch) (y : MethodName) (cc : ByteArray) (nL : Nat) (ret : Option FieldType) (d : Nat) (ws : va_W) (As : List Value) {S : Type} (post : Int32 → S → Prop) (w' : S → va_W) : Prop :=
  ∀ sz : Nat, Met l y (.code y cc nL ret :: TB) (rD d) (va_Pc As (fun U => U.heap.size = sz ∧ KW g U ∧ va_P g.1 vwCl ws U.heap ∧ va_D (fun _ => True) ws)) (va_Qi post (fun u t => va_P g.1 vwCl (w' u) t.heap) (va_A ws sz)) 0 0 (va_A ws sz)
def WRl (g : GG) (l : Launch) (y : MethodName) (cc : ByteArray) (nL : Nat) (ret : Option FieldType) (d : Nat) (ws : va_W) (As : List Value) {S : Type} (post : Int64 → S → Prop) (w' : S → va_W) : Prop :=
  ∀ sz : Nat, Met l y (.code y cc nL ret :: TB) (rD d) (va_Pc As (fun U => U.heap.size = sz ∧ KW g U ∧ va_P g.1 vwCl ws U.heap ∧ va_D (fun _ => True) ws)) (va_Ql post (fun u t => va_P g.1 vwCl (w' u) t.heap) (va_A ws sz)) 0 0 (va_A ws sz)
def WRv (g : GG) (l : Launch) (y : MethodName) (cc : ByteArray) (nL : Nat) (d : Nat) (ws : va_W) (As : List Value) {S : Type} (post : S → Prop) (w' : S → va_W) : Prop :=
  ∀ sz : Nat, Met l y (.code y cc nL none :: TB) (rD d) (va_Pc As (fun U => U.heap.size = sz ∧ KW g U ∧ va_P g.1 vwCl ws U.heap ∧ va_D (fun _ => True) ws)) (va_Qv post (fun u t => va_P g.1 vwCl (w' u) t.heap) (va_A ws sz)) 0 0 (va_A ws sz)
/-- a name that a call can go to -/
def NmOk (y : MethodName) (n : Nat) : Prop := (y.cls ≠ "java/lang/invoke/MethodHandle" ∧ y.cls ≠ "java/lang/invoke/VarHandle") ∧ (parseMethodDescriptor y.desc).map (fun d => d.parameters.length) = some n
theorem rgN {n : Nat} (h : n < 2147483648) : rg (n : Int) := by constructor <;> omega
theorem rlN {n : Nat} (h : n < 9223372036854775808) : rl (n : Int) := by constructor <;> omega
theorem bI_1 {P : Prop} [Decidable P] (h : P) : iI ((1 : Nat) : Int) = bI P := (if_pos h).symm
theorem bI_z {P : Prop} [Decidable P] (h : ¬ P) : iI ((0 : Nat) : Int) = bI P := (if_neg h).symm
theorem nar_01 {n : Nat} (h : n = 0 ∨ n = 1) : narrow .boolean (.int (iI (n : Int))) = .int (iI (n : Int)) := by rcases h with rfl | rfl <;> rfl
