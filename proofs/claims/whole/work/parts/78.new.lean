/-! ===== constructors ===== -/
def rN (d mc ms : Nat) : Room := { frames := d, cells := mc, slots := ms, locals := 40 * d }
/-- a contract that makes cells -/
def INv (g : GG) (l : Launch) (y : MethodName) (cc : ByteArray) (nL : Nat) (d mc ms : Nat) (ws : va_W) (As : List Value) {S : Type} (post : S → Prop) (w' : S → va_W) : Prop :=
  ∀ sz : Nat, Met l y (.code y cc nL none :: TB) (rN d mc ms) (va_Pc As (fun U => U.heap.size = sz ∧ KW g U ∧ va_P g.1 vwCl ws U.heap ∧ va_D (fun _ => True) ws)) (va_Qv post (fun u t => va_P g.1 vwCl (w' u) t.heap ∧ va_D (va_A ws sz) (w' u)) (va_A ws sz)) mc ms (va_A ws sz)
theorem in_start {g : GG} {l : Launch} {y : MethodName} {cc : ByteArray} {nL : Nat} {d mc ms : Nat} {ws : va_W} {As : List Value} {S : Type} {post : S → Prop} {w' : S → va_W} (hy : plainName y.cls = true) (hn : (lg_sl As).length ≤ nL)
    (body : ∀ (p : Program) (e : Env) (s : State) (m : MethodId) (args : Array Value) (below : List Frame) (meth : Method) (c : Code) (Q : State → Prop) (A : Nat → Prop) (ls : Array Slot), CT p s m args meth c cc y.cls nL → meth.name = y.name → KW g s → (∀ q, s.heap.size ≤ q → A q) → (∀ {pc : Nat} {ls : Array Slot} {H : Heap} {locs : List Loc} (u : S), decode cc pc = .ok (.return_, 1) → va_S A s.heap H locs → va_P g.1 vwCl (w' u) H → va_D A (w' u) → post u → W p l e (rN d mc ms) s m args below meth c H locs mc ms Q (F0 m pc ls [])) → va_P g.1 vwCl ws s.heap → va_D A ws → va_S A s.heap s.heap [] → lv_has ls nL (lv_args 0 As) →
      W p l e (rN d mc ms) s m args below meth c s.heap [] 0 0 Q (F0 m 0 ls [])) : INv g l y cc nL d mc ms ws As post w' := by
  intro sz
  refine Met.ofW (cc := cc) (maxL := nL) (ret := none) hy rfl ?_
  intro p e s m args below meth c s₁ B hml hv
  obtain ⟨rfl, hsz, hK, hP, hD⟩ := hv
  have hts := atoms_spec (ws := .code y cc nL none :: TB) B.pre
  have hl := lv_entry As (n := nL) hn
  rw [lg_entry_eq]
  subst hsz
  have C : CT p s m As.toArray meth c cc y.cls nL := ⟨B.exec, B.bytes, hml, findClass_of_methodNamed B.named, fun w h => hts w (List.mem_cons_of_mem _ h), B.notSynchronized⟩
  refine body p e s m As.toArray below meth c _ (va_A ws s.heap.size) _ C (name_of_methodNamed B.named B.method).1 hK (fun q h => Or.inr h) (fun u hd hS hP hD hp => ?_) hP hD.self va_S.rf hl
  exact W.vret (Qc := va_Qv post (fun u t => va_P g.1 vwCl (w' u) t.heap ∧ va_D (va_A ws s.heap.size) (w' u)) (va_A ws s.heap.size)) (free := va_A ws s.heap.size) C.1 C.2.1 B.returns (fun t ht _ => ⟨⟨u, rfl, hp, by rw [ht]; exact hP, hD⟩, hS.F ht⟩) hS.2.2 hd C.2.2.2.2.2
section RNEW
variable {p : Program} {l : Launch} {e : Env} {R : Room} {s : State} {m : MethodId} {args : Array Value} {below : List Frame} {meth : Method} {c : Code} {H : Heap} {locs : List Loc} {cells slots : Nat} {Q : State → Prop}
variable {cc : ByteArray} {own : String} {nL pc : Nat} {ls : Array Slot} {rest : List Value} {g : GG} {ws : va_W} {A : Nat → Prop} {lv : List (Nat × Value)}
theorem r_newaN {n : Nat} (C : CT p s m args meth c cc own nL) (hK : KW g s) (hP : va_P g.1 vwCl ws H) (hD : va_D A ws) (hS : va_S A s.heap H locs) (hA : ∀ q, s.heap.size ≤ q → A q) (hn : n < 100000) (hcells : cells + 1 ≤ R.cells) (hslots : slots + n ≤ R.slots) (hd : decode cc pc = .ok (.newarray .int, 2))
    (kk : ∀ (q : Nat) (H1 : Heap), va_P g.1 vwCl (ws ++ [(q, cN g n (fun _ => 0))]) H1 → va_D A (ws ++ [(q, cN g n (fun _ => 0))]) → va_S A s.heap H1 locs → W p l e R s m args below meth c H1 locs (cells + 1) (slots + n) Q (F0 m (pc + 2) ls (.ref q :: rest))) : W p l e R s m args below meth c H locs cells slots Q (F0 m pc ls (nV n :: rest)) := by
  refine va_newa (atype := .int) (ty := .int) C.1 C.2.1 (C.2.2.2.2.1 _ ka_int) rfl hK.1 hP hD hS hA (a0 := (n, .inl (fun _ => iI ((0 : Nat) : Int)))) (fun _ => rfl) (by rw [← iI_0, iI_lt (rgN (by omega)) (by decide)]; omega) (iI_cl (by omega)) (by show n * 4 ≤ _; omega) hcells hslots hd (fun q cA H1 hK1 hP1 hD1 hS1 => ?_)
  have h1 := (hK1.2 4 _ rfl).2
  have h2 := (hK.1.2 1 _ rfl).2
  have h3 := h1.symm.trans h2
  cases h3
  exact kk q H1 hP1 hD1 hS1
end RNEW
