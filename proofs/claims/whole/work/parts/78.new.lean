/-! ===== constructors ===== -/
def rN (d mc ms : Nat) : Room := { frames := d, cells := mc, slots := ms, locals := 40 * d }
/-- a contract that makes cells -/
def INv (g : GG) (l : Launch) (y : MethodName) (cc : ByteArray) (nL : Nat) (d mc ms : Nat) (ws : va_W) (As : List Value) {S : Type} (post : S → Prop) (w' : S → va_W) : Prop :=
  ∀ sz : Nat, Met l y (.code y cc nL none :: TB) (rN d mc ms) (va_Pc As (fun U => U.heap.size = sz ∧ KW g U ∧ va_P g.1 vwCl ws U.heap ∧ va_D (fun _ => True) ws)) (va_Qv post (fun u t => va_P g.1 vwCl (w' u) t.heap ∧ va_D (va_A ws sz) (w' u)) (va_A ws sz)) mc ms (va_A ws sz)
theorem in_start {g : GG} {l : Launch} {y : MethodName} {cc : ByteArray} {nL : Nat} {d mc ms : Nat} {ws : va_W} {As : List Value} {S : Type} {post : S → Prop} {w' : S → va_W} (hy : plainName y.cls = true) (hn : (lg_sl As).length ≤ nL)
    (body : ∀ (p : Program) (e : Env) (s : State) (m : MethodId) (args : Array Value) (below : List Frame) (meth : Method) (c : Code) (Q : State → Prop) (A : Nat → Prop) (ls : Array Slot), CT p s m args meth c cc y.cls nL → meth.name = y.name → KW g s → (∀ q, s.heap.size ≤ q → A q) → (∀ {pc : Nat} {ls : Array Slot} {H : Heap} {locs : List Loc} (u : S), decode cc pc = .ok (.return_, 1) → va_S A s.heap H locs → va_P g.1 vwCl (w' u) H → va_D A (w' u) → post u → W p l e (rN d mc ms) s m args below meth c H locs mc ms Q (F0 m pc ls [])) → va_P g.1 vwCl ws s.heap → va_D A ws → va_S A s.heap s.heap [] → lv_has ls nL (lv_args 0 As) →
      W p l e (rN d mc ms) s m args below meth c s.heap [] 0 0 Q (F0 m 0 ls [])) : INv g l y cc nL d mc ms ws As post w' := by
  intro sz
  refine Met.ofW (cc := cc) (maxL := nL) (ret := none) hy rfl ?_
  intro p e s m args below meth c s₁ B hml hv
  obtain ⟨rfl, hsz, hK, hP, hD⟩ := hv
  have hts := atoms_spec (ws := .code y cc nL none :: TB) B.pre
  have hl := lv_entry As (n := nL) hn
  rw [lg_entry_eq]
  subst hsz
  have C : CT p s m As.toArray meth c cc y.cls nL := ⟨B.exec, B.bytes, hml, findClass_of_methodNamed B.named, fun w h => hts w (List.mem_cons_of_mem _ h), B.notSynchronized⟩
  refine body p e s m As.toArray below meth c _ (va_A ws s.heap.size) _ C (name_of_methodNamed B.named B.method).1 hK (fun q h => Or.inr h) (fun u hd hS hP hD hp => ?_) hP hD.self va_S.rf hl
  exact W.vret (Qc := va_Qv post (fun u t => va_P g.1 vwCl (w' u) t.heap ∧ va_D (va_A ws s.heap.size) (w' u)) (va_A ws s.heap.size)) (free := va_A ws s.heap.size) C.1 C.2.1 B.returns (fun t ht _ => ⟨⟨u, rfl, hp, by rw [ht]; exact hP, hD⟩, hS.F ht⟩) hS.2.2 hd C.2.2.2.2.2
section RNEW
variable {p : Program} {l : Launch} {e : Env} {R : Room} {s : State} {m : MethodId} {args : Array Value} {below : List Frame} {meth : Method} {c : Code} {H : Heap} {locs : List Loc} {cells slots : Nat} {Q : State → Prop}
variable {cc : ByteArray} {own : String} {nL pc : Nat} {ls : Array Slot} {rest : List Value} {g : GG} {ws : va_W} {A : Nat → Prop} {lv : List (Nat × Value)}
theorem r_newaN {n : Nat} (C : CT p s m args meth c cc own nL) (hK : KW g s) (hP : va_P g.1 vwCl ws H) (hD : va_D A ws) (hS : va_S A s.heap H locs) (hA : ∀ q, s.heap.size ≤ q → A q) (hn : n < 100000) (hcells : cells + 1 ≤ R.cells) (hslots : slots + n ≤ R.slots) (hd : decode cc pc = .ok (.newarray .int, 2))
    (kk : ∀ (q : Nat) (H1 : Heap), va_P g.1 vwCl (ws ++ [(q, cN g n (fun _ => 0))]) H1 → va_D A (ws ++ [(q, cN g n (fun _ => 0))]) → va_S A s.heap H1 locs → W p l e R s m args below meth c H1 locs (cells + 1) (slots + n) Q (F0 m (pc + 2) ls (.ref q :: rest))) : W p l e R s m args below meth c H locs cells slots Q (F0 m pc ls (nV n :: rest)) := by
  refine va_newa (atype := .int) (ty := .int) C.1 C.2.1 (C.2.2.2.2.1 _ ka_int) rfl hK.1 hP hD hS hA (a0 := (n, .inl (fun _ => iI ((0 : Nat) : Int)))) (fun _ => rfl) (by rw [← iI_0, iI_lt (rgN (by omega)) (by decide)]; omega) (iI_cl (by omega)) (by show n * 4 ≤ _; omega) hcells hslots hd (fun q cA H1 hK1 hP1 hD1 hS1 => ?_)
  have h1 := (hK1.2 4 _ rfl).2
  have h2 := (hK.1.2 1 _ rfl).2
  have h3 := h1.symm.trans h2
  cases h3
  exact kk q H1 hP1 hD1 hS1
theorem r_newaZ {n : Nat} (C : CT p s m args meth c cc own nL) (hK : KW g s) (hP : va_P g.1 vwCl ws H) (hD : va_D A ws) (hS : va_S A s.heap H locs) (hA : ∀ q, s.heap.size ≤ q → A q) (hn : n < 100000) (hcells : cells + 1 ≤ R.cells) (hslots : slots + n ≤ R.slots) (hd : decode cc pc = .ok (.newarray .int, 2))
    (kk : ∀ (q : Nat) (H1 : Heap), va_P g.1 vwCl (ws ++ [(q, cZ g n (fun _ => 0))]) H1 → va_D A (ws ++ [(q, cZ g n (fun _ => 0))]) → va_S A s.heap H1 locs → W p l e R s m args below meth c H1 locs (cells + 1) (slots + n) Q (F0 m (pc + 2) ls (.ref q :: rest))) : W p l e R s m args below meth c H locs cells slots Q (F0 m pc ls (nV n :: rest)) := by
  refine va_newa (atype := .int) (ty := .int) C.1 C.2.1 (C.2.2.2.2.1 _ ka_int) rfl hK.1 hP hD hS hA (a0 := (n, .inl (fun _ => iI 0))) (fun _ => rfl) (by rw [← iI_0, iI_lt (rgN (by omega)) (by decide)]; omega) (iI_cl (by omega)) (by show n * 4 ≤ _; omega) hcells hslots hd (fun q cA H1 hK1 hP1 hD1 hS1 => ?_)
  have h1 := (hK1.2 4 _ rfl).2
  have h2 := (hK.1.2 1 _ rfl).2
  have h3 := h1.symm.trans h2
  cases h3
  exact kk q H1 hP1 hD1 hS1
theorem r_newaB {n : Nat} (C : CT p s m args meth c cc own nL) (hK : KW g s) (hP : va_P g.1 vwCl ws H) (hD : va_D A ws) (hS : va_S A s.heap H locs) (hA : ∀ q, s.heap.size ≤ q → A q) (hn : n < 100000) (hcells : cells + 1 ≤ R.cells) (hslots : slots + n ≤ R.slots) (hd : decode cc pc = .ok (.newarray .byte, 2))
    (kk : ∀ (q : Nat) (H1 : Heap), va_P g.1 vwCl (ws ++ [(q, cB g n (fun _ => 0))]) H1 → va_D A (ws ++ [(q, cB g n (fun _ => 0))]) → va_S A s.heap H1 locs → W p l e R s m args below meth c H1 locs (cells + 1) (slots + n) Q (F0 m (pc + 2) ls (.ref q :: rest))) : W p l e R s m args below meth c H locs cells slots Q (F0 m pc ls (nV n :: rest)) := by
  refine va_newa (atype := .byte) (ty := .byte) C.1 C.2.1 (C.2.2.2.2.1 _ ka_byte) rfl hK.1 hP hD hS hA (a0 := (n, .inl (fun _ => sb_b 0))) (fun _ => rfl) (by rw [← iI_0, iI_lt (rgN (by omega)) (by decide)]; omega) (iI_cl (by omega)) (by show n * 1 ≤ _; omega) hcells hslots hd (fun q cA H1 hK1 hP1 hD1 hS1 => ?_)
  have h1 := (hK1.2 4 _ rfl).2
  have h2 := (hK.1.2 0 _ rfl).2
  have h3 := h1.symm.trans h2
  cases h3
  exact kk q H1 hP1 hD1 hS1
theorem r_newaO {n : Nat} (C : CT p s m args meth c cc own nL) (hK : KW g s) (hP : va_P g.1 vwCl ws H) (hD : va_D A ws) (hS : va_S A s.heap H locs) (hA : ∀ q, s.heap.size ≤ q → A q) (hn : n < 100000) (hcells : cells + 1 ≤ R.cells) (hslots : slots + n ≤ R.slots) (hd : decode cc pc = .ok (.newarray .boolean, 2))
    (kk : ∀ (q : Nat) (H1 : Heap), va_P g.1 vwCl (ws ++ [(q, cO g n (fun _ => false))]) H1 → va_D A (ws ++ [(q, cO g n (fun _ => false))]) → va_S A s.heap H1 locs → W p l e R s m args below meth c H1 locs (cells + 1) (slots + n) Q (F0 m (pc + 2) ls (.ref q :: rest))) : W p l e R s m args below meth c H locs cells slots Q (F0 m pc ls (nV n :: rest)) := by
  refine va_newa (atype := .boolean) (ty := .boolean) C.1 C.2.1 (C.2.2.2.2.1 _ ka_boolean) rfl hK.1 hP hD hS hA (a0 := (n, .inl (fun _ => bI (false = true)))) (fun _ => rfl) (by rw [← iI_0, iI_lt (rgN (by omega)) (by decide)]; omega) (iI_cl (by omega)) (by show n * 1 ≤ _; omega) hcells hslots hd (fun q cA H1 hK1 hP1 hD1 hS1 => ?_)
  have h1 := (hK1.2 4 _ rfl).2
  have h2 := (hK.1.2 3 _ rfl).2
  have h3 := h1.symm.trans h2
  cases h3
  exact kk q H1 hP1 hD1 hS1
theorem r_newaM {n : Nat} (C : CT p s m args meth c cc own nL) (hK : KW g s) (hP : va_P g.1 vwCl ws H) (hD : va_D A ws) (hS : va_S A s.heap H locs) (hA : ∀ q, s.heap.size ≤ q → A q) (hn : n < 100000) (hcells : cells + 1 ≤ R.cells) (hslots : slots + n ≤ R.slots) (hd : decode cc pc = .ok (.newarray .long, 2))
    (kk : ∀ (q : Nat) (H1 : Heap), va_P g.1 vwCl (ws ++ [(q, cM g n (fun _ => 0))]) H1 → va_D A (ws ++ [(q, cM g n (fun _ => 0))]) → va_S A s.heap H1 locs → W p l e R s m args below meth c H1 locs (cells + 1) (slots + n) Q (F0 m (pc + 2) ls (.ref q :: rest))) : W p l e R s m args below meth c H locs cells slots Q (F0 m pc ls (nV n :: rest)) := by
  refine va_newa (atype := .long) (ty := .long) C.1 C.2.1 (C.2.2.2.2.1 _ ka_long) rfl hK.1 hP hD hS hA (a0 := (n, .inr (.inl (fun _ => lI ((0 : Nat) : Int))))) (fun _ => rfl) (by rw [← iI_0, iI_lt (rgN (by omega)) (by decide)]; omega) (iI_cl (by omega)) (by show n * 8 ≤ _; omega) hcells hslots hd (fun q cA H1 hK1 hP1 hD1 hS1 => ?_)
  have h1 := (hK1.2 4 _ rfl).2
  have h2 := (hK.1.2 2 _ rfl).2
  have h3 := h1.symm.trans h2
  cases h3
  exact kk q H1 hP1 hD1 hS1
theorem r_objI {b idx : Nat} (C : CT p s m args meth c cc own nL) (w2 : Cond.methodLink own idx objectInit ∈ TB) (hl : lv_has ls nL lv) (hd : decode cc pc = .ok (.invokespecial idx, 3)) (h1 : 1 ≤ R.frames) (h2 : 12 ≤ R.locals)
    (kk : W p l e R s m args below meth c H locs cells slots Q (F0 m (pc + 3) ls [])) : W p l e R s m args below meth c H locs cells slots Q (F0 m pc ls [.ref b]) := by
  refine W.objInit C.1 C.2.1 C.2.2.2.1 (C.2.2.2.2.1 _ w2) (C.2.2.2.2.1 _ ki_objectInit) (C.2.2.2.2.1 _ kc_objectInit) rfl (by rw [C.2.2.1]; exact hl.1) rfl hd (by first | exact h1 | exact h2 | omega) (by first | exact h1 | exact h2 | omega) ?_
  exact W.eq (g2 := F0 m (pc + 3) ls []) rfl kk
theorem r_putF {Cn : String} {T : u_T} {N ci idx a : Nat} {fs : List Value} {ty : FieldType} {v : Value} {ty0 : Nat → FieldType} (C : CT p s m args meth c cc own nL) (hin2 : meth.name = "<init>") (hK : KW g s) (hP : va_P g.1 vwCl ws H) (hD : va_D A ws) (hS : va_S A s.heap H locs) (hin : ∀ w ∈ u_ws Cn T N, w ∈ TB) (hty : ∀ k, k < N → parseFieldDescriptor (T k).2.2.1 = some (ty0 k)) (hnm : ∀ a, a < N → ∀ b, b < N → a ≠ b → (T a).2.1 ≠ (T b).2.1) (hc : vwCl[ci]? = some (Cn, T, N)) (q0 k : Nat) (hk : k < N) (hl : Cond.fieldLink own idx (T k).1 (T k).2.1 (T k).2.2.1 ∈ TB) (he : ws[q0]? = some (a, .inr (ci, fs))) (hfin : (T k).2.2.2 = true) (hdecl : (T k).1 = own) (ht : ty0 k = ty) (hn : narrow ty v = v) (hfit : fits ty v = true) (hlt : k < fs.length) (hd : decode cc pc = .ok (.putfield idx, 3))
    (kk : ∀ (H1 : Heap) (locs1 : List Loc), va_P g.1 vwCl (ws.set q0 (a, .inr (ci, fs.set k v))) H1 → va_D A (ws.set q0 (a, .inr (ci, fs.set k v))) → va_S A s.heap H1 locs1 → W p l e R s m args below meth c H1 locs1 cells slots Q (F0 m (pc + 3) ls rest)) : W p l e R s m args below meth c H locs cells slots Q (F0 m pc ls (v :: .ref a :: rest)) :=
  va_putF C.1 C.2.1 C.2.2.2.2.1 hin ty0 hty hnm C.2.2.2.1 hK.1 hP hD hS q0 he hc k hk (C.2.2.2.2.1 _ hl) (fun _ h => h) hfin hin2 hdecl (ty := ty) (by rw [hty k hk, ht]) hn hfit hlt hd kk
theorem r_new {Cn : String} {T : u_T} {N ci idx : Nat} {ty0 : Nat → FieldType} (fs : List Value) (C : CT p s m args meth c cc own nL) (hK : KW g s) (hP : va_P g.1 vwCl ws H) (hD : va_D A ws) (hS : va_S A s.heap H locs) (hA : ∀ q, s.heap.size ≤ q → A q) (hin : ∀ w ∈ u_ws Cn T N, w ∈ TB) (hty : ∀ k, k < N → parseFieldDescriptor (T k).2.2.1 = some (ty0 k)) (hc : vwCl[ci]? = some (Cn, T, N)) (w1 : Cond.classLink own idx Cn ∈ TB) (w2 : Cond.instantiable Cn N ∈ TB) (w3 : Cond.initialized Cn ∈ TB) (hfs : ∀ j, j < N → defaultValue (ty0 j) = vp_V fs j) (hcells : cells + 1 ≤ R.cells) (hslots : slots + N ≤ R.slots) (hd : decode cc pc = .ok (.new idx, 3))
    (kk : ∀ (q : Nat) (H1 : Heap), va_P g.1 vwCl (ws ++ [(q, .inr (ci, fs))]) H1 → va_D A (ws ++ [(q, .inr (ci, fs))]) → va_S A s.heap H1 locs → W p l e R s m args below meth c H1 locs (cells + 1) (slots + N) Q (F0 m (pc + 3) ls (.ref q :: rest))) : W p l e R s m args below meth c H locs cells slots Q (F0 m pc ls rest) :=
  va_new C.1 C.2.1 C.2.2.2.2.1 hin ty0 hty C.2.2.2.1 (C.2.2.2.2.1 _ w1) (C.2.2.2.2.1 _ w2) (C.2.2.2.2.1 _ w3) hK.1 hP hD hS hA hc hfs hcells hslots hd kk
end RNEW
/-! ===== calls of constructors ===== -/
abbrev rmIn (R : Room) (d maxL cells slots mc ms : Nat) : Prop := d + 1 ≤ R.frames ∧ 8 + (maxL + 11) + 40 * d ≤ R.locals ∧ cells + mc ≤ R.cells ∧ slots + ms ≤ R.slots
theorem fm_of {ws : va_W} : ∀ (js : List Nat) (v : va_W), js.map (fun i => ws[i]?) = v.map some → js.filterMap (fun i => ws[i]?) = v := by
  intro js
  induction js with
  | nil => intro v hv; cases v <;> simp at hv ⊢
  | cons j js ih =>
    intro v hv
    cases v with
    | nil => simp at hv
    | cons x v =>
      simp only [List.map_cons, List.cons.injEq] at hv
      rw [List.filterMap_cons, hv.1]
      simp [ih v hv.2]
section RCI
variable {p : Program} {l : Launch} {e : Env} {R : Room} {s : State} {m : MethodId} {args : Array Value} {below : List Frame} {meth : Method} {c : Code} {H : Heap} {locs : List Loc} {cells slots : Nat} {Q : State → Prop}
variable {cc : ByteArray} {own : String} {nL pc : Nat} {ls : Array Slot} {rest : List Value} {g : GG} {ws : va_W} {A : Nat → Prop} {lv : List (Nat × Value)}
variable {y : MethodName} {bytes : ByteArray} {maxL idx d mc ms : Nat} {As st0 : List Value} {wc wr : va_W}
theorem in_callI {S : Type} {post : S → Prop} {w' : S → va_W} {b : Nat} (C : CT p s m args meth c cc own nL) (hK : KW g s) (hM : INv g l y bytes maxL d mc ms wc (.ref b :: As) post w') (isC isR : List Nat) (hC : isC.map (fun i => ws[i]?) = wc.map some) (hR0 : isR.map (fun i => ws[i]?) = wr.map some) (hnC : va_nd isC = true) (hnR : va_nd isR = true) (hdis : ∀ i ∈ isR, i ∉ isC) (hP : va_P g.1 vwCl ws H) (hD : va_D A ws) (hS : va_S A s.heap H locs) (hA : ∀ q, s.heap.size ≤ q → A q) (w1 : Cond.code y bytes maxL none ∈ TB) (w2 : Cond.methodLink own idx y ∈ TB) (w3 : Cond.initialized y.cls ∈ TB) (w4 : Cond.instanceMethod y ∈ TB) (hy : y.name = "<init>") (hn : NmOk y As.length) (hR : rmIn R d maxL cells slots mc ms) (hl : lv_has ls nL lv) (hst : st0 = As.reverse ++ .ref b :: rest) (hrm : (rest.map fun v => v.category).sum ≤ 8) (hd : decode cc pc = .ok (.invokespecial idx, 3))
    (kk : ∀ (u : S) (H1 : Heap) (locs1 : List Loc), post u → va_P g.1 vwCl (wr ++ w' u) H1 → va_D A (wr ++ w' u) → va_S A s.heap H1 locs1 → W p l e R s m args below meth c H1 locs1 (cells + mc) (slots + ms) Q (F0 m (pc + 3) ls rest)) : W p l e R s m args below meth c H locs cells slots Q (F0 m pc ls st0) := by
  have hPc : va_P g.1 vwCl wc H := hP.sub isC (fm_of isC wc hC)
  have hDc : va_D A wc := hD.sub isC hnC hC
  have hFc := va_free (wc := wc) hD hS hA isC hC
  have cb : CallB R s args own idx y bytes maxL none (.code y bytes maxL none :: TB) (rN d mc ms) mc ms As.length :=
    callB_of As.length C.2.2.2.2.1 (goodTB (fun _ h => h) w1) rfl rfl rfl (C.2.2.2.2.1 _ w3) (C.2.2.2.2.1 _ w2) ⟨hn.1.1, hn.1.2, hn.2⟩ ⟨hR.1, hR.2.1⟩
  refine va_callv (va_runI (As := As) (rest := rest) ⟨C.1, C.2.1, C.2.2.1, C.2.2.2.1, C.2.2.2.2.1⟩ (hM H.size) ⟨cb, hy, C.2.2.2.2.1 _ w4⟩ (wr_pre (w0 := wc) (As := .ref b :: As) hK hPc hDc) rfl rfl hl.1 hst (lv_room hrm) hd ⟨hR.2.2.1, hR.2.2.2⟩) hS (fun q _ h => hFc q h) hFc (fun u t H1 locs1 ht hvm hw hB hz1 hk1 hS1 => ?_)
  obtain ⟨hB1, hB2⟩ := hB
  obtain ⟨h1, h2⟩ := va_join hP hD isC isR hC hR0 hnR hdis hk1 hFc (by rw [← ht]; exact hB1) hB2
  exact kk u H1 locs1 hw h1 h2 hS1
theorem in_callIN {S : Type} {post : S → Prop} {w' : S → va_W} {b : Nat} {host : String} (C : CT p s m args meth c cc own nL) (hK : KW g s) (hM : INv g l y bytes maxL d mc ms wc (.ref b :: As) post w') (isC isR : List Nat) (hC : isC.map (fun i => ws[i]?) = wc.map some) (hR0 : isR.map (fun i => ws[i]?) = wr.map some) (hnC : va_nd isC = true) (hnR : va_nd isR = true) (hdis : ∀ i ∈ isR, i ∉ isC) (hP : va_P g.1 vwCl ws H) (hD : va_D A ws) (hS : va_S A s.heap H locs) (hA : ∀ q, s.heap.size ≤ q → A q) (w1 : Cond.code y bytes maxL none ∈ TB) (w2 : (own, idx, y, host) ∈ NL) (w3 : Cond.initialized y.cls ∈ TB) (w4 : Cond.instanceMethod y ∈ TB) (hy : y.name = "<init>") (hn : NmOk y As.length) (hR : rmIn R d maxL cells slots mc ms) (hl : lv_has ls nL lv) (hst : st0 = As.reverse ++ .ref b :: rest) (hrm : (rest.map fun v => v.category).sum ≤ 8) (hd : decode cc pc = .ok (.invokespecial idx, 3))
    (kk : ∀ (u : S) (H1 : Heap) (locs1 : List Loc), post u → va_P g.1 vwCl (wr ++ w' u) H1 → va_D A (wr ++ w' u) → va_S A s.heap H1 locs1 → W p l e R s m args below meth c H1 locs1 (cells + mc) (slots + ms) Q (F0 m (pc + 3) ls rest)) : W p l e R s m args below meth c H locs cells slots Q (F0 m pc ls st0) := by
  have hPc : va_P g.1 vwCl wc H := hP.sub isC (fm_of isC wc hC)
  have hDc : va_D A wc := hD.sub isC hnC hC
  have hFc := va_free (wc := wc) hD hS hA isC hC
  have cb : va_CN R s args own idx y host bytes maxL none (.code y bytes maxL none :: TB) (rN d mc ms) mc ms As.length :=
    va_cnB As.length C.2.2.2.2.1 (goodTB (fun _ h => h) w1) rfl rfl rfl (hK.2 _ w2) (C.2.2.2.2.1 _ w3) ⟨hn.1.1, hn.1.2, hn.2⟩ ⟨hR.1, hR.2.1⟩
  refine va_callv (va_runIN (As := As) (rest := rest) ⟨C.1, C.2.1, C.2.2.1, C.2.2.2.1, C.2.2.2.2.1⟩ (hM H.size) ⟨cb, hy, C.2.2.2.2.1 _ w4⟩ (wr_pre (w0 := wc) (As := .ref b :: As) hK hPc hDc) rfl rfl hl.1 hst (lv_room hrm) hd ⟨hR.2.2.1, hR.2.2.2⟩) hS (fun q _ h => hFc q h) hFc (fun u t H1 locs1 ht hvm hw hB hz1 hk1 hS1 => ?_)
  obtain ⟨hB1, hB2⟩ := hB
  obtain ⟨h1, h2⟩ := va_join hP hD isC isR hC hR0 hnR hdis hk1 hFc (by rw [← ht]; exact hB1) hB2
  exact kk u H1 locs1 hw h1 h2 hS1
end RCI
