/-! ===== cells of a world changed by a call ===== -/
def rp : va_W → List Nat → va_W → va_W
  | ws, i :: is, e :: es => rp (ws.set i e) is es
  | ws, _, _ => ws
theorem rp_P {D : va_G} {cl : List vw_C} {H1 : Heap} : ∀ (is : List Nat) (ws w1 : va_W), (∀ (k : Nat) (q : Nat × va_E), ws[k]? = some q → k ∉ is → va_at D cl q H1) → va_P D cl w1 H1 → is.length = w1.length → va_P D cl (rp ws is w1) H1
  | [], ws, w1, h, _, _ => by
    cases w1 <;> exact fun k q hk => h k q hk List.not_mem_nil
  | i :: is, ws, [], _, _, hl => by simp at hl
  | i :: is, ws, e :: es, h, hw, hl => by
    show va_P D cl (rp (ws.set i e) is es) H1
    refine rp_P is (ws.set i e) es (fun k q hk hn => ?_) (fun k q hk => hw (k + 1) q (by rw [List.getElem?_cons_succ]; exact hk)) (by simpa using hl)
    by_cases hki : k = i
    · subst hki
      rw [List.getElem?_set] at hk
      split at hk
      · split at hk
        · cases hk
          exact hw 0 _ rfl
        · cases hk
      · rename_i hne; exact absurd rfl hne
    · rw [List.getElem?_set_ne (fun z => hki z.symm)] at hk
      exact h k q hk (fun z => (List.mem_cons.mp z).elim hki hn)
theorem rp_fst : ∀ (is : List Nat) (ws w1 : va_W), is.map (fun i => (ws.map Prod.fst)[i]?) = w1.map (fun e => some e.1) → (rp ws is w1).map Prod.fst = ws.map Prod.fst
  | [], ws, w1, _ => by cases w1 <;> rfl
  | i :: is, ws, [], h => by simp at h
  | i :: is, ws, e :: es, h => by
    simp only [List.map_cons, List.cons.injEq] at h
    have hset : (ws.set i e).map Prod.fst = ws.map Prod.fst := by
      rw [List.map_set]
      obtain ⟨hlt, he⟩ := List.getElem?_eq_some_iff.mp h.1
      rw [← he, List.set_getElem_self]
    show (rp (ws.set i e) is es).map Prod.fst = _
    rw [rp_fst is (ws.set i e) es (by rw [hset]; exact h.2), hset]
theorem va_D.fst {A : Nat → Prop} {ws w2 : va_W} (h : va_D A ws) (he : w2.map Prod.fst = ws.map Prod.fst) : va_D A w2 := by
  have key : ∀ (k : Nat) (q : Nat × va_E), w2[k]? = some q → ∃ q0, ws[k]? = some q0 ∧ q0.1 = q.1 := by
    intro k q hk
    have h1 : (w2.map Prod.fst)[k]? = some q.1 := by rw [List.getElem?_map, hk]; rfl
    rw [he, List.getElem?_map] at h1
    cases h2 : ws[k]? with
    | none => rw [h2] at h1; cases h1
    | some q0 => rw [h2] at h1; exact ⟨q0, rfl, Option.some.inj h1⟩
  refine ⟨fun i j x y hi hj hxy => ?_, fun k q hk => ?_⟩
  · obtain ⟨x0, a1, a2⟩ := key i x hi
    obtain ⟨y0, b1, b2⟩ := key j y hj
    exact h.1 i j x0 y0 a1 b1 (by rw [a2, b2, hxy])
  · obtain ⟨q0, a1, a2⟩ := key k q hk
    rw [← a2]; exact h.2 k q0 a1
/-- behind a call that changed its own cells alone -/
theorem va_frame {A : Nat → Prop} {D : va_G} {cl : List vw_C} {ws wc w1 : va_W} {H H1 : Heap} (hP : va_P D cl ws H) (hD : va_D A ws) (isC : List Nat) (hC : isC.map (fun i => ws[i]?) = wc.map some) (hf : w1.map Prod.fst = wc.map Prod.fst)
    (hk : ∀ q : Nat, q < H.size → ¬ va_A wc H.size q → H1[q]? = H[q]?) (hP1 : va_P D cl w1 H1) : va_P D cl (rp ws isC w1) H1 ∧ va_D A (rp ws isC w1) := by
  have hlen : isC.length = w1.length := by
    have h1 := congrArg List.length hC
    have h2 := congrArg List.length hf
    simp at h1 h2
    omega
  refine ⟨rp_P isC ws w1 (fun k q hq hn => ?_) hP1 hlen, hD.fst (rp_fst isC ws w1 ?_)⟩
  · have hl := (hP k q hq).lt
    refine (hP k q hq).kept (hk q.1 hl (fun h => ?_))
    rcases h with ⟨k2, e, h⟩ | h
    · have h1 : (isC.map (fun i => ws[i]?))[k2]? = some (some (q.1, e)) := by rw [hC, List.getElem?_map, h]; rfl
      rw [List.getElem?_map] at h1
      cases hi : isC[k2]? with
      | none => rw [hi] at h1; cases h1
      | some i =>
        rw [hi] at h1
        have h2 : ws[i]? = some (q.1, e) := Option.some.inj h1
        have h3 := hD.1 k i q (q.1, e) hq h2 rfl
        subst h3
        exact hn (List.mem_of_getElem? hi)
    · omega
  · have h1 : isC.map (fun i => (ws.map Prod.fst)[i]?) = (isC.map (fun i => ws[i]?)).map (fun o => o.map Prod.fst) := by
      rw [List.map_map]; apply List.map_congr_left; intro i _; simp
    rw [h1, hC, List.map_map]
    have h2 : w1.map (fun e => some e.1) = (w1.map Prod.fst).map some := by rw [List.map_map]; rfl
    rw [h2, hf, List.map_map]; rfl
section RC
variable {p : Program} {l : Launch} {e : Env} {R : Room} {s : State} {m : MethodId} {args : Array Value} {below : List Frame} {meth : Method} {c : Code} {H : Heap} {locs : List Loc} {cells slots : Nat} {Q : State → Prop}
variable {cc : ByteArray} {own : String} {nL pc : Nat} {ls : Array Slot} {rest : List Value} {g : GG} {ws : va_W} {A : Nat → Prop} {lv : List (Nat × Value)}
theorem r_alen {a t0 : Nat} (nn : Nat) {cA : ClassId} {x : vp_A} {ty : FieldType} (C : CT p s m args meth c cc own nL) (hK : KW g s) (hP : va_P g.1 vwCl ws H) (q0 : Nat) (he : ws[q0]? = some (a, .inl (cA, x))) (ht : (tyG g)[t0]? = some (cA, ty)) (hnn : x.1 = nn) (hd : decode cc pc = .ok (.arraylength, 1)) (kk : W p l e R s m args below meth c H locs cells slots Q (F0 m (pc + 1) ls (nV nn :: rest))) : W p l e R s m args below meth c H locs cells slots Q (F0 m pc ls (.ref a :: rest)) :=
  va_alen C.1 C.2.1 hK.1 hP q0 t0 he ht (v := iI (nn : Int)) (by rw [hnn]; exact (iI_nI nn).symm) hd kk
/-! ===== Math.max, Math.min, System.arraycopy ===== -/
theorem r_mmax {idx : Nat} {a b : Int} (C : CT p s m args meth c cc own nL) (w2 : Cond.methodLink own idx yJ9_max_7cf53 ∈ TB) (hd : decode cc pc = .ok (.invokestatic idx, 3)) (hr : rg a ∧ rg b) (h1 : (rest.map fun v => v.category).sum + 13 ≤ R.locals ∧ 1 ≤ R.frames) (h2 : cells ≤ R.cells ∧ slots ≤ R.slots) (hls : lv_has ls nL lv)
    (kk : W p l e R s m args below meth c H locs cells slots Q (F0 m (pc + 3) ls (zV (max a b) :: rest))) : W p l e R s m args below meth c H locs cells slots Q (F0 m pc ls (zV b :: zV a :: rest)) :=
  va_mmax C.1 C.2.1 (by rw [C.2.2.1, hls.1]) C.2.2.2.1 (C.2.2.2.2.1 _ w2) (C.2.2.2.2.1 _ ks_J9_max_7cf53) (C.2.2.2.2.1 _ kn_J9) (C.2.2.2.2.1 _ kc_J9_max_7cf53) h1.2 h1.1 h2.1 h2.2 hd (by
    have e1 : (if iI a < iI b then iI b else iI a) = iI (max a b) := by
      by_cases h : a < b
      · rw [if_pos ((iI_lt hr.1 hr.2).mpr h), Int.max_eq_right (by omega)]
      · rw [if_neg (mt (iI_lt hr.1 hr.2).mp h), Int.max_eq_left (by omega)]
    rw [e1]; exact kk)
theorem r_mmin {idx : Nat} {a b : Int} (C : CT p s m args meth c cc own nL) (w2 : Cond.methodLink own idx yJ9_min_7cf53 ∈ TB) (hd : decode cc pc = .ok (.invokestatic idx, 3)) (hr : rg a ∧ rg b) (h1 : (rest.map fun v => v.category).sum + 13 ≤ R.locals ∧ 1 ≤ R.frames) (h2 : cells ≤ R.cells ∧ slots ≤ R.slots) (hls : lv_has ls nL lv)
    (kk : W p l e R s m args below meth c H locs cells slots Q (F0 m (pc + 3) ls (zV (min a b) :: rest))) : W p l e R s m args below meth c H locs cells slots Q (F0 m pc ls (zV b :: zV a :: rest)) :=
  va_mmin C.1 C.2.1 (by rw [C.2.2.1, hls.1]) C.2.2.2.1 (C.2.2.2.2.1 _ w2) (C.2.2.2.2.1 _ ks_J9_min_7cf53) (C.2.2.2.2.1 _ kn_J9) (C.2.2.2.2.1 _ kc_J9_min_7cf53) h1.2 h1.1 h2.1 h2.2 hd (by
    have e1 : (if iI b < iI a then iI b else iI a) = iI (min a b) := by
      by_cases h : b < a
      · rw [if_pos ((iI_lt hr.2 hr.1).mpr h), Int.min_eq_right (by omega)]
      · rw [if_neg (mt (iI_lt hr.2 hr.1).mp h), Int.min_eq_left (by omega)]
    rw [e1]; exact kk)
theorem cpy_N {F G : Nat → Nat} {sp dp k : Nat} : va_cpy (fun j => iI ((F j : Nat) : Int)) (fun j => iI ((G j : Nat) : Int)) sp dp k = fun j => iI ((va_cpy F G sp dp k j : Nat) : Int) := by
  funext j; unfold va_cpy; split <;> rfl
theorem r_copyN {idx a0 a n0 n1 sp dp k : Nat} {F G : Nat → Nat} (C : CT p s m args meth c cc own nL) (hK : KW g s) (hP : va_P g.1 vwCl ws H) (hD : va_D A ws) (hS : va_S A s.heap H locs) (w2 : Cond.methodLink own idx arraycopyName ∈ TB) (hls : lv_has ls nL lv) (q0 q1 : Nat) (he0 : ws[q0]? = some (a0, cN g n0 F)) (he1 : ws[q1]? = some (a, cN g n1 G)) (hb : sp + k ≤ n0 ∧ dp + k ≤ n1 ∧ k < 2147483648 ∧ n0 < 2147483648 ∧ n1 < 2147483648) (h1 : (rest.map fun v => v.category).sum + (nativeFrameWords "java/lang/System" "arraycopy" 5 + 11) ≤ R.locals) (h2 : 1 ≤ R.frames) (hd : decode cc pc = .ok (.invokestatic idx, 3))
    (kk : ∀ (H1 : Heap) (locs1 : List Loc), va_P g.1 vwCl (ws.set q1 (a, cN g n1 (va_cpy F G sp dp k))) H1 → va_D A (ws.set q1 (a, cN g n1 (va_cpy F G sp dp k))) → va_S A s.heap H1 locs1 → W p l e R s m args below meth c H1 locs1 cells slots Q (F0 m (pc + 3) ls rest)) : W p l e R s m args below meth c H locs cells slots Q (F0 m pc ls (nV k :: nV dp :: .ref a :: nV sp :: .ref a0 :: rest)) := by
  have z0 : ∀ n : Nat, n < 2147483648 → ¬ iI (n : Int) < 0 := fun n h => by rw [← iI_0, iI_lt (rgN h) (by decide)]; omega
  refine va_copyi C.1 C.2.1 (by rw [C.2.2.1, hls.1]) C.2.2.2.1 (C.2.2.2.2.1 _ w2) (C.2.2.2.2.1 _ ka_arraycopyName) (C.2.2.2.2.1 _ ks_arraycopyName) (C.2.2.2.2.1 _ kn_J10) hK.1 hP hD hS q0 q1 1 1 he0 he1 rfl rfl (ty := .int) rfl (z0 sp (by omega)) (z0 dp (by omega)) (z0 k (by omega)) (by rw [iI_cl (by omega), iI_cl (by omega)]; exact hb.1) (by rw [iI_cl (by omega), iI_cl (by omega)]; exact hb.2.1) (fun i _ => rfl) h2 h1 hd (fun H1 locs1 g1 g2 g3 => ?_)
  rw [iI_cl (by omega), iI_cl (by omega), iI_cl (by omega), cpy_N] at g1 g2
  exact kk H1 locs1 g1 g2 g3
/-! ===== calls: what is common ===== -/
abbrev rmOk (R : Room) (d maxL cells slots : Nat) : Prop := d + 1 ≤ R.frames ∧ 8 + (maxL + 11) + 40 * d ≤ R.locals ∧ cells ≤ R.cells ∧ slots ≤ R.slots
theorem rm_lt {d d' maxL : Nat} (h : d' < d) (hm : maxL ≤ 21) : rmOk (rD d) d' maxL 0 0 := by
  refine ⟨h, ?_, Nat.zero_le _, Nat.zero_le _⟩
  show _ ≤ 40 * d
  omega
theorem call_b {y : MethodName} {bytes : ByteArray} {maxL idx n d : Nat} {ret : Option FieldType} (C : CT p s m args meth c cc own nL) (w1 : Cond.code y bytes maxL ret ∈ TB) (w2 : Cond.methodLink own idx y ∈ TB) (w3 : Cond.initialized y.cls ∈ TB) (hn : NmOk y n) (hR : rmOk R d maxL cells slots) : CallB R s args own idx y bytes maxL ret (.code y bytes maxL ret :: TB) (rD d) 0 0 n :=
  callB_of n C.2.2.2.2.1 (goodTB (fun _ h => h) w1) rfl rfl rfl (C.2.2.2.2.1 _ w3) (C.2.2.2.2.1 _ w2) ⟨hn.1.1, hn.1.2, hn.2⟩ ⟨hR.1, hR.2.1⟩
theorem call_n {y : MethodName} {bytes : ByteArray} {maxL idx n d : Nat} {ret : Option FieldType} {host : String} (C : CT p s m args meth c cc own nL) (hK : KW g s) (w1 : Cond.code y bytes maxL ret ∈ TB) (w2 : (own, idx, y, host) ∈ NL) (w3 : Cond.initialized y.cls ∈ TB) (hn : NmOk y n) (hR : rmOk R d maxL cells slots) : va_CN R s args own idx y host bytes maxL ret (.code y bytes maxL ret :: TB) (rD d) 0 0 n :=
  va_cnB n C.2.2.2.2.1 (goodTB (fun _ h => h) w1) rfl rfl rfl (hK.2 _ w2) (C.2.2.2.2.1 _ w3) ⟨hn.1.1, hn.1.2, hn.2⟩ ⟨hR.1, hR.2.1⟩
theorem ro_fin {post : Int32 → Prop} {a : Array Value} {st0 : List Value} (hr : va_Run p l e R s m args below meth c H locs cells slots 0 0 (F0 m pc ls st0) rest (vp_Si post a) (fun _ => False))
    (kk : ∀ r : Int32, post r → W p l e R s m args below meth c H locs cells slots Q (F0 m (pc + 3) ls (.int r :: rest))) : W p l e R s m args below meth c H locs cells slots Q (F0 m pc ls st0) := by
  intro T hT X
  obtain ⟨v, st₀, t, T', L, h0, X', hL, e1, -, ⟨r, hv, hp, hh⟩, st⟩ := hr T hT X
  cases hv
  obtain ⟨t2, a1, b1⟩ := kk r hp T' (by rw [e1, hh, h0]) (Stand.forget X' (fun q h => (hL q h).elim))
  exact ⟨t2, st t2 a1, b1⟩
theorem ro_finL {post : Int64 → Prop} {a : Array Value} {st0 : List Value} (hr : va_Run p l e R s m args below meth c H locs cells slots 0 0 (F0 m pc ls st0) rest (vp_Sl post a) (fun _ => False))
    (kk : ∀ r : Int64, post r → W p l e R s m args below meth c H locs cells slots Q (F0 m (pc + 3) ls (.long r :: rest))) : W p l e R s m args below meth c H locs cells slots Q (F0 m pc ls st0) := by
  intro T hT X
  obtain ⟨v, st₀, t, T', L, h0, X', hL, e1, -, ⟨r, hv, hp, hh⟩, st⟩ := hr T hT X
  cases hv
  obtain ⟨t2, a1, b1⟩ := kk r hp T' (by rw [e1, hh, h0]) (Stand.forget X' (fun q h => (hL q h).elim))
  exact ⟨t2, st t2 a1, b1⟩
theorem ro_pre {As : List Value} (hK : KW g s) (hP : va_P g.1 vwCl ws H) : PreS s H (va_Pc As (fun U => KW g U ∧ va_P g.1 vwCl ws U.heap)) As :=
  ⟨fun a U f mk q => ⟨q.1, q.2.1.blind, q.2.2⟩, fun U hU hW => ⟨rfl, hK.pass hW, by rw [hU]; exact hP⟩⟩
theorem wr_pre {As : List Value} {w0 : va_W} (hK : KW g s) (hP : va_P g.1 vwCl ws H) (hD : va_D A ws) : PreS s H (va_Pc As (fun U => U.heap.size = H.size ∧ KW g U ∧ va_P g.1 vwCl ws U.heap ∧ va_D (fun _ => True) ws)) As :=
  ⟨fun a U f mk q => ⟨q.1, q.2.1, q.2.2.1.blind, q.2.2.2⟩, fun U hU hW => ⟨rfl, by rw [hU], hK.pass hW, by rw [hU]; exact hP, hD.weaken (fun _ _ _ _ => trivial)⟩⟩
/-! ===== calls that only read ===== -/
section RCR
variable {y : MethodName} {bytes : ByteArray} {maxL idx d : Nat} {ret : Option FieldType} {As st0 : List Value} {wc : va_W}
theorem ro_callS {post : Int32 → Prop} (C : CT p s m args meth c cc own nL) (hK : KW g s) (hM : ROi g l y bytes maxL ret d wc As post) (hP : va_P g.1 vwCl wc H) (w1 : Cond.code y bytes maxL ret ∈ TB) (w2 : Cond.methodLink own idx y ∈ TB) (w3 : Cond.initialized y.cls ∈ TB) (w4 : Cond.static y ∈ TB) (hn : NmOk y As.length) (hR : rmOk R d maxL cells slots) (hl : lv_has ls nL lv) (hst : st0 = As.reverse ++ rest) (hrm : (rest.map fun v => v.category).sum ≤ 8) (hd : decode cc pc = .ok (.invokestatic idx, 3))
    (kk : ∀ r : Int32, post r → W p l e R s m args below meth c H locs cells slots Q (F0 m (pc + 3) ls (.int r :: rest))) : W p l e R s m args below meth c H locs cells slots Q (F0 m pc ls st0) :=
  ro_fin (va_runS (As := As) (rest := rest) ⟨C.1, C.2.1, C.2.2.1, C.2.2.2.1, C.2.2.2.2.1⟩ hM ⟨call_b C w1 w2 w3 hn hR, C.2.2.2.2.1 _ w4⟩ (ro_pre hK hP) rfl rfl hl.1 hst (lv_room hrm) hd ⟨hR.2.2.1, hR.2.2.2⟩) kk
theorem ro_callSL {post : Int64 → Prop} (C : CT p s m args meth c cc own nL) (hK : KW g s) (hM : ROl g l y bytes maxL ret d wc As post) (hP : va_P g.1 vwCl wc H) (w1 : Cond.code y bytes maxL ret ∈ TB) (w2 : Cond.methodLink own idx y ∈ TB) (w3 : Cond.initialized y.cls ∈ TB) (w4 : Cond.static y ∈ TB) (hn : NmOk y As.length) (hR : rmOk R d maxL cells slots) (hl : lv_has ls nL lv) (hst : st0 = As.reverse ++ rest) (hrm : (rest.map fun v => v.category).sum ≤ 8) (hd : decode cc pc = .ok (.invokestatic idx, 3))
    (kk : ∀ r : Int64, post r → W p l e R s m args below meth c H locs cells slots Q (F0 m (pc + 3) ls (.long r :: rest))) : W p l e R s m args below meth c H locs cells slots Q (F0 m pc ls st0) :=
  ro_finL (va_runS (As := As) (rest := rest) ⟨C.1, C.2.1, C.2.2.1, C.2.2.2.1, C.2.2.2.2.1⟩ hM ⟨call_b C w1 w2 w3 hn hR, C.2.2.2.2.1 _ w4⟩ (ro_pre hK hP) rfl rfl hl.1 hst (lv_room hrm) hd ⟨hR.2.2.1, hR.2.2.2⟩) kk
theorem ro_callSN {post : Int32 → Prop} {host : String} (C : CT p s m args meth c cc own nL) (hK : KW g s) (hM : ROi g l y bytes maxL ret d wc As post) (hP : va_P g.1 vwCl wc H) (w1 : Cond.code y bytes maxL ret ∈ TB) (w2 : (own, idx, y, host) ∈ NL) (w3 : Cond.initialized y.cls ∈ TB) (w4 : Cond.static y ∈ TB) (hn : NmOk y As.length) (hR : rmOk R d maxL cells slots) (hl : lv_has ls nL lv) (hst : st0 = As.reverse ++ rest) (hrm : (rest.map fun v => v.category).sum ≤ 8) (hd : decode cc pc = .ok (.invokestatic idx, 3))
    (kk : ∀ r : Int32, post r → W p l e R s m args below meth c H locs cells slots Q (F0 m (pc + 3) ls (.int r :: rest))) : W p l e R s m args below meth c H locs cells slots Q (F0 m pc ls st0) :=
  ro_fin (va_runSN (As := As) (rest := rest) ⟨C.1, C.2.1, C.2.2.1, C.2.2.2.1, C.2.2.2.2.1⟩ hM ⟨call_n C hK w1 w2 w3 hn hR, C.2.2.2.2.1 _ w4, trivial⟩ (ro_pre hK hP) rfl rfl hl.1 hst (lv_room hrm) hd ⟨hR.2.2.1, hR.2.2.2⟩) kk
theorem ro_callV {post : Int32 → Prop} {b q0 ci : Nat} {q : vw_C} {fs : List Value} (C : CT p s m args meth c cc own nL) (hK : KW g s) (hM : ROi g l y bytes maxL ret d wc (.ref b :: As) post) (hP : va_P g.1 vwCl wc H) (hc : vwCl[ci]? = some q) (he : wc[q0]? = some (b, .inr (ci, fs))) (w1 : Cond.code y bytes maxL ret ∈ TB) (w2 : Cond.methodLink own idx y ∈ TB) (w3 : Cond.initialized y.cls ∈ TB) (w4 : Cond.instanceMethod y ∈ TB) (w5 : Cond.selects q.1 y y ∈ TB) (hn : NmOk y As.length) (hR : rmOk R d maxL cells slots) (hl : lv_has ls nL lv) (hst : st0 = As.reverse ++ .ref b :: rest) (hrm : (rest.map fun v => v.category).sum ≤ 8) (hd : decode cc pc = .ok (.invokevirtual idx, 3))
    (kk : ∀ r : Int32, post r → W p l e R s m args below meth c H locs cells slots Q (F0 m (pc + 3) ls (.int r :: rest))) : W p l e R s m args below meth c H locs cells slots Q (F0 m pc ls st0) :=
  ro_fin (va_runV (C := q.1) (As := As) (rest := rest) ⟨C.1, C.2.1, C.2.2.1, C.2.2.2.1, C.2.2.2.2.1⟩ hM ⟨call_b C w1 w2 w3 hn hR, C.2.2.2.2.1 _ w4, C.2.2.2.2.1 _ w5⟩ ⟨(ro_pre hK hP).1, va_recv hK.1 hP hc he, (ro_pre hK hP).2⟩ rfl rfl hl.1 hst (lv_room hrm) hd ⟨hR.2.2.1, hR.2.2.2⟩) kk
theorem ro_callVL {post : Int64 → Prop} {b q0 ci : Nat} {q : vw_C} {fs : List Value} (C : CT p s m args meth c cc own nL) (hK : KW g s) (hM : ROl g l y bytes maxL ret d wc (.ref b :: As) post) (hP : va_P g.1 vwCl wc H) (hc : vwCl[ci]? = some q) (he : wc[q0]? = some (b, .inr (ci, fs))) (w1 : Cond.code y bytes maxL ret ∈ TB) (w2 : Cond.methodLink own idx y ∈ TB) (w3 : Cond.initialized y.cls ∈ TB) (w4 : Cond.instanceMethod y ∈ TB) (w5 : Cond.selects q.1 y y ∈ TB) (hn : NmOk y As.length) (hR : rmOk R d maxL cells slots) (hl : lv_has ls nL lv) (hst : st0 = As.reverse ++ .ref b :: rest) (hrm : (rest.map fun v => v.category).sum ≤ 8) (hd : decode cc pc = .ok (.invokevirtual idx, 3))
    (kk : ∀ r : Int64, post r → W p l e R s m args below meth c H locs cells slots Q (F0 m (pc + 3) ls (.long r :: rest))) : W p l e R s m args below meth c H locs cells slots Q (F0 m pc ls st0) :=
  ro_finL (va_runV (C := q.1) (As := As) (rest := rest) ⟨C.1, C.2.1, C.2.2.1, C.2.2.2.1, C.2.2.2.2.1⟩ hM ⟨call_b C w1 w2 w3 hn hR, C.2.2.2.2.1 _ w4, C.2.2.2.2.1 _ w5⟩ ⟨(ro_pre hK hP).1, va_recv hK.1 hP hc he, (ro_pre hK hP).2⟩ rfl rfl hl.1 hst (lv_room hrm) hd ⟨hR.2.2.1, hR.2.2.2⟩) kk
/-! ===== calls that write ===== -/
theorem wr_callV {S : Type} {post : Int32 → S → Prop} {w' : S → va_W} {b q0 ci : Nat} {q : vw_C} {fs : List Value} (C : CT p s m args meth c cc own nL) (hK : KW g s) (hM : WRi g l y bytes maxL ret d wc (.ref b :: As) post w') (isC : List Nat) (hC : isC.map (fun i => ws[i]?) = wc.map some) (hf : ∀ u, (w' u).map Prod.fst = wc.map Prod.fst) (hnd : va_nd isC = true) (hP : va_P g.1 vwCl ws H) (hD : va_D A ws) (hS : va_S A s.heap H locs) (hA : ∀ q, s.heap.size ≤ q → A q) (hc : vwCl[ci]? = some q) (he : wc[q0]? = some (b, .inr (ci, fs))) (w1 : Cond.code y bytes maxL ret ∈ TB) (w2 : Cond.methodLink own idx y ∈ TB) (w3 : Cond.initialized y.cls ∈ TB) (w4 : Cond.instanceMethod y ∈ TB) (w5 : Cond.selects q.1 y y ∈ TB) (hn : NmOk y As.length) (hR : rmOk R d maxL cells slots) (hl : lv_has ls nL lv) (hst : st0 = As.reverse ++ .ref b :: rest) (hrm : (rest.map fun v => v.category).sum ≤ 8) (hd : decode cc pc = .ok (.invokevirtual idx, 3))
    (kk : ∀ (r : Int32) (u : S) (H1 : Heap) (locs1 : List Loc), post r u → va_P g.1 vwCl (rp ws isC (w' u)) H1 → va_D A (rp ws isC (w' u)) → va_S A s.heap H1 locs1 → W p l e R s m args below meth c H1 locs1 cells slots Q (F0 m (pc + 3) ls (.int r :: rest))) : W p l e R s m args below meth c H locs cells slots Q (F0 m pc ls st0) := by
  have hPc : va_P g.1 vwCl wc H := hP.sub isC (by
    have h2 : ∀ (js : List Nat) (v : va_W), js.map (fun i => ws[i]?) = v.map some → js.filterMap (fun i => ws[i]?) = v := by
      intro js
      induction js with
      | nil => intro v hv; cases v <;> simp at hv ⊢
      | cons j js ih =>
        intro v hv
        cases v with
        | nil => simp at hv
        | cons x v =>
          simp only [List.map_cons, List.cons.injEq] at hv
          rw [List.filterMap_cons, hv.1]
          simp [ih v hv.2]
    exact h2 isC wc hC)
  have hDc : va_D A wc := hD.sub isC hnd hC
  have hFc := va_free (wc := wc) hD hS hA isC hC
  refine va_calli (va_runV (C := q.1) (As := As) (rest := rest) ⟨C.1, C.2.1, C.2.2.1, C.2.2.2.1, C.2.2.2.2.1⟩ (hM H.size) ⟨call_b C w1 w2 w3 hn hR, C.2.2.2.2.1 _ w4, C.2.2.2.2.1 _ w5⟩ ⟨(wr_pre (w0 := wc) (As := .ref b :: As) hK hPc hDc).1, va_recv hK.1 hPc hc he, (wr_pre (w0 := wc) hK hPc hDc).2⟩ rfl rfl hl.1 hst (lv_room hrm) hd ⟨hR.2.2.1, hR.2.2.2⟩) hS (fun q _ h => hFc q h) hFc (fun r u t H1 locs1 ht hvm hw hB hz1 hk1 hS1 => ?_)
  have hB1 : va_P g.1 vwCl (w' u) H1 := by rw [← ht]; exact hB
  obtain ⟨h1, h2⟩ := va_frame hP hD isC hC (hf u) hk1 hB1
  exact kk r u H1 locs1 hw h1 h2 hS1
theorem wr_callVL {S : Type} {post : Int64 → S → Prop} {w' : S → va_W} {b q0 ci : Nat} {q : vw_C} {fs : List Value} (C : CT p s m args meth c cc own nL) (hK : KW g s) (hM : WRl g l y bytes maxL ret d wc (.ref b :: As) post w') (isC : List Nat) (hC : isC.map (fun i => ws[i]?) = wc.map some) (hf : ∀ u, (w' u).map Prod.fst = wc.map Prod.fst) (hnd : va_nd isC = true) (hP : va_P g.1 vwCl ws H) (hD : va_D A ws) (hS : va_S A s.heap H locs) (hA : ∀ q, s.heap.size ≤ q → A q) (hc : vwCl[ci]? = some q) (he : wc[q0]? = some (b, .inr (ci, fs))) (w1 : Cond.code y bytes maxL ret ∈ TB) (w2 : Cond.methodLink own idx y ∈ TB) (w3 : Cond.initialized y.cls ∈ TB) (w4 : Cond.instanceMethod y ∈ TB) (w5 : Cond.selects q.1 y y ∈ TB) (hn : NmOk y As.length) (hR : rmOk R d maxL cells slots) (hl : lv_has ls nL lv) (hst : st0 = As.reverse ++ .ref b :: rest) (hrm : (rest.map fun v => v.category).sum ≤ 8) (hd : decode cc pc = .ok (.invokevirtual idx, 3))
    (kk : ∀ (r : Int64) (u : S) (H1 : Heap) (locs1 : List Loc), post r u → va_P g.1 vwCl (rp ws isC (w' u)) H1 → va_D A (rp ws isC (w' u)) → va_S A s.heap H1 locs1 → W p l e R s m args below meth c H1 locs1 cells slots Q (F0 m (pc + 3) ls (.long r :: rest))) : W p l e R s m args below meth c H locs cells slots Q (F0 m pc ls st0) := by
  have hPc : va_P g.1 vwCl wc H := hP.sub isC (by
    have h2 : ∀ (js : List Nat) (v : va_W), js.map (fun i => ws[i]?) = v.map some → js.filterMap (fun i => ws[i]?) = v := by
      intro js
      induction js with
      | nil => intro v hv; cases v <;> simp at hv ⊢
      | cons j js ih =>
        intro v hv
        cases v with
        | nil => simp at hv
        | cons x v =>
          simp only [List.map_cons, List.cons.injEq] at hv
          rw [List.filterMap_cons, hv.1]
          simp [ih v hv.2]
    exact h2 isC wc hC)
  have hDc : va_D A wc := hD.sub isC hnd hC
  have hFc := va_free (wc := wc) hD hS hA isC hC
  refine va_calll (va_runV (C := q.1) (As := As) (rest := rest) ⟨C.1, C.2.1, C.2.2.1, C.2.2.2.1, C.2.2.2.2.1⟩ (hM H.size) ⟨call_b C w1 w2 w3 hn hR, C.2.2.2.2.1 _ w4, C.2.2.2.2.1 _ w5⟩ ⟨(wr_pre (w0 := wc) (As := .ref b :: As) hK hPc hDc).1, va_recv hK.1 hPc hc he, (wr_pre (w0 := wc) hK hPc hDc).2⟩ rfl rfl hl.1 hst (lv_room hrm) hd ⟨hR.2.2.1, hR.2.2.2⟩) hS (fun q _ h => hFc q h) hFc (fun r u t H1 locs1 ht hvm hw hB hz1 hk1 hS1 => ?_)
  have hB1 : va_P g.1 vwCl (w' u) H1 := by rw [← ht]; exact hB
  obtain ⟨h1, h2⟩ := va_frame hP hD isC hC (hf u) hk1 hB1
  exact kk r u H1 locs1 hw h1 h2 hS1
theorem wr_callVV {S : Type} {post : S → Prop} {w' : S → va_W} {b q0 ci : Nat} {q : vw_C} {fs : List Value} (C : CT p s m args meth c cc own nL) (hK : KW g s) (hM : WRv g l y bytes maxL d wc (.ref b :: As) post w') (isC : List Nat) (hC : isC.map (fun i => ws[i]?) = wc.map some) (hf : ∀ u, (w' u).map Prod.fst = wc.map Prod.fst) (hnd : va_nd isC = true) (hP : va_P g.1 vwCl ws H) (hD : va_D A ws) (hS : va_S A s.heap H locs) (hA : ∀ q, s.heap.size ≤ q → A q) (hc : vwCl[ci]? = some q) (he : wc[q0]? = some (b, .inr (ci, fs))) (w1 : Cond.code y bytes maxL none ∈ TB) (w2 : Cond.methodLink own idx y ∈ TB) (w3 : Cond.initialized y.cls ∈ TB) (w4 : Cond.instanceMethod y ∈ TB) (w5 : Cond.selects q.1 y y ∈ TB) (hn : NmOk y As.length) (hR : rmOk R d maxL cells slots) (hl : lv_has ls nL lv) (hst : st0 = As.reverse ++ .ref b :: rest) (hrm : (rest.map fun v => v.category).sum ≤ 8) (hd : decode cc pc = .ok (.invokevirtual idx, 3))
    (kk : ∀ (u : S) (H1 : Heap) (locs1 : List Loc), post u → va_P g.1 vwCl (rp ws isC (w' u)) H1 → va_D A (rp ws isC (w' u)) → va_S A s.heap H1 locs1 → W p l e R s m args below meth c H1 locs1 cells slots Q (F0 m (pc + 3) ls rest)) : W p l e R s m args below meth c H locs cells slots Q (F0 m pc ls st0) := by
  have hPc : va_P g.1 vwCl wc H := hP.sub isC (by
    have h2 : ∀ (js : List Nat) (v : va_W), js.map (fun i => ws[i]?) = v.map some → js.filterMap (fun i => ws[i]?) = v := by
      intro js
      induction js with
      | nil => intro v hv; cases v <;> simp at hv ⊢
      | cons j js ih =>
        intro v hv
        cases v with
        | nil => simp at hv
        | cons x v =>
          simp only [List.map_cons, List.cons.injEq] at hv
          rw [List.filterMap_cons, hv.1]
          simp [ih v hv.2]
    exact h2 isC wc hC)
  have hDc : va_D A wc := hD.sub isC hnd hC
  have hFc := va_free (wc := wc) hD hS hA isC hC
  refine va_callv (va_runV (C := q.1) (As := As) (rest := rest) ⟨C.1, C.2.1, C.2.2.1, C.2.2.2.1, C.2.2.2.2.1⟩ (hM H.size) ⟨call_b C w1 w2 w3 hn hR, C.2.2.2.2.1 _ w4, C.2.2.2.2.1 _ w5⟩ ⟨(wr_pre (w0 := wc) (As := .ref b :: As) hK hPc hDc).1, va_recv hK.1 hPc hc he, (wr_pre (w0 := wc) hK hPc hDc).2⟩ rfl rfl hl.1 hst (lv_room hrm) hd ⟨hR.2.2.1, hR.2.2.2⟩) hS (fun q _ h => hFc q h) hFc (fun u t H1 locs1 ht hvm hw hB hz1 hk1 hS1 => ?_)
  have hB1 : va_P g.1 vwCl (w' u) H1 := by rw [← ht]; exact hB
  obtain ⟨h1, h2⟩ := va_frame hP hD isC hC (hf u) hk1 hB1
  exact kk u H1 locs1 hw h1 h2 hS1
end RCR
end RC
