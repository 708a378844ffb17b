/-! ===== the start: classes known, the first relation ===== -/
theorem arr_of {s : State} {args : Array Value} {ty : FieldType} (h : (Cond.arrayClass ty).before args s = true) : ∃ cA : ClassId, ArrOfT s cA ty ∧ s.vm.findClass ("[" ++ ty.toString) = some cA := by
  obtain ⟨cA, kA, comp, h1, h2, h3⟩ := Cond.arrayClass_spec h
  exact ⟨cA, fun n z => ⟨fun k h => (by cases h), kA, h2, comp, h3⟩, h1⟩
theorem KW_start {s : State} {args : Array Value} (hts : ∀ w ∈ lw_tbl, w.before args s = true) : ∃ g : GG, KW g s := by
  have hT : ∀ w ∈ TB, w.before args s = true := fun w h => hts w (TB_tbl h)
  obtain ⟨c0, i0, h0⟩ := u_known (C := RX0) (T := TX0) (N := 5) (n := 5) hT kw_X0 (hT _ kb_X0)
  obtain ⟨c1, i1, h1⟩ := u_known (C := RX1) (T := TX1) (N := 1) (n := 1) hT kw_X1 (hT _ kb_X1)
  obtain ⟨c2, i2, h2⟩ := u_known (C := RX3) (T := TX3) (N := 2) (n := 2) hT kw_X3 (hT _ kb_X3)
  obtain ⟨c3, i3, h3⟩ := u_known (C := RX4) (T := TX4) (N := 2) (n := 2) hT kw_X4 (hT _ kb_X4)
  obtain ⟨c4, i4, h4⟩ := u_known (C := RX5) (T := TX5) (N := 3) (n := 3) hT kw_X5 (hT _ kb_X5)
  obtain ⟨c5, i5, h5⟩ := u_known (C := RX7) (T := TX7) (N := 2) (n := 2) hT kw_X7 (hT _ kb_X7)
  obtain ⟨c6, i6, h6⟩ := u_known (C := RX8) (T := TX8) (N := 10) (n := 10) hT kw_X8 (hT _ kb_X8)
  obtain ⟨c7, i7, h7⟩ := u_known (C := RX9) (T := TX9) (N := 9) (n := 9) hT kw_X9 (hT _ kb_X9)
  obtain ⟨c8, i8, h8⟩ := u_known (C := RX10) (T := TX10) (N := 22) (n := 22) hT kw_X10 (hT _ kb_X10)
  obtain ⟨a_byte, b_byte, e_byte⟩ := arr_of (hT _ ka_byte)
  obtain ⟨a_int, b_int, e_int⟩ := arr_of (hT _ ka_int)
  obtain ⟨a_long, b_long, e_long⟩ := arr_of (hT _ ka_long)
  obtain ⟨a_boolean, b_boolean, e_boolean⟩ := arr_of (hT _ ka_boolean)
  refine ⟨((fun k => match k with | 0 => c0 | 1 => c1 | 2 => c2 | 3 => c3 | 4 => c4 | 5 => c5 | 6 => c6 | 7 => c7 | _ => c8, fun k => match k with | 0 => i0 | 1 => i1 | 2 => i2 | 3 => i3 | 4 => i4 | 5 => i5 | 6 => i6 | 7 => i7 | _ => i8), a_byte, a_int, a_long, a_boolean), ⟨fun k q hq => ?_, fun k q hq => ?_⟩, fun q hq => va_Nw.of rfl (hts _ (NL_tbl q hq))⟩
  · match k, hq with
    | 0, hq => cases hq; exact h0
    | 1, hq => cases hq; exact h1
    | 2, hq => cases hq; exact h2
    | 3, hq => cases hq; exact h3
    | 4, hq => cases hq; exact h4
    | 5, hq => cases hq; exact h5
    | 6, hq => cases hq; exact h6
    | 7, hq => cases hq; exact h7
    | 8, hq => cases hq; exact h8
    | k + 9, hq => simp at hq
  · match k, hq with
    | 0, hq => cases hq; exact ⟨b_byte, e_byte⟩
    | 1, hq => cases hq; exact ⟨b_int, e_int⟩
    | 2, hq => cases hq; exact ⟨b_long, e_long⟩
    | 3, hq => cases hq; exact ⟨b_boolean, e_boolean⟩
    | k + 4, hq => simp [tyG] at hq
theorem zd {a b : Nat} (h : Nat.ble a b = true) : a ≤ b := Nat.le_of_ble_eq_true h
theorem aw0 : aw (fun _ => 0) 0 1 0 0 = true := by decide
theorem REL_0 : REL 0 (upN (fun _ => 0) 0 1) (upN (fun _ => 0) 0 5) (fun _ => 0) (fun _ => 0) (fun _ => 0) 1 0 0 2 3 0 (fun _ => 0) (fun _ => 0) (fun _ => 0) (fun _ => 0) (fun _ => 0) (fun _ => 0) (fun _ => 0) 0 (fun _ => 0) 0 (fun _ => 0) (fun _ => 0) (upN (upN (upN (upN (fun _ => 0) 2 2) 3 3) 0 ((upN (upN (fun _ => 0) 2 2) 3 3) 2)) 1 (upN (upN (upN (fun _ => 0) 2 2) 3 3) 0 ((upN (upN (fun _ => 0) 2 2) 3 3) 2) 3)) (upN (upN (upN (fun _ => 0) 1 0) 1 1) 0 ((upN (upN (fun _ => 0) 1 0) 1 1) 1)) (mvd (upN (upN (fun _ => 0) 16 1) 17 5) 16 16) (upN (upN (fun _ => 0) 1 0) 0 ((upN (fun _ => 0) 1 0) 1)) (mvd (fun _ => 0) 10 10) (upN (upN (fun _ => 0) 1 0) 0 ((upN (fun _ => 0) 1 0) 1)) (mvd (fun _ => 0) 5 5) (upN (fun _ => 0) 0 0) (fun _ => 0) (upZ (fun _ => 0) 0 ((0 : Nat) : Int)) (fun _ => 0) := by
  refine ⟨⟨⟨fun j => ?_, fun j => ?_, fun _ => zd rfl, fun _ => zd rfl, fun _ => zd rfl, by decide, by decide, by decide, by decide, by decide⟩, by decide⟩, ⟨⟨rfl, rfl⟩, ⟨rfl, fun j hj => ?_⟩, ⟨rfl, fun j hj => absurd hj (Nat.not_lt_zero _)⟩, ⟨rfl, fun j hj => absurd hj (Nat.not_lt_zero _)⟩⟩, ⟨fun _ => zd rfl, by decide⟩, ⟨fun _ => zd rfl, fun _ => zd rfl, fun _ => zd rfl, fun _ => zd rfl, fun _ => zd rfl⟩, ⟨by decide, UC_0 ⟨⟨by decide, fun i hi => absurd hi (Nat.not_lt_zero _)⟩, fun i hi => absurd hi (Nat.not_lt_zero _)⟩⟩, ⟨rfl, rfl, fun i p hi => absurd hi (Nat.not_lt_zero _)⟩, ⟨by decide, fun j hj => absurd hj (Nat.not_lt_zero _)⟩, ⟨fun _ => Nat.zero_le _, fun _ => Nat.zero_le _, fun _ => Nat.zero_le _⟩, fun _ => zd rfl⟩
  · show upN (fun _ => 0) 0 1 j < 72
    unfold upN; split; exact zd rfl; exact zd rfl
  · show upN (fun _ => 0) 0 5 j < 100
    unfold upN; split; exact zd rfl; exact zd rfl
  · have e : j = 0 := Nat.lt_one_iff.mp hj
    subst e; exact ⟨rfl, rfl⟩
