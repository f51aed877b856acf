/-! THE LAW's START (printed by wip/law/start.py) -/
theorem ar_of {args : Array Value} {s : State} {ty : FieldType} (hp : ∀ C, ty ≠ .object C) (h : (Cond.arrayClass ty).before args s = true) : ∃ cA, ArrOfT s cA ty ∧ va_RA s cA ty := by
  obtain ⟨c, k, comp, h1, h2, h3⟩ := Cond.arrayClass_spec h
  refine ⟨c, fun n z => ⟨fun k h => (by cases h), k, h2, comp, h3⟩, ?_⟩
  cases ty <;> first | exact h1 | exact absurd rfl (hp _)
theorem aq_of {args : Array Value} {s : State} {C : String} (h : (Cond.arrayOver (.object C)).before args s = true) : ∃ cA, ArrOfT s cA (.object C) ∧ va_RA s cA (.object C) := by
  obtain ⟨comp, c, k, h1, -, h2, h3, h4⟩ := Cond.arrayOver_spec h
  exact ⟨c, fun n z => ⟨fun k h => (by cases h), k, h2, comp, h3⟩, k, comp, h2, h3, h1, h4⟩
theorem jX_of {args : Array Value} {s : State} {tm : Term} {f : Nat → Int32} {A : Nat → Prop} (harr : (Cond.arrayOf tm .int).before args s = true) (hlen : (Cond.eq (.length tm) (.int 4)).before args s = true) (h0 : (Cond.eq (.elem tm (.int 0)) (.int (f 0))).before args s = true) (h1 : (Cond.eq (.elem tm (.int 1)) (.int (f 1))).before args s = true) (h2 : (Cond.eq (.elem tm (.int 2)) (.int (f 2))).before args s = true) (h3 : (Cond.eq (.elem tm (.int 3)) (.int (f 3))).before args s = true) (hA : ∀ a : Nat, a < s.heap.size → ¬ A a) : ∃ t : Nat, tm.eval args s none [] s = some (.ref t) ∧ jX t f A s s.heap := by
  have hl := va_eqt hlen
  obtain ⟨t, e1, cell, c1, c2, c3, c4, c5, c6, c7⟩ := va_Tof (N := 4) (f := fun j => .int (f j)) (A := A) (by decide) harr hl (fun j hj => by
    rcases (show j = 0 ∨ j = 1 ∨ j = 2 ∨ j = 3 by omega) with rfl | rfl | rfl | rfl
    · exact va_eqt h0
    · exact va_eqt h1
    · exact va_eqt h2
    · exact va_eqt h3) hA
  refine ⟨t, e1, ⟨cell, c1, c2, c3, ?_, c6⟩, (Array.getElem?_eq_some_iff.mp c1).1, c7⟩
  obtain ⟨b, cell₉, ht, harr₉, -⟩ := Term.length_spec hl
  cases ht.symm.trans e1
  obtain ⟨hc₉, -, -, -⟩ := State.arrayAt?_spec harr₉
  cases hc₉.symm.trans c1
  have hsz : cell.slots.size < 2 ^ 31 := by
    simp only [Term.eval, ht, harr₉, Option.bind_eq_bind, Option.bind_some] at hl
    by_cases hlt : cell.slots.size < 2147483648
    · exact hlt
    · simp [hlt] at hl
  have h9 := congrArg Int32.toInt c5
  rw [show cell.slots.size.toInt32 = Int32.ofNat cell.slots.size from rfl, Int32.toInt_ofNat_of_lt hsz, Int32.toInt_ofNat_of_lt (by decide)] at h9
  omega
theorem lw_s0 {x m : va_W} {q : Nat × va_E} : ((m ++ x) ++ [q]).Perm (x ++ (m ++ [q])) := by
  rw [List.append_assoc]
  exact List.perm_append_comm_assoc m x [q]
theorem jN_on {w : Cond} (h : jIsN w = true) : w.onTables = true := by
  cases w <;> first | rfl | (cases h; done)
theorem jNl_in : ∀ w ∈ jNl, w ∈ lw_tbl := by decide +kernel
theorem jThr_in : ∀ w ∈ jThr, w ∈ lw_tbl := by decide +kernel
theorem jk8 {P : Nat → vw_C → Prop} {q0 q1 q2 q3 q4 q5 q6 q7 : vw_C} (h0 : P 0 q0) (h1 : P 1 q1) (h2 : P 2 q2) (h3 : P 3 q3) (h4 : P 4 q4) (h5 : P 5 q5) (h6 : P 6 q6) (h7 : P 7 q7) : ∀ (k : Nat) (q : vw_C), [q0, q1, q2, q3, q4, q5, q6, q7][k]? = some q → P k q := by
  intro k q h
  match k, h with
  | 0, h => cases h; exact h0
  | 1, h => cases h; exact h1
  | 2, h => cases h; exact h2
  | 3, h => cases h; exact h3
  | 4, h => cases h; exact h4
  | 5, h => cases h; exact h5
  | 6, h => cases h; exact h6
  | 7, h => cases h; exact h7
  | k + 8, h => simp at h
theorem jk7 {P : Nat → ClassId × FieldType → Prop} {q0 q1 q2 q3 q4 q5 q6 : ClassId × FieldType} (h0 : P 0 q0) (h1 : P 1 q1) (h2 : P 2 q2) (h3 : P 3 q3) (h4 : P 4 q4) (h5 : P 5 q5) (h6 : P 6 q6) : ∀ (k : Nat) (q : ClassId × FieldType), [q0, q1, q2, q3, q4, q5, q6][k]? = some q → P k q := by
  intro k q h
  match k, h with
  | 0, h => cases h; exact h0
  | 1, h => cases h; exact h1
  | 2, h => cases h; exact h2
  | 3, h => cases h; exact h3
  | 4, h => cases h; exact h4
  | 5, h => cases h; exact h5
  | 6, h => cases h; exact h6
  | k + 7, h => simp at h
