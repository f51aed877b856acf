/-! THE LAW's START (printed by wip/law/start.py) -/
theorem ar_of {args : Array Value} {s : State} {ty : FieldType} (hp : ∀ C, ty ≠ .object C) (h : (Cond.arrayClass ty).before args s = true) : ∃ cA, ArrOfT s cA ty ∧ va_RA s cA ty := by
  obtain ⟨c, k, comp, h1, h2, h3⟩ := Cond.arrayClass_spec h
  refine ⟨c, fun n z => ⟨fun k h => (by cases h), k, h2, comp, h3⟩, ?_⟩
  cases ty <;> first | exact h1 | exact absurd rfl (hp _)
theorem aq_of {args : Array Value} {s : State} {C : String} (h : (Cond.arrayOver (.object C)).before args s = true) : ∃ cA, ArrOfT s cA (.object C) ∧ va_RA s cA (.object C) := by
  obtain ⟨comp, c, k, h1, -, h2, h3, h4⟩ := Cond.arrayOver_spec h
  exact ⟨c, fun n z => ⟨fun k h => (by cases h), k, h2, comp, h3⟩, k, comp, h2, h3, h1, h4⟩
theorem jX_of {args : Array Value} {s : State} {tm : Term} {f : Nat → Int32} {A : Nat → Prop} (harr : (Cond.arrayOf tm .int).before args s = true) (hlen : (Cond.eq (.length tm) (.int 4)).before args s = true) (h0 : (Cond.eq (.elem tm (.int 0)) (.int (f 0))).before args s = true) (h1 : (Cond.eq (.elem tm (.int 1)) (.int (f 1))).before args s = true) (h2 : (Cond.eq (.elem tm (.int 2)) (.int (f 2))).before args s = true) (h3 : (Cond.eq (.elem tm (.int 3)) (.int (f 3))).before args s = true) (hA : ∀ a : Nat, a < s.heap.size → ¬ A a) : ∃ t : Nat, tm.eval args s none [] s = some (.ref t) ∧ jX t f A s s.heap := by
  have hl := va_eqt hlen
  obtain ⟨t, e1, cell, c1, c2, c3, c4, c5, c6, c7⟩ := va_Tof (N := 4) (f := fun j => .int (f j)) (A := A) (by decide) harr hl (fun j hj => by
    rcases (show j = 0 ∨ j = 1 ∨ j = 2 ∨ j = 3 by omega) with rfl | rfl | rfl | rfl
    · exact va_eqt h0
    · exact va_eqt h1
    · exact va_eqt h2
    · exact va_eqt h3) hA
  refine ⟨t, e1, ⟨cell, c1, c2, c3, ?_, c6⟩, (Array.getElem?_eq_some_iff.mp c1).1, c7⟩
  obtain ⟨b, cell', ht, harr', -⟩ := Term.length_spec hl
  cases ht.symm.trans e1
  obtain ⟨hc', -, -, -⟩ := State.arrayAt?_spec harr'
  cases hc'.symm.trans c1
  have hsz : cell.slots.size < 2 ^ 31 := by
    simp only [Term.eval, ht, harr', Option.bind_eq_bind, Option.bind_some] at hl
    by_cases hlt : cell.slots.size < 2147483648
    · exact hlt
    · simp [hlt] at hl
  have h9 := congrArg Int32.toInt c5
  rw [show cell.slots.size.toInt32 = Int32.ofNat cell.slots.size from rfl, Int32.toInt_ofNat_of_lt hsz, Int32.toInt_ofNat_of_lt (by decide)] at h9
  omega
theorem lw_s0 {x m : va_W} {q : Nat × va_E} : ((m ++ x) ++ [q]).Perm (x ++ (m ++ [q])) := by
  rw [List.append_assoc]
  exact List.perm_append_comm_assoc m x [q]
theorem jN_on {w : Cond} (h : jIsN w = true) : w.onTables = true := by
  cases w <;> first | rfl | (cases h; done)
theorem jNl_in : ∀ w ∈ jNl, w ∈ lw_tbl := by decide +kernel
theorem jThr_in : ∀ w ∈ jThr, w ∈ lw_tbl := by decide +kernel
set_option maxHeartbeats 4000000 in
set_option maxRecDepth 100000 in
theorem whole_start {p : Program} {e : Env} {s : State} {m : MethodId} {below : List Frame} {meth : Method} {c : Code} (l : Launch) (hlt : l.stackTraces = false) {b L : Nat} {xs : Nat → Int32} (hL : L ≤ 3072) (C0 : lw_At p s m meth c b L xs) : W p l e room_1 s m #[Value.ref b] below meth c s.heap [] 0 0 (lw_Z below #[Value.ref b] s) (entryFrame m ([Value.ref b] : List Value).toArray 7) := by
  obtain ⟨hx, hb, hr, hml, hown, hts0, hX, hbl, hlocks, hgv⟩ := id C0
  have hts : ∀ w ∈ wsL_law, w.before #[Value.ref b] s = true := fun w h => hts0 w (wsL_law_in w h)
  have hA : ∀ q : Nat, s.heap.size ≤ q → (fun q : Nat => s.heap.size ≤ q) q := fun _ h => h
  have hbA : ¬ (fun q : Nat => s.heap.size ≤ q) b := Nat.not_le.mpr hbl
  have hAn : ∀ a : Nat, a < s.heap.size → ¬ (fun q : Nat => s.heap.size ≤ q) a := fun a h => Nat.not_le.mpr h
  have hg := flat_of_before _ hgv
  obtain ⟨c0, iS0, hKn0⟩ := u_known (C := RX0) (T := TX0) (N := 13) (n := 13) hts0 inX0 (hts (.instantiable RX0 13) (List.mem_of_getElem? (i := 18) (by decide +kernel)))
  obtain ⟨c1, iS1, hKn1⟩ := u_known (C := RX1) (T := TX1) (N := 1) (n := 1) hts0 inX1 (hts (.instantiable RX1 1) (List.mem_of_getElem? (i := 990) (by decide +kernel)))
  obtain ⟨c2, iS2, hKn2⟩ := u_known (C := RX2) (T := TX2) (N := 4) (n := 4) hts0 inX2 (hts (.instantiable RX2 4) (List.mem_of_getElem? (i := 14) (by decide +kernel)))
  obtain ⟨c3, iS3, hKn3⟩ := u_known (C := RX3) (T := TX3) (N := 4) (n := 4) hts0 inX3 (hts (.instantiable RX3 4) (List.mem_of_getElem? (i := 23) (by decide +kernel)))
  obtain ⟨c4, iS4, hKn4⟩ := u_known (C := RX4) (T := TX4) (N := 2) (n := 2) hts0 inX4 (hts (.instantiable RX4 2) (List.mem_of_getElem? (i := 792) (by decide +kernel)))
  obtain ⟨c5, iS5, hKn5⟩ := u_known (C := RX5) (T := TX5) (N := 12) (n := 12) hts0 inX5 (hts (.instantiable RX5 12) (List.mem_of_getElem? (i := 687) (by decide +kernel)))
  obtain ⟨c6, iS6, hKn6⟩ := u_known (C := RX6) (T := TX6) (N := 13) (n := 13) hts0 inX6 (hts (.instantiable RX6 13) (List.mem_of_getElem? (i := 1) (by decide +kernel)))
  obtain ⟨c7, iS7, hKn7⟩ := u_known (C := RX7) (T := TX7) (N := 72) (n := 72) hts0 inX7 (hts (.instantiable RX7 72) (List.mem_of_getElem? (i := 4) (by decide +kernel)))
  obtain ⟨dC, dI, hKc⟩ : ∃ (dC : Nat → ClassId) (dI : Nat → Nat → Nat), ∀ (k : Nat) (q : vw_C), vwCl[k]? = some q → u_Kn s q.1 q.2.1 q.2.2 (dC k) (dI k) := by
    refine ⟨fun k => List.getD [c0, c1, c2, c3, c4, c5, c6, c7] k c0, fun k => List.getD [iS0, iS1, iS2, iS3, iS4, iS5, iS6, iS7] k iS0, ?_⟩
    intro k q hq
    match k, hq with
    | 0, hq => cases hq; exact hKn0
    | 1, hq => cases hq; exact hKn1
    | 2, hq => cases hq; exact hKn2
    | 3, hq => cases hq; exact hKn3
    | 4, hq => cases hq; exact hKn4
    | 5, hq => cases hq; exact hKn5
    | 6, hq => cases hq; exact hKn6
    | 7, hq => cases hq; exact hKn7
    | k + 8, hq => simp [vwCl] at hq
  obtain ⟨cA0, hA0⟩ := ar_of (ty := .int) (fun C h => by cases h) (hts (.arrayClass .int) (List.mem_of_getElem? (i := 35) (by decide +kernel)))
  obtain ⟨cA1, hA1⟩ := ar_of (ty := .long) (fun C h => by cases h) (hts (.arrayClass .long) (List.mem_of_getElem? (i := 6) (by decide +kernel)))
  obtain ⟨cA2, hA2⟩ := ar_of (ty := .boolean) (fun C h => by cases h) (hts (.arrayClass .boolean) (List.mem_of_getElem? (i := 47) (by decide +kernel)))
  obtain ⟨cA3, hA3⟩ := ar_of (ty := .byte) (fun C h => by cases h) (hts (.arrayClass .byte) (List.mem_of_getElem? (i := 27) (by decide +kernel)))
  have hao : (Cond.arrayOver (.object "BargeBasin$Chart")).before #[Value.ref b] s = true := hts0 _ (by decide +kernel)
  obtain ⟨cA6, hA6⟩ := aq_of hao
  obtain ⟨cT, hKt⟩ : ∃ cT : Nat → ClassId, ∀ (k : Nat) (q : ClassId × FieldType), (jT cT)[k]? = some q → ArrOfT s q.1 q.2 ∧ va_RA s q.1 q.2 := by
    refine ⟨fun k => List.getD [cA0, cA1, cA2, cA3, cA0, cA0, cA6] k cA0, ?_⟩
    intro k q hq
    match k, hq with
    | 0, hq => cases hq; exact hA0
    | 1, hq => cases hq; exact hA1
    | 2, hq => cases hq; exact hA2
    | 3, hq => cases hq; exact hA3
    | 4, hq => cases hq; exact hA0
    | 5, hq => cases hq; exact hA0
    | 6, hq => cases hq; exact hA6
    | k + 7, hq => simp [jT] at hq
  obtain ⟨D, eD⟩ : ∃ D : va_G, D = (dC, dI) := ⟨_, rfl⟩
  have hK : va_K D vwCl (jT cT) s := by rw [eD]; exact ⟨hKc, hKt⟩
  have hN : jNw s := ⟨fun w hw => va_Nw.of (jN_on (List.all_eq_true.mp jNl_ok w hw)) (hts0 w (jNl_in w hw)), va_AO.of hao⟩
  have hTw : jTw s := fun w hw => va_Nw.of (jT_on (List.all_eq_true.mp jThr_ok w hw)) (hts0 w (jThr_in w hw))
  obtain ⟨aS, eaS, hX_STEP⟩ := jX_of (tm := (.static "BargeBasin" "STEP" "[I")) (f := sv_STEP) (A := fun q : Nat => s.heap.size ≤ q) (hg _ (by decide +kernel)) (hg _ (by decide +kernel)) (hg _ (by decide +kernel)) (hg _ (by decide +kernel)) (hg _ (by decide +kernel)) (hg _ (by decide +kernel)) hAn
  have hZ_STEP : va_Z "BargeBasin" "STEP" "[I" (.ref aS) (fun q : Nat => s.heap.size ≤ q) s s.heap := va_Zof (hts0 (.laysStatic "BargeBasin" "STEP" "[I") (by decide +kernel)) (hts (.initialized RX6) (List.mem_of_getElem? (i := 2) (by decide +kernel))) eaS hAn
  obtain ⟨aX, eaX, hX_STEP_X⟩ := jX_of (tm := (.static "BargeBasin" "STEP_X" "[I")) (f := sv_STEP_X) (A := fun q : Nat => s.heap.size ≤ q) (hg _ (by decide +kernel)) (hg _ (by decide +kernel)) (hg _ (by decide +kernel)) (hg _ (by decide +kernel)) (hg _ (by decide +kernel)) (hg _ (by decide +kernel)) hAn
  have hZ_STEP_X : va_Z "BargeBasin" "STEP_X" "[I" (.ref aX) (fun q : Nat => s.heap.size ≤ q) s s.heap := va_Zof (hts0 (.laysStatic "BargeBasin" "STEP_X" "[I") (by decide +kernel)) (hts (.initialized RX6) (List.mem_of_getElem? (i := 2) (by decide +kernel))) eaX hAn
  obtain ⟨aY, eaY, hX_STEP_Y⟩ := jX_of (tm := (.static "BargeBasin" "STEP_Y" "[I")) (f := sv_STEP_Y) (A := fun q : Nat => s.heap.size ≤ q) (hg _ (by decide +kernel)) (hg _ (by decide +kernel)) (hg _ (by decide +kernel)) (hg _ (by decide +kernel)) (hg _ (by decide +kernel)) (hg _ (by decide +kernel)) hAn
  have hZ_STEP_Y : va_Z "BargeBasin" "STEP_Y" "[I" (.ref aY) (fun q : Nat => s.heap.size ≤ q) s s.heap := va_Zof (hts0 (.laysStatic "BargeBasin" "STEP_Y" "[I") (by decide +kernel)) (hts (.initialized RX6) (List.mem_of_getElem? (i := 2) (by decide +kernel))) eaY hAn
  have hU : vx_Zq Bundle.tN "UNASSIGNED_STACK" Bundle.steD (fun q : Nat => s.heap.size ≤ q) s s.heap := vx_Zqof (hts0 (.laysStatic Bundle.tN "UNASSIGNED_STACK" Bundle.steD) (by decide +kernel)) (hts0 (.initialized Bundle.tN) (by decide +kernel)) (hg _ (by decide +kernel)) hAn
  have hNN : vx_Zq Bundle.tN "SUPPRESSED_SENTINEL" Bundle.listD (fun q : Nat => s.heap.size ≤ q) s s.heap := vx_Zqof (hts0 (.laysStatic Bundle.tN "SUPPRESSED_SENTINEL" Bundle.listD) (by decide +kernel)) (hts0 (.initialized Bundle.tN) (by decide +kernel)) (hg _ (by decide +kernel)) hAn
  have Cx : lwCx p s m c b L xs D cT (fun q : Nat => s.heap.size ≤ q) aS aX aY := ⟨hx, hb, hml, hown, hts, hK, hN, hA, hX, hbl, hbA, hZ_STEP, hX_STEP, hZ_STEP_X, hX_STEP_X, hZ_STEP_Y, hX_STEP_Y⟩
  have hS : va_S (fun q : Nat => s.heap.size ≤ q) s.heap s.heap [] := va_S.rf
  have hP : va_P D vwCl [] s.heap := fun k q h => by simp at h
  have hD : va_D (fun q : Nat => s.heap.size ≤ q) [] := ⟨fun i j p q h => by simp at h, fun k q h => by simp at h⟩
  have hl := lv_entry ([.ref b]) (n := 7) (Nat.le_of_ble_eq_true rfl)
  rw [lg_entry_eq]
  generalize (lg_sl ([.ref b]) ++ List.replicate (7 - (lg_sl ([.ref b])).length) Slot.unset).toArray = ls at hl ⊢
  have hl : lv_has ls 7 [(0, .ref b)] := hl
  refine va_new (ci := 6) (fs := [.null, .null, .null, .null, .null, .null, .int 0, .int 0, .int 0, .int 0, .int 0, .null, .null]) (C := RX6) (T := TX6) (N := 13) hx hb hts0 inX6 tyX6 tyX6_ok hown (hts (.classLink RL 8 RX6) (List.mem_of_getElem? (i := 0) (by decide +kernel))) (hts (.instantiable RX6 13) (List.mem_of_getElem? (i := 1) (by decide +kernel))) (hts (.initialized RX6) (List.mem_of_getElem? (i := 2) (by decide +kernel))) hK hP hD hS hA rfl (fun j hj => by rcases (show j = 0 ∨ j = 1 ∨ j = 2 ∨ j = 3 ∨ j = 4 ∨ j = 5 ∨ j = 6 ∨ j = 7 ∨ j = 8 ∨ j = 9 ∨ j = 10 ∨ j = 11 ∨ j = 12 by omega) with rfl | rfl | rfl | rfl | rfl | rfl | rfl | rfl | rfl | rfl | rfl | rfl | rfl <;> rfl) (Nat.le_of_ble_eq_true rfl) (Nat.le_of_ble_eq_true rfl) dL_law_0 (fun qx H hP hD hS => ?_)
  replace hP : va_P D vwCl [(qx, .inr (6, [.null, .null, .null, .null, .null, .null, .int 0, .int 0, .int 0, .int 0, .int 0, .null, .null]))] H := hP
  replace hD : va_D (fun q : Nat => s.heap.size ≤ q) [(qx, .inr (6, [.null, .null, .null, .null, .null, .null, .int 0, .int 0, .int 0, .int 0, .int 0, .null, .null]))] := hD
  refine W.widen (k := 1) (n := 13) (Nat.le_of_ble_eq_true rfl) (Nat.le_of_ble_eq_true rfl) ?_
  refine lv_dup hx hb dL_law_3 rfl ?_
  have hFc := va_free (wc := [(qx, .inr (6, [.null, .null, .null, .null, .null, .null, .int 0, .int 0, .int 0, .int 0, .int 0, .null, .null]))]) hD hS hA [0] rfl
  refine va_callv (va_runI (As := []) (rest := [.ref qx]) ⟨hx, hb, hml, hown, hts⟩ (c_f_BargeBasin_init l D cT H.size qx 0 0 0 0 0 _ _ _ rfl) (cwI 0 hts gL_law_X6_init rfl rfl rfl (hts (.initialized RX6) (List.mem_of_getElem? (i := 2) (by decide +kernel))) (hts (.methodLink RL 15 yX6_init) (List.mem_of_getElem? (i := 7) (by decide +kernel))) (hts (.instanceMethod yX6_init) (List.mem_of_getElem? (i := 8) (by decide +kernel))) rfl (by decide +kernel) ⟨Nat.le_of_ble_eq_true rfl, Nat.le_of_ble_eq_true rfl⟩) ⟨fun a U g mk q => by obtain ⟨q0, q1, qP, qK, qN, qD⟩ := q; exact ⟨q0, q1, qP, va_K.moved (u := U) (U := U.calling g mk a) (Vm.Alike.refl U.vm) qK, jNw_same (u := U) (U := U.calling g mk a) rfl qN, qD⟩, fun U hU9 hW => ⟨rfl, by rw [hU9], by rw [hU9]; exact hP, va_K.moved hW.alike hK, jNw_warm hW hN, hD.weaken (fun _ _ _ _ => trivial)⟩⟩ rfl rfl hl.1 rfl (lv_room (Nat.le_of_ble_eq_true rfl)) dL_law_4 ⟨Nat.le_of_ble_eq_true rfl, Nat.le_of_ble_eq_true rfl⟩) hS (fun q _ h => hFc q h) hFc (fun u t H1 locs ht hvm _ hB hz1 hk1 hS => ?_)
  obtain ⟨a_lines, a_lines_sort, a_lines_size, a_lines_numbers, a_lines_carried, a_chart, a_chart_kind, a_chart_place, a_chart_length, a_chart_gate, a_chart_across, a_chart_wide, a_chart_high, a_chart_shape, a_trial, a_trial_kind, a_trial_place, a_trial_length, a_trial_gate, a_trial_across, a_trial_wide, a_trial_high, a_trial_shape, a_log, a_log_moves, a_shelves, a_shown, hP1, hK1, hD1⟩ := hB
  rw [ht] at hP1
  replace hD : va_D (fun q : Nat => s.heap.size ≤ q) (wX (fun i => List.getD [qx, a_lines, a_lines_sort, a_lines_size, a_lines_numbers, a_lines_carried, a_chart, a_chart_kind, a_chart_place, a_chart_length, a_chart_gate, a_chart_across, a_chart_wide, a_chart_high, a_chart_shape, a_trial, a_trial_kind, a_trial_place, a_trial_length, a_trial_gate, a_trial_across, a_trial_wide, a_trial_high, a_trial_shape, a_log, a_log_moves, a_shelves, a_shown] i 0) .null .null cT (0, 0, -1, -1, -1) (fun _ => 0, fun _ => 0, fun _ => 0, fun _ => 0) ((0 : Int32), (0 : Int32), (0 : Int32), (0 : Int64), (0 : Int64), fun _ => 0, fun _ => 0, fun _ => 0, fun _ => 0, fun _ => 0, fun _ => 0, fun _ => 0, fun _ => 0) ((0 : Int32), (0 : Int32), (0 : Int32), (0 : Int64), (0 : Int64), fun _ => 0, fun _ => 0, fun _ => 0, fun _ => 0, fun _ => 0, fun _ => 0, fun _ => 0, fun _ => 0) ((0 : Int32), (0 : Int32), (0 : Int32), fun _ => 0) (fun _ => none) (fun _ => 0)) := hD1.weaken (fun k q _ h => hFc q.1 h)
  replace hP : va_P D vwCl (wX (fun i => List.getD [qx, a_lines, a_lines_sort, a_lines_size, a_lines_numbers, a_lines_carried, a_chart, a_chart_kind, a_chart_place, a_chart_length, a_chart_gate, a_chart_across, a_chart_wide, a_chart_high, a_chart_shape, a_trial, a_trial_kind, a_trial_place, a_trial_length, a_trial_gate, a_trial_across, a_trial_wide, a_trial_high, a_trial_shape, a_log, a_log_moves, a_shelves, a_shown] i 0) .null .null cT (0, 0, -1, -1, -1) (fun _ => 0, fun _ => 0, fun _ => 0, fun _ => 0) ((0 : Int32), (0 : Int32), (0 : Int32), (0 : Int64), (0 : Int64), fun _ => 0, fun _ => 0, fun _ => 0, fun _ => 0, fun _ => 0, fun _ => 0, fun _ => 0, fun _ => 0) ((0 : Int32), (0 : Int32), (0 : Int32), (0 : Int64), (0 : Int64), fun _ => 0, fun _ => 0, fun _ => 0, fun _ => 0, fun _ => 0, fun _ => 0, fun _ => 0, fun _ => 0) ((0 : Int32), (0 : Int32), (0 : Int32), fun _ => 0) (fun _ => none) (fun _ => 0)) H1 := hP1
  clear hP1 hD1 hK1
  refine W.widen (k := 28) (n := 399) (Nat.le_of_ble_eq_true rfl) (Nat.le_of_ble_eq_true rfl) ?_
  refine lv_astore_n (lv' := [(1, .ref qx), (0, .ref b)]) hx hb dL_law_7 rfl hl (by decide) rfl (fun ls hl => ?_)
  obtain ⟨wx, ewx⟩ : ∃ z : va_W, z = wX (fun i => List.getD [qx, a_lines, a_lines_sort, a_lines_size, a_lines_numbers, a_lines_carried, a_chart, a_chart_kind, a_chart_place, a_chart_length, a_chart_gate, a_chart_across, a_chart_wide, a_chart_high, a_chart_shape, a_trial, a_trial_kind, a_trial_place, a_trial_length, a_trial_gate, a_trial_across, a_trial_wide, a_trial_high, a_trial_shape, a_log, a_log_moves, a_shelves, a_shown] i 0) .null .null cT (0, 0, -1, -1, -1) (fun _ => 0, fun _ => 0, fun _ => 0, fun _ => 0) ((0 : Int32), (0 : Int32), (0 : Int32), (0 : Int64), (0 : Int64), fun _ => 0, fun _ => 0, fun _ => 0, fun _ => 0, fun _ => 0, fun _ => 0, fun _ => 0, fun _ => 0) ((0 : Int32), (0 : Int32), (0 : Int32), (0 : Int64), (0 : Int64), fun _ => 0, fun _ => 0, fun _ => 0, fun _ => 0, fun _ => 0, fun _ => 0, fun _ => 0, fun _ => 0) ((0 : Int32), (0 : Int32), (0 : Int32), fun _ => 0) (fun _ => none) (fun _ => 0) := ⟨_, rfl⟩
  rw [← ewx] at hP hD
  refine va_new (ci := 7) (fs := [.int 0, .int 0, .int 0, .int 0, .int 0, .null, .null, .null, .null, .int 0, .null, .null, .null, .null, .null, .int 0, .int 0, .null, .null, .null, .null, .null, .null, .int 0, .int 0, .int 0, .int 0, .int 0, .null, .null, .null, .int 0, .null, .null, .null, .null, .null, .null, .null, .null, .null, .null, .null, .null, .int 0, .null, .null, .null, .null, .null, .null, .null, .null, .null, .null, .null, .null, .null, .null, .int 0, .null, .null, .int 0, .null, .int 0, .int 0, .null, .null, .null, .null, .null, .null]) (C := RX7) (T := TX7) (N := 72) hx hb hts0 inX7 tyX7 tyX7_ok hown (hts (.classLink RL 16 RX7) (List.mem_of_getElem? (i := 3) (by decide +kernel))) (hts (.instantiable RX7 72) (List.mem_of_getElem? (i := 4) (by decide +kernel))) (hts (.initialized RX7) (List.mem_of_getElem? (i := 5) (by decide +kernel))) hK hP hD hS hA rfl (fun j hj => by rcases (show j = 0 ∨ j = 1 ∨ j = 2 ∨ j = 3 ∨ j = 4 ∨ j = 5 ∨ j = 6 ∨ j = 7 ∨ j = 8 ∨ j = 9 ∨ j = 10 ∨ j = 11 ∨ j = 12 ∨ j = 13 ∨ j = 14 ∨ j = 15 ∨ j = 16 ∨ j = 17 ∨ j = 18 ∨ j = 19 ∨ j = 20 ∨ j = 21 ∨ j = 22 ∨ j = 23 ∨ j = 24 ∨ j = 25 ∨ j = 26 ∨ j = 27 ∨ j = 28 ∨ j = 29 ∨ j = 30 ∨ j = 31 ∨ j = 32 ∨ j = 33 ∨ j = 34 ∨ j = 35 ∨ j = 36 ∨ j = 37 ∨ j = 38 ∨ j = 39 ∨ j = 40 ∨ j = 41 ∨ j = 42 ∨ j = 43 ∨ j = 44 ∨ j = 45 ∨ j = 46 ∨ j = 47 ∨ j = 48 ∨ j = 49 ∨ j = 50 ∨ j = 51 ∨ j = 52 ∨ j = 53 ∨ j = 54 ∨ j = 55 ∨ j = 56 ∨ j = 57 ∨ j = 58 ∨ j = 59 ∨ j = 60 ∨ j = 61 ∨ j = 62 ∨ j = 63 ∨ j = 64 ∨ j = 65 ∨ j = 66 ∨ j = 67 ∨ j = 68 ∨ j = 69 ∨ j = 70 ∨ j = 71 by omega) with rfl | rfl | rfl | rfl | rfl | rfl | rfl | rfl | rfl | rfl | rfl | rfl | rfl | rfl | rfl | rfl | rfl | rfl | rfl | rfl | rfl | rfl | rfl | rfl | rfl | rfl | rfl | rfl | rfl | rfl | rfl | rfl | rfl | rfl | rfl | rfl | rfl | rfl | rfl | rfl | rfl | rfl | rfl | rfl | rfl | rfl | rfl | rfl | rfl | rfl | rfl | rfl | rfl | rfl | rfl | rfl | rfl | rfl | rfl | rfl | rfl | rfl | rfl | rfl | rfl | rfl | rfl | rfl | rfl | rfl | rfl | rfl <;> rfl) (Nat.le_of_ble_eq_true rfl) (Nat.le_of_ble_eq_true rfl) dL_law_8 (fun qm H hP hD hS => ?_)
  replace hP : va_P D vwCl (wx ++ [(qm, .inr (7, [.int 0, .int 0, .int 0, .int 0, .int 0, .null, .null, .null, .null, .int 0, .null, .null, .null, .null, .null, .int 0, .int 0, .null, .null, .null, .null, .null, .null, .int 0, .int 0, .int 0, .int 0, .int 0, .null, .null, .null, .int 0, .null, .null, .null, .null, .null, .null, .null, .null, .null, .null, .null, .null, .int 0, .null, .null, .null, .null, .null, .null, .null, .null, .null, .null, .null, .null, .null, .null, .int 0, .null, .null, .int 0, .null, .int 0, .int 0, .null, .null, .null, .null, .null, .null]))]) H := hP
  replace hD : va_D (fun q : Nat => s.heap.size ≤ q) (wx ++ [(qm, .inr (7, [.int 0, .int 0, .int 0, .int 0, .int 0, .null, .null, .null, .null, .int 0, .null, .null, .null, .null, .null, .int 0, .int 0, .null, .null, .null, .null, .null, .null, .int 0, .int 0, .int 0, .int 0, .int 0, .null, .null, .null, .int 0, .null, .null, .null, .null, .null, .null, .null, .null, .null, .null, .null, .null, .int 0, .null, .null, .null, .null, .null, .null, .null, .null, .null, .null, .null, .null, .null, .null, .int 0, .null, .null, .int 0, .null, .int 0, .int 0, .null, .null, .null, .null, .null, .null]))]) := hD
  refine W.widen (k := 29) (n := 471) (Nat.le_of_ble_eq_true rfl) (Nat.le_of_ble_eq_true rfl) ?_
  refine lv_dup hx hb dL_law_11 rfl ?_
  obtain ⟨hP, hD⟩ := jl_perm (List.perm_append_comm) hP hD
  obtain ⟨hPc, hDc⟩ := jl_sub (cx := [(qm, .inr (7, [.int 0, .int 0, .int 0, .int 0, .int 0, .null, .null, .null, .null, .int 0, .null, .null, .null, .null, .null, .int 0, .int 0, .null, .null, .null, .null, .null, .null, .int 0, .int 0, .int 0, .int 0, .int 0, .null, .null, .null, .int 0, .null, .null, .null, .null, .null, .null, .null, .null, .null, .null, .null, .null, .int 0, .null, .null, .null, .null, .null, .null, .null, .null, .null, .null, .null, .null, .null, .null, .int 0, .null, .null, .int 0, .null, .int 0, .int 0, .null, .null, .null, .null, .null, .null]))]) hP hD [0] (by decide) rfl
  have hFc := jl_free (cx := [(qm, .inr (7, [.int 0, .int 0, .int 0, .int 0, .int 0, .null, .null, .null, .null, .int 0, .null, .null, .null, .null, .null, .int 0, .int 0, .null, .null, .null, .null, .null, .null, .int 0, .int 0, .int 0, .int 0, .int 0, .null, .null, .null, .int 0, .null, .null, .null, .null, .null, .null, .null, .null, .null, .null, .null, .null, .int 0, .null, .null, .null, .null, .null, .null, .null, .null, .null, .null, .null, .null, .null, .null, .int 0, .null, .null, .int 0, .null, .int 0, .int 0, .null, .null, .null, .null, .null, .null]))]) hD hS hA [0] rfl
  refine va_callv (va_runI (As := []) (rest := [.ref qm]) ⟨hx, hb, hml, hown, hts⟩ (c_minit l D cT H.size qm) (cwI 0 hts gL_law_X7_init rfl rfl rfl (hts (.initialized RX7) (List.mem_of_getElem? (i := 5) (by decide +kernel))) (hts (.methodLink RL 18 yX7_init) (List.mem_of_getElem? (i := 56) (by decide +kernel))) (hts (.instanceMethod yX7_init) (List.mem_of_getElem? (i := 57) (by decide +kernel))) rfl (by decide +kernel) ⟨Nat.le_of_ble_eq_true rfl, Nat.le_of_ble_eq_true rfl⟩) ⟨fun a U g mk q => by obtain ⟨q0, q1, qP, qK, qN, qD⟩ := q; exact ⟨q0, q1, qP, va_K.moved (u := U) (U := U.calling g mk a) (Vm.Alike.refl U.vm) qK, jNw_same (u := U) (U := U.calling g mk a) rfl qN, qD⟩, fun U hU9 hW => ⟨rfl, by rw [hU9], by rw [hU9]; exact hPc, va_K.moved hW.alike hK, jNw_warm hW hN, hDc.weaken (fun _ _ _ _ => trivial)⟩⟩ rfl rfl hl.1 rfl (lv_room (Nat.le_of_ble_eq_true rfl)) dL_law_12 ⟨Nat.le_of_ble_eq_true rfl, Nat.le_of_ble_eq_true rfl⟩) hS (fun q _ h => hFc q h) hFc (fun u t H1 locs ht hvm _ hB hz1 hk1 hS => ?_)
  obtain ⟨ma, ema, hP1, hK1, hD1⟩ := hB
  subst ema
  rw [ht] at hP1
  have hPD := va_joinQ (X := [((ma 0), .inr (7, [.int 0, .int 0, .int 0, .int 0, .int 0, .null, .null, .null, .null, .int 0, .null, .null, .null, .null, .null, .int 0, .int 0, .null, .null, .null, .null, .null, .null, .int 0, .int 0, .int 0, .int 0, .int 0, .null, .null, .null, .int 0, .null, .null, .null, .null, .null, .null, .null, .null, .null, .null, .null, .null, .int 0, .null, .null, .null, .null, .null, .null, .null, .null, .null, .null, .null, .null, .null, .null, .int 0, .null, .null, .int 0, .null, .int 0, .int 0, .null, .null, .null, .null, .null, .null]))]) (wr := []) (w1 := wM ma cT (0, 0, 0, 0, 0, 0, 0, 0) (-1, -1, -1) (0, 0, fun _ => 0, fun _ => 0, fun _ => 0) (fun _ => 0, fun _ => 0, fun _ => 0, fun _ => 0) (fun _ => 0, fun _ => 0, fun _ => 0, fun _ => 0, fun _ => 0) (fun _ => 0, fun _ => 0, fun _ => 0, fun _ => 0, fun _ => 0, fun _ => 0) (0, 0, fun _ => 0, fun _ => 0, fun _ => 0, fun _ => 0, fun _ => 0, fun _ => 0, fun _ => 0, fun _ => 0, fun _ => 0, fun _ => 0, fun _ => 0, fun _ => 0, fun _ => 0) (fun _ => 0, fun _ => 0, fun _ => 0, fun _ => 0, fun _ => 0, fun _ => 0, fun _ => 0, fun _ => 0, fun _ => 0, fun _ => 0) (0, fun _ => 0) (0, 0, 0, fun _ => 0, fun _ => 0, fun _ => 0, fun _ => 0, fun _ => 0, fun _ => 0, fun _ => 0, fun _ => 0, fun _ => 0, fun _ => 0, fun _ => 0)) hP hD [0] [] rfl rfl (by decide) (by decide) hk1 hFc hP1 hD1
  obtain ⟨hP, hD⟩ := hPD
  obtain ⟨wm, ewm⟩ : ∃ z : va_W, z = wM ma cT (0, 0, 0, 0, 0, 0, 0, 0) (-1, -1, -1) (0, 0, fun _ => 0, fun _ => 0, fun _ => 0) (fun _ => 0, fun _ => 0, fun _ => 0, fun _ => 0) (fun _ => 0, fun _ => 0, fun _ => 0, fun _ => 0, fun _ => 0) (fun _ => 0, fun _ => 0, fun _ => 0, fun _ => 0, fun _ => 0, fun _ => 0) (0, 0, fun _ => 0, fun _ => 0, fun _ => 0, fun _ => 0, fun _ => 0, fun _ => 0, fun _ => 0, fun _ => 0, fun _ => 0, fun _ => 0, fun _ => 0, fun _ => 0, fun _ => 0) (fun _ => 0, fun _ => 0, fun _ => 0, fun _ => 0, fun _ => 0, fun _ => 0, fun _ => 0, fun _ => 0, fun _ => 0, fun _ => 0) (0, fun _ => 0) (0, 0, 0, fun _ => 0, fun _ => 0, fun _ => 0, fun _ => 0, fun _ => 0, fun _ => 0, fun _ => 0, fun _ => 0, fun _ => 0, fun _ => 0, fun _ => 0) := ⟨_, rfl⟩
  replace hP : va_P D vwCl (wm ++ wx) H1 := by rw [ewm]; exact hP
  replace hD : va_D (fun q : Nat => s.heap.size ≤ q) (wm ++ wx) := by rw [ewm]; exact hD
  clear hP1 hD1 hK1
  refine W.widen (k := 82) (n := 2182245) (Nat.le_of_ble_eq_true rfl) (Nat.le_of_ble_eq_true rfl) ?_
  refine lv_astore_n (lv' := [(2, .ref (ma 0)), (1, .ref qx), (0, .ref b)]) hx hb dL_law_15 rfl hl (by decide) rfl (fun ls hl => ?_)
  refine lv_iconst (v := 1) hx hb dL_law_16 (by decide) ?_
  refine jnewa (atype := .long) (t0 := 1) (ty := .long) (N2 := 1) (a0 := (1, .inr (.inl (fun _ => 0)))) hx hb (hts (.arrayClass .long) (List.mem_of_getElem? (i := 6) (by decide +kernel))) rfl hK hP hD hS hA rfl (fun _ => rfl) (by decide) (by decide) (by decide) (Nat.le_of_ble_eq_true rfl) (Nat.le_of_ble_eq_true rfl) dL_law_17 (fun oa H hP hD hS => ?_)
  refine W.widen (k := 83) (n := 2182246) (Nat.le_of_ble_eq_true rfl) (Nat.le_of_ble_eq_true rfl) ?_
  refine lv_astore_n (lv' := [(3, .ref oa), (2, .ref (ma 0)), (1, .ref qx), (0, .ref b)]) hx hb dL_law_19 rfl hl (by decide) rfl (fun ls hl => ?_)
  refine lv_iconst (v := 0) hx hb dL_law_20 (by decide) ?_
  refine lv_istore (lv' := [(4, .int 0), (3, .ref oa), (2, .ref (ma 0)), (1, .ref qx), (0, .ref b)]) hx hb dL_law_21 hl (by decide) rfl (fun ls hl => ?_)
  obtain ⟨hP, hD⟩ := jl_perm (lw_s0 (x := wx) (m := wm)) hP hD
  subst ewx
  subst ewm
  refine law_loop (xa := fun i => List.getD [qx, a_lines, a_lines_sort, a_lines_size, a_lines_numbers, a_lines_carried, a_chart, a_chart_kind, a_chart_place, a_chart_length, a_chart_gate, a_chart_across, a_chart_wide, a_chart_high, a_chart_shape, a_trial, a_trial_kind, a_trial_place, a_trial_length, a_trial_gate, a_trial_across, a_trial_wide, a_trial_high, a_trial_shape, a_log, a_log_moves, a_shelves, a_shown] i 0) hL Cx hlt hU hNN hTw hr hlocks (L + 1) 0 0 (by omega) (by omega) nI_0.symm _ _ _ _ ⟨.null, .null, _, _, _, _, _, _, _, _, _, _, _, _, _, _, _, _, _, _, [], [], [], [], [], [], hP, hD, ⟨rfl, rfl, Or.inl ⟨rfl, rfl, 0, nI_0.symm, by decide⟩, ⟨0, Nat.zero_le _, nI_0.symm, nI_0.symm, fun i hi => absurd hi (Nat.not_lt_zero i)⟩⟩, Or.inl ⟨rfl, rfl⟩, Or.inl ⟨rfl, rfl, rfl⟩, Or.inl ⟨rfl, rfl, rfl⟩, Or.inl ⟨rfl, rfl, rfl⟩, Or.inl ⟨rfl, rfl, rfl⟩, Or.inl ⟨rfl, rfl, rfl⟩, (Nat.le_of_ble_eq_true rfl), (Nat.le_of_ble_eq_true rfl)⟩ hS ls (lv_sub hl [4, 3, 2, 1, 0] rfl)
